/-! lines of a text of THE LAW -/
abbrev yQ : Type := Nat × (Nat → Nat) × (Nat → Nat) × (Nat → Nat) × List Nat
def zQW (Q : yQ) : zLw := (Q.1, Q.2.1, Q.2.2.1, Q.2.2.2.1, (fun j => Q.2.2.2.2.getD j 0), Q.2.2.2.2.length, true)
def yQc (g : zM) (Q : yQ) : Prop := g 439 7 = nI Q.1 ∧ (∀ i, i < Q.1 → g 440 i = nI (Q.2.1 i) ∧ g 441 i = nI (Q.2.2.1 i) ∧ g 442 i = nI (Q.2.2.2.1 i)) ∧ zKc g Q.2.2.2.2
def zQr (g : zM) (Q : yQ) : Prop := (∀ i, i < Q.1 → g 494 (1310 + 4 * i) = nI (Q.2.1 i) ∧ g 494 (1310 + 4 * i + 1) = nI (Q.2.2.1 i) ∧ g 494 (1310 + 4 * i + 2) = nI (zbg (zQW Q) i) ∧ g 494 (1310 + 4 * i + 3) = nI (Q.2.2.2.1 i)) ∧ zKr g Q.2.2.2.2
def zQok (Q : yQ) : Prop := zWW (zQW Q) ∧ zbg (zQW Q) Q.1 = Q.2.2.2.2.length
def zQf (g0 g : zM) : Prop := (∀ c, (c < 434 ∨ 444 ≤ c) → g c = g0 c) ∧ g 439 8 = g0 439 8
def zQrf (g0 g : zM) : Prop := (∀ c, c ≠ 493 → c ≠ 494 → g c = g0 c) ∧ (∀ j, j ≠ 10 → j ≠ 12 → j ≠ 13 → j ≠ 16 → g 493 j = g0 493 j) ∧ ∀ j, j < 1309 → g 494 j = g0 494 j
theorem zQrf.fp {g0 g g1 : zM} (a : zQrf g0 g) (f : zFP g g1) : zQrf g0 g1 := ⟨fun c h1 h2 => (f.1 c h1).trans (a.1 c h1 h2), fun j h1 h2 h3 h4 => (f.2 j h1 h2).trans (a.2.1 j h1 h2 h3 h4), fun j h => by rw [f.1 494 (by omega)]; exact a.2.2 j h⟩
theorem zQrf.kf {g0 g g1 : zM} (a : zQrf g0 g) (f : zKrf g g1) : zQrf g0 g1 := ⟨fun c h1 h2 => (f.1 c h1 h2).trans (a.1 c h1 h2), fun j h1 h2 h3 h4 => (f.2.1 j h1 h2 h3 h4).trans (a.2.1 j h1 h2 h3 h4), fun j h => (f.2.2 j (by omega)).trans (a.2.2 j h)⟩
theorem zQrf.set {g0 g : zM} {i : Nat} {v : Int32} (a : zQrf g0 g) (h : 1309 ≤ i) : zQrf g0 (zset g 494 i v) := ⟨fun c h1 h2 => by rw [zs_cell h2]; exact a.1 c h1 h2, fun j h1 h2 h3 h4 => by rw [zs_cell (by omega)]; exact a.2.1 j h1 h2 h3 h4, fun j h => by rw [zs_miss (by omega)]; exact a.2.2 j h⟩
theorem zQrf.dep {g0 g : zM} {v : Int32} (a : zQrf g0 g) : zQrf g0 (zset g 493 13 v) := ⟨fun c h1 h2 => by rw [zs_cell h1]; exact a.1 c h1 h2, fun j h1 h2 h3 h4 => by rw [zs_miss (by omega)]; exact a.2.1 j h1 h2 h3 h4, fun j h => by rw [zs_cell (by omega)]; exact a.2.2 j h⟩
theorem zQf.kf {g0 g g1 : zM} (a : zQf g0 g) (f : zKf g g1) : zQf g0 g1 := ⟨fun c h => (f.1 c (by omega)).trans (a.1 c h), (f.2 8 (by omega)).trans a.2⟩
theorem zQf.set {g0 g : zM} {c j : Nat} {v : Int32} (a : zQf g0 g) (h1 : 434 ≤ c) (h2 : c < 444) (h3 : ¬ (c = 439 ∧ j = 8)) : zQf g0 (zset g c j v) := ⟨fun d h => by rw [zs_cell (by omega)]; exact a.1 d h, by rw [zs_miss (by omega)]; exact a.2⟩
def zQC (g0 : zM) (n : Nat) (b : Nat → Nat) (N : Nat) (Q : yQ) (k : Nat) (g : zM) : Prop := zCP g 434 n b N k ∧ yQc g Q ∧ zQf g0 g
def zQR (g0 : zM) (n : Nat) (b : Nat → Nat) (N : Nat) (Q : yQ) (k : Nat) (g : zM) : Prop := zRP g n b N k ∧ zQr g Q ∧ zQrf g0 g
def zQT (g0 : zM) (n : Nat) (b : Nat → Nat) (N : Nat) (Q : yQ) (k : Nat) (g : zM) : Prop := zRt g n b N k ∧ zQr g Q ∧ zQrf g0 g
theorem zQr.fp {g g1 : zM} {Q : yQ} (e : zQr g Q) (f : zFP g g1) : zQr g1 Q := ⟨fun i hi => by rw [f.1 494 (by omega)]; exact e.1 i hi, e.2.fp f⟩
theorem yQc.go {g : zM} {Q : yQ} {j : Nat} {v : Int32} (e : yQc g Q) : yQc (zset g 434 j v) Q := ⟨by rw [zs_cell (by omega)]; exact e.1, fun i hi => by rw [zs_cell (by omega), zs_cell (by omega), zs_cell (by omega)]; exact e.2.1 i hi, by rw [zs_cell (by omega)]; exact e.2.2.1, fun i hi => by rw [zs_cell (by omega)]; exact e.2.2.2 i hi⟩
theorem zQC.go {g0 g : zM} {n N k j : Nat} {b : Nat → Nat} {Q : yQ} (e : zQC g0 n b N Q k g) (hj : j ≤ N) : zQC g0 n b N Q j (zset g 434 6 (nI j)) := ⟨e.1.go hj, e.2.1.go, e.2.2.set (by omega) (by omega) (by omega)⟩
def zQoC (g0 : zM) (n : Nat) (b : Nat → Nat) (N : Nat) : Except Nat (Nat × yQ) → Option (Int32 × zM) → Prop
  | .ok q, x => ∃ g1, x = some (1, g1) ∧ zQC g0 n b N q.2 q.1 g1
  | .error t, x => ∃ g1, x = some (0, g1) ∧ g1 434 7 = nI t ∧ zQf g0 g1
def zQoR (g0 : zM) (n : Nat) (b : Nat → Nat) (N : Nat) : Except Nat (Nat × yQ) → Option (Int32 × zM) → Prop
  | .ok q, x => ∃ g1, x = some (1, g1) ∧ zQR g0 n b N q.2 q.1 g1
  | .error t, x => ∃ g1, x = some (0, g1) ∧ g1 493 12 = nI t ∧ zQrf g0 g1
/-- one more line -/
def zQa (Q : yQ) (a c : Nat) (l : List Nat) : yQ := (Q.1 + 1, zup Q.2.1 Q.1 a, zup Q.2.2.1 Q.1 c, zup Q.2.2.2.1 Q.1 (Q.2.2.2.2 ++ l).length, Q.2.2.2.2 ++ l)
theorem zcl_ext {f g : Nat → Nat} : ∀ d b, (∀ j, b ≤ j → j < b + d → f j = g j) → zcl f d b = zcl g d b
  | 0, _, _ => rfl
  | d + 1, b, h => by
    show f b :: zcl f d (b + 1) = g b :: zcl g d (b + 1)
    rw [h b (Nat.le_refl _) (by omega), zcl_ext d (b + 1) (fun j h1 h2 => h j (by omega) (by omega))]
theorem zcl_list : ∀ (l A : List Nat), zcl (fun j => (A ++ l).getD j 0) l.length A.length = l
  | [], _ => rfl
  | c :: l, A => by
    show (A ++ c :: l).getD A.length 0 :: zcl (fun j => (A ++ c :: l).getD j 0) l.length (A.length + 1) = c :: l
    have h := zcl_list l (A ++ [c])
    rw [List.append_assoc, List.length_append] at h
    have h0 : (A ++ c :: l).getD A.length 0 = c := by
      rw [List.getD_eq_getElem?_getD, List.getElem?_append_right (Nat.le_refl _), Nat.sub_self]
      rfl
    rw [h0]
    exact congrArg (c :: ·) h
theorem getD_l2 {C l : List Nat} {j : Nat} (h : j < C.length) : (C ++ l).getD j 0 = C.getD j 0 := by
  rw [List.getD_eq_getElem?_getD, List.getD_eq_getElem?_getD, List.getElem?_append_left h]
theorem zQa_bg {Q : yQ} {a c : Nat} {l : List Nat} {i : Nat} (hi : i ≤ Q.1) : zbg (zQW (zQa Q a c l)) i = zbg (zQW Q) i := by
  unfold zbg
  by_cases q : i = 0
  · rw [if_pos q, if_pos q]
  · rw [if_neg q, if_neg q]
    show zup Q.2.2.2.1 Q.1 _ (i - 1) = Q.2.2.2.1 (i - 1)
    rw [zup_miss (by omega)]
theorem zQa_ok {Q : yQ} {a c : Nat} {l : List Nat} (h : zQok Q) (h12 : Q.1 < 12) (ha : a < 12) (hc : c < 12) (hl : (Q.2.2.2.2 ++ l).length ≤ 400) (hP : l = [] ∨ zPt l) : zQok (zQa Q a c l) := by
  obtain ⟨⟨w1, w2, w3, w4⟩, w5⟩ := h
  have hlen : (Q.2.2.2.2 ++ l).length = Q.2.2.2.2.length + l.length := List.length_append
  refine ⟨⟨h12, hl, fun i hi => ?_, fun q => nomatch q⟩, ?_⟩
  · have hi' : i < Q.1 + 1 := hi
    show zup Q.2.1 Q.1 a i < 12 ∧ zup Q.2.2.1 Q.1 c i < 12 ∧ _
    by_cases q : i = Q.1
    · subst q
      rw [zup_hit rfl, zup_hit rfl]
      refine ⟨ha, hc, ?_⟩
      unfold zCok
      rw [zQa_bg (Nat.le_refl _), w5]
      have e1 : (zQW (zQa Q a c l)).2.2.2.1 Q.1 = (Q.2.2.2.2 ++ l).length := zup_hit rfl
      rw [e1]
      refine ⟨by omega, Nat.le_refl _, fun hlt => ?_⟩
      show ztc (zcl (fun j => (Q.2.2.2.2 ++ l).getD j 0) _ _) [] = _
      rw [show (Q.2.2.2.2 ++ l).length - Q.2.2.2.2.length = l.length from by omega, zcl_list]
      rcases hP with rfl | hP
      · rw [List.append_nil] at hlt; omega
      · exact hP []
    · rw [zup_miss q, zup_miss q]
      obtain ⟨y1, y2, y3, y4, y5⟩ := w3 i (by show i < Q.1; omega)
      refine ⟨y1, y2, ?_⟩
      unfold zCok
      rw [zQa_bg (by omega)]
      have e1 : (zQW (zQa Q a c l)).2.2.2.1 i = Q.2.2.2.1 i := zup_miss q
      have y4 : Q.2.2.2.1 i ≤ Q.2.2.2.2.length := y4
      rw [e1]
      refine ⟨y3, by show _ ≤ (Q.2.2.2.2 ++ l).length; omega, fun hlt => ?_⟩
      rw [← y5 hlt]
      congr 1
      refine zcl_ext _ _ (fun j h1 h2 => ?_)
      have y3 : zbg (zQW Q) i ≤ Q.2.2.2.1 i := y3
      exact getD_l2 (by omega)
  · unfold zbg
    show (if Q.1 + 1 = 0 then 0 else zup Q.2.2.2.1 Q.1 _ (Q.1 + 1 - 1)) = _
    rw [if_neg (by omega), zup_hit (by omega)]
    rfl
/-- the class's line is added -/
theorem c_addLine {g0 g : zM} {n N k a c : Nat} {b : Nat → Nat} {Q : yQ} {l : List Nat} (h1 : zCP g 434 n b N k) (h2 : g 439 7 = nI Q.1) (h3 : ∀ i, i < Q.1 → g 440 i = nI (Q.2.1 i) ∧ g 441 i = nI (Q.2.2.1 i) ∧ g 442 i = nI (Q.2.2.2.1 i)) (h4 : zKc g (Q.2.2.2.2 ++ l)) (h5 : zQf g0 g) (h12 : Q.1 < 12) : ∃ g1, fX1_addLine 439 (nI a) (nI c) g = some g1 ∧ zQC g0 n b N (zQa Q a c l) k g1 := by
  refine ⟨zset (zset (zset (zset g 440 Q.1 (nI a)) 441 Q.1 (nI c)) 442 Q.1 (nI (Q.2.2.2.2 ++ l).length)) 439 7 (nI (Q.1 + 1)), ?_, h1.fr (fun d h6 h7 => by rw [zs_cell (by omega), zs_cell (by omega), zs_cell (by omega), zs_cell (by omega)]), ⟨zs_hit ⟨rfl, rfl⟩, fun i hi => ?_, ?_, fun j hj => ?_⟩, ((h5.set (by omega) (by omega) (by omega)).set (by omega) (by omega) (by omega)).set (by omega) (by omega) (by omega) |>.set (by omega) (by omega) (by omega)⟩
  · have h41 := h4.1
    unfold fX1_addLine
    rw [h2, if_neg (by rw [nL_ge (by omega) (by decide)]; omega), zchk_n (by omega) (by omega), nI_cl (by omega), zput_e, zs_miss (by omega), h2, zchk_n (by omega) (by omega), nI_cl (by omega), zput_e, zs_miss (by omega), zs_miss (by omega), h2, zchk_n (by omega) (by omega), nI_cl (by omega), zs_miss (by omega), zs_miss (by omega), h41, zput_e, zput_e, zs_miss (by omega), zs_miss (by omega), zs_miss (by omega), h2, nI_1]
  · have hi' : i < Q.1 + 1 := hi
    show _ = nI (zup Q.2.1 Q.1 a i) ∧ _ = nI (zup Q.2.2.1 Q.1 c i) ∧ _ = nI (zup Q.2.2.2.1 Q.1 _ i)
    by_cases q : i = Q.1
    · rw [zup_hit q, zup_hit q, zup_hit q]
      exact ⟨by rw [zs_miss (by omega), zs_miss (by omega), zs_miss (by omega)]; exact zs_hit ⟨rfl, q⟩, by rw [zs_miss (by omega), zs_miss (by omega)]; exact zs_hit ⟨rfl, q⟩, by rw [zs_miss (by omega)]; exact zs_hit ⟨rfl, q⟩⟩
    · rw [zup_miss q, zup_miss q, zup_miss q]
      obtain ⟨y1, y2, y3⟩ := h3 i (by omega)
      exact ⟨by rw [zs_miss (by omega), zs_miss (by omega), zs_miss (by omega), zs_miss (by omega)]; exact y1, by rw [zs_miss (by omega), zs_miss (by omega), zs_miss (by omega), zs_miss (by omega)]; exact y2, by rw [zs_miss (by omega), zs_miss (by omega), zs_miss (by omega), zs_miss (by omega)]; exact y3⟩
  · rw [zs_miss (by omega), zs_miss (by omega), zs_miss (by omega), zs_miss (by omega)]; exact h4.1
  · rw [zs_miss (by omega), zs_miss (by omega), zs_miss (by omega), zs_miss (by omega)]; exact h4.2 j hj
theorem zQC.kc {g0 g : zM} {n N k : Nat} {b : Nat → Nat} {Q : yQ} (e : zQC g0 n b N Q k g) : zKC g n b N Q.2.2.2.2 k g := ⟨e.1, e.2.1.2.2, fun _ _ => rfl, fun _ _ => rfl⟩
def zQg (N k : Nat) (Q : yQ) (o : Except Nat (Nat × yQ)) : Prop := ∀ q, o = .ok q → zQok q.2 ∧ k < q.1 ∧ q.1 ≤ N ∧ q.2.2.2.2.2.length ≤ q.1 ∧ q.2.1 = Q.1 + 1
/-- the class's line -/
theorem q_line {n N k : Nat} {b : Nat → Nat} {Q : yQ} (x : zTx n b N) (hQ : zQok Q) (h12 : Q.1 < 12) (hk : k ≤ N) (hC : Q.2.2.2.2.length ≤ k) : ∃ o, zQg N k Q o ∧ (∀ g0 g, zQC g0 n b N Q k g → zQoC g0 n b N o (fX2_readLine g)) ∧ ∀ g0 g, zQT g0 n b N Q k g → zQoR g0 n b N o (fX12_readLawLine (nI Q.1) g) := by
  have h4 := x.b400
  have hN := x.le
  have a0 : ∀ i, i < 4 → (1310 + 4 * nI Q.1) + nI i = nI (1310 + 4 * Q.1 + i) := fun i _ => by rw [nL_mul, nL_dda, nI_add]
  have i0 : 1310 + 4 * nI Q.1 = nI (1310 + 4 * Q.1) := by rw [nL_mul, nL_dda]
  have i1 : 1310 + 4 * nI Q.1 + 1 = nI (1310 + 4 * Q.1 + 1) := a0 1 (by omega)
  have i2 : 1310 + 4 * nI Q.1 + 2 = nI (1310 + 4 * Q.1 + 2) := a0 2 (by omega)
  have i3 : 1310 + 4 * nI Q.1 + 3 = nI (1310 + 4 * Q.1 + 3) := a0 3 (by omega)
  cases qa : zkk b n k with
  | none =>
    refine ⟨.error (zT b n k), fun q h => (nomatch h), fun g0 g e => ?_, fun g0 g e => ?_⟩
    · refine ⟨_, ?_, zs_hit ⟨rfl, rfl⟩, e.2.2.set (by omega) (by omega) (by omega)⟩
      unfold fX2_readLine
      rw [c_takeKind x e.1, qa]
      rfl
    · refine ⟨zset g 494 (1310 + 4 * Q.1) (-1), ?_, by rw [zs_cell (by omega)]; exact e.1.2.2.1, e.2.2.set (by omega)⟩
      unfold fX12_readLawLine
      rw [r_told x e.1, qa, zb_s, i0, zchk_n (by omega) (by omega), nI_cl (by omega), zput_e, zchk_n (by omega) (by omega), zs_hit ⟨rfl, rfl⟩, if_neg (by decide)]
      rfl
  | some a =>
    obtain ⟨a1, a2, a3⟩ := zkk_some x hk qa
    have am : ¬ nI a = -1 := by rw [nI_m1 (by omega)]; exact id
    have ap : (0 : Int32) ≤ nI a := by rw [nL_ge (by omega) (by decide)]; omega
    have cl1 : ∀ g0 g, zQC g0 n b N Q k g → zQC g0 n b N Q (k + 1) (zset g 434 6 (nI (k + 1))) ∧ fX2_readLine g = zb2 (fX9_pass 434 1011 (zset g 434 6 (nI (k + 1)))) (fun r_3 g3 => if r_3 = 0 then some (0, g3) else zb2 (fX9_takeKind 434 g3) (fun r_5 g5 => if r_5 = ((-1)) then some (0, g5) else zb (fX9_code 434 g5) (fun r_7 => if r_7 = 1012 then zb (fX9_step 434 g5) (fun g10 => zb2 (fX2_readEither_T 0 g10) (fun r_11 g11 => if r_11 = 0 then some (0, g11) else zb (fX1_addLine 439 (nI a) r_5 g11) (fun g13 => some (1, g13)))) else zb (fX1_addLine 439 (nI a) r_5 g5) (fun g9 => some (1, g9))))) := by
      intro g0 g e
      refine ⟨e.go a1, ?_⟩
      unfold fX2_readLine
      rw [c_takeKind x e.1, qa]
      show zb2 (some (nI a, zset g 434 6 (nI (k + 1)))) _ = _
      rw [zb2_s, if_neg am]
    have rl1 : ∀ g0 g, zQT g0 n b N Q k g → ∃ g6, zRt g6 n b N (k + 1) ∧ g6 494 (1310 + 4 * Q.1) = nI a ∧ zQr g6 Q ∧ zQrf g0 g6 ∧ fX12_readLawLine (nI Q.1) g = zb (fX12_isWord 29 g6) (fun r_7 => if r_7 = 0 then some (0, g6) else zb2 (fX12_kindNext g6) (fun r_9 g9 => zchk (nI (1310 + 4 * Q.1 + 1)) 2158 (zput g9 494 (nI (1310 + 4 * Q.1 + 1)).toNatClampNeg r_9 (fun g11 => zchk (nI (1310 + 4 * Q.1 + 1)) 2158 (if 0 ≤ (g11 494 (nI (1310 + 4 * Q.1 + 1)).toNatClampNeg) then zchk (nI (1310 + 4 * Q.1 + 2)) 2158 (zput g11 494 (nI (1310 + 4 * Q.1 + 2)).toNatClampNeg (g11 493 16) (fun g15 => zput g15 493 13 0 (fun g16 => zb2 (fX12_passes 30 g16) (fun r_17 g17 => zjoin (fun g18 => zchk (nI (1310 + 4 * Q.1 + 3)) 2158 (zput g18 494 (nI (1310 + 4 * Q.1 + 3)).toNatClampNeg (g18 493 16) (fun g20 => some (1, g20))) : zM → Option (Int32 × zM)) (fun k104 => if r_17 = 0 then k104 g17 else zb2 (fX12_readCond_T g17) (fun r_22 g22 => if r_22 = 0 then some (0, g22) else k104 g22)))))) else some (0, g11)))))) := by
      intro g0 g e
      have e3 : zRP (zset g 494 (1310 + 4 * Q.1) (nI a)) n b N (k + 1) := (e.1.rp x ⟨a1, a2⟩).set
      obtain ⟨g6, b1, b2, b3⟩ := r_lp x e3
      have er : zQr (zset g 494 (1310 + 4 * Q.1) (nI a)) Q := ⟨fun i hi => by rw [zs_miss (by omega), zs_miss (by omega), zs_miss (by omega), zs_miss (by omega)]; exact e.2.1.1 i hi, by rw [zs_cell (by omega)]; exact e.2.1.2.1, fun j hj => by rw [zs_miss (by omega), zs_miss (by omega)]; exact e.2.1.2.2 j hj⟩
      refine ⟨g6, b3, by rw [b2.1 494 (by omega)]; exact zs_hit ⟨rfl, rfl⟩, er.fp b2, (e.2.2.set (by omega)).fp b2, ?_⟩
      unfold fX12_readLawLine
      rw [r_told x e.1, qa, zb_s, i1, i2, i3, i0, zchk_n (by omega) (by omega), nI_cl (by omega), zput_e, zchk_n (by omega) (by omega), zs_hit ⟨rfl, rfl⟩]
      rw [show zko (some a) = nI a from rfl, if_pos ap, b1, zb_s]
    by_cases qt : zck b n (k + 1) = 1000 + 11
    case neg =>
      refine ⟨.error (zT b n (k + 1)), fun q h => (nomatch h), fun g0 g e => ?_, fun g0 g e => ?_⟩
      · obtain ⟨e1, e2⟩ := cl1 g0 g e
        have cp : fX9_pass 434 1011 (zset g 434 6 (nI (k + 1))) = _ := c_pass x e1.1 (c := 1011) (by omega) (by omega)
        refine ⟨_, ?_, zs_hit ⟨rfl, rfl⟩, e1.2.2.set (by omega) (by omega) (by omega)⟩
        rw [e2, cp, if_neg qt, zb2_s, if_pos rfl]
      · obtain ⟨g6, b1, b2, b3, b4, b5⟩ := rl1 g0 g e
        refine ⟨g6, ?_, b1.2.2.1, b4⟩
        rw [b5, r_iw0 x b1 s29 qt, zb_s, if_pos rfl]
    obtain ⟨t1, t2⟩ := zck_let x a1 (by omega) qt
    cases qc : zkk b n (k + 1 + 1) with
    | none =>
      refine ⟨.error (zT b n (k + 1 + 1)), fun q h => (nomatch h), fun g0 g e => ?_, fun g0 g e => ?_⟩
      · obtain ⟨e1, e2⟩ := cl1 g0 g e
        have cp : fX9_pass 434 1011 (zset g 434 6 (nI (k + 1))) = _ := c_pass x e1.1 (c := 1011) (by omega) (by omega)
        have e3 := e1.go (show k + 1 + 1 ≤ N from t1)
        refine ⟨_, ?_, zs_hit ⟨rfl, rfl⟩, e3.2.2.set (by omega) (by omega) (by omega)⟩
        rw [e2, cp, if_pos qt, zb2_s, if_neg (by decide), c_takeKind x e3.1, qc]
        rfl
      · obtain ⟨g6, b1, b2, b3, b4, b5⟩ := rl1 g0 g e
        obtain ⟨g9, c1, c2, c3, c4⟩ := r_kindNext x (b1.rp x ⟨t1, t2⟩)
        refine ⟨zset g9 494 (1310 + 4 * Q.1 + 1) (-1), ?_, by rw [zs_cell (by omega)]; exact c4, (b4.fp c2).set (by omega)⟩
        rw [b5, r_iw1 x b1 s29 qt, zb_s, if_neg (by decide), c1, qc, zb2_s, zchk_n (by omega) (by omega), nI_cl (by omega), zput_e, zchk_n (by omega) (by omega), zs_hit ⟨rfl, rfl⟩, if_neg (by decide)]
        rfl
    | some c =>
      obtain ⟨c1, c2, c3⟩ := zkk_some x (show k + 1 + 1 ≤ N from t1) qc
      have cm : ¬ nI c = -1 := by rw [nI_m1 (by omega)]; exact id
      have cp' : (0 : Int32) ≤ nI c := by rw [nL_ge (by omega) (by decide)]; omega
      have k3 : k + 1 + 1 + 1 ≤ N := c1
      have hb := zcd_big x k3
      have cl2 : ∀ g0 g, zQC g0 n b N Q k g → ∃ g5, zQC g0 n b N Q (k + 1 + 1 + 1) g5 ∧ fX2_readLine g = if zck b n (k + 1 + 1 + 1) = 1000 + 12 then zb2 (fX2_readEither_T 0 (zset g5 434 6 (nI (k + 1 + 1 + 1 + 1)))) (fun r_11 g11 => if r_11 = 0 then some (0, g11) else zb (fX1_addLine 439 (nI a) (nI c) g11) (fun g13 => some (1, g13))) else zb (fX1_addLine 439 (nI a) (nI c) g5) (fun g9 => some (1, g9)) := by
        intro g0 g e
        obtain ⟨e1, e2⟩ := cl1 g0 g e
        have cp : fX9_pass 434 1011 (zset g 434 6 (nI (k + 1))) = _ := c_pass x e1.1 (c := 1011) (by omega) (by omega)
        have e3 := e1.go (show k + 1 + 1 ≤ N from t1)
        have e5 := e3.go k3
        refine ⟨_, e5, ?_⟩
        rw [e2, cp, if_pos qt, zb2_s, if_neg (by decide), c_takeKind x e3.1, qc]
        show zb2 (some (nI c, zset (zset (zset g 434 6 (nI (k + 1))) 434 6 (nI (k + 1 + 1))) 434 6 (nI (k + 1 + 1 + 1)))) _ = _
        rw [zb2_s, if_neg cm, c_code x e5.1, zb_s]
        by_cases q : zck b n (k + 1 + 1 + 1) = 1000 + 12
        · rw [if_pos (by rw [q]; rfl), if_pos q, c_stp x e5.1 (zck_lt x k3 (by rw [q]; decide)), zb_s]
        · rw [if_neg (by rw [nL_eq (by omega) (by decide)]; exact q), if_neg q]
      have rl2 : ∀ g0 g, zQT g0 n b N Q k g → ∃ g17, (zck b n (k + 1 + 1 + 1) ≠ 1000 + 12 → zRP g17 n b N (k + 1 + 1 + 1)) ∧ (zck b n (k + 1 + 1 + 1) = 1000 + 12 → zRP g17 n b N (k + 1 + 1 + 1 + 1)) ∧ g17 494 (1310 + 4 * Q.1) = nI a ∧ g17 494 (1310 + 4 * Q.1 + 1) = nI c ∧ g17 494 (1310 + 4 * Q.1 + 2) = nI Q.2.2.2.2.length ∧ g17 493 13 = nI 0 ∧ zQr g17 Q ∧ zQrf g0 g17 ∧ fX12_readLawLine (nI Q.1) g = if zck b n (k + 1 + 1 + 1) = 1000 + 12 then zb2 (fX12_readCond_T g17) (fun r_22 g22 => if r_22 = 0 then some (0, g22) else some (1, zset g22 494 (1310 + 4 * Q.1 + 3) (g22 493 16))) else some (1, zset g17 494 (1310 + 4 * Q.1 + 3) (g17 493 16)) := by
        intro g0 g e
        obtain ⟨g6, b1, b2, b3, b4, b5⟩ := rl1 g0 g e
        obtain ⟨g9, d1, d2, d3, d4⟩ := r_kindNext x (b1.rp x ⟨t1, t2⟩)
        rw [qc] at d1
        have e9 := d3 (by rw [qc]; exact Option.some_ne_none _)
        have r9 := b3.fp d2
        have f9 := b4.fp d2
        obtain ⟨g16, hg16⟩ : ∃ g16, g16 = zset (zset (zset g9 494 (1310 + 4 * Q.1 + 1) (nI c)) 494 (1310 + 4 * Q.1 + 2) (nI Q.2.2.2.2.length)) 493 13 0 := ⟨_, rfl⟩
        have e16 : zRP g16 n b N (k + 1 + 1 + 1) := by
          rw [hg16]
          exact e9.set.set.fr (zs_miss (by omega)) (zs_miss (by omega)) (zs_cell (by omega))
        have r16 : zQr g16 Q := by
          rw [hg16]
          exact ⟨fun i hi => by rw [zs_cell (by omega), zs_miss (by omega), zs_miss (by omega), zs_miss (by omega), zs_miss (by omega), zs_miss (by omega), zs_miss (by omega), zs_miss (by omega), zs_miss (by omega)]; exact r9.1 i hi, by rw [zs_miss (by omega), zs_cell (by omega), zs_cell (by omega)]; exact r9.2.1, fun j hj => by rw [zs_cell (by omega), zs_miss (by omega), zs_miss (by omega), zs_miss (by omega), zs_miss (by omega)]; exact r9.2.2 j hj⟩
        have f16 : zQrf g0 g16 := by
          rw [hg16]
          exact ((f9.set (by omega)).set (by omega)).dep
        have v0 : g16 494 (1310 + 4 * Q.1) = nI a := by
          rw [hg16, zs_cell (by omega), zs_miss (by omega), zs_miss (by omega), d2.1 494 (by omega)]
          exact b2
        have v1 : g16 494 (1310 + 4 * Q.1 + 1) = nI c := by
          rw [hg16, zs_cell (by omega), zs_miss (by omega)]
          exact zs_hit ⟨rfl, rfl⟩
        have v2 : g16 494 (1310 + 4 * Q.1 + 2) = nI Q.2.2.2.2.length := by
          rw [hg16, zs_cell (by omega)]
          exact zs_hit ⟨rfl, rfl⟩
        have v3 : g16 493 13 = nI 0 := by
          rw [hg16]
          exact zs_hit ⟨rfl, rfl⟩
        obtain ⟨g17, p1, p2, p3, p4, p5⟩ := r_passes x e16 s30
        have pe : zRP g17 n b N (k + 1 + 1 + 1) ∨ zck b n (k + 1 + 1 + 1) = 1000 + 12 := by
          by_cases q : zck b n (k + 1 + 1 + 1) = 1000 + 12
          · exact Or.inr q
          · exact Or.inl (p4 q)
        refine ⟨g17, fun q => p4 q, fun q => p3 q, by rw [p2.1 494 (by omega)]; exact v0, by rw [p2.1 494 (by omega)]; exact v1, by rw [p2.1 494 (by omega)]; exact v2, by rw [p2.2 13 (by omega) (by omega)]; exact v3, r16.fp p2, f16.fp p2, ?_⟩
        have h16 : g9 493 16 = nI Q.2.2.2.2.length := r9.2.1
        rw [b5, r_iw1 x b1 s29 qt, zb_s, if_neg (by decide), d1, zb2_s, zchk_n (by omega) (by omega), nI_cl (by omega), zput_e, zchk_n (by omega) (by omega), zs_hit ⟨rfl, rfl⟩]
        rw [show zko (some c) = nI c from rfl, if_pos cp', zchk_n (by omega) (by omega), nI_cl (by omega), zput_e, zs_cell (by omega), h16, zput_e, ← hg16, p1, zb2_s, zjoin_e]
        have K : ∀ g18 : zM, zchk (nI (1310 + 4 * Q.1 + 3)) 2158 (zput g18 494 (nI (1310 + 4 * Q.1 + 3)).toNatClampNeg (g18 493 16) (fun g20 => some ((1 : Int32), g20))) = some (1, zset g18 494 (1310 + 4 * Q.1 + 3) (g18 493 16)) := fun g18 => by
          rw [zchk_n (by omega) (by omega), nI_cl (by omega), zput_e]
        by_cases q : zck b n (k + 1 + 1 + 1) = 1000 + 12
        · rw [if_pos q, if_neg (by decide), if_pos q]
          simp only [K]
        · rw [if_neg q, if_pos rfl, if_neg q]
          exact K g17
      have hk3 : ∀ l : List Nat, l = [] → True := fun _ _ => trivial
      have rfin : ∀ (g0 g22 : zM) (k' : Nat) (l : List Nat), zRP g22 n b N k' → g22 494 (1310 + 4 * Q.1) = nI a → g22 494 (1310 + 4 * Q.1 + 1) = nI c → g22 494 (1310 + 4 * Q.1 + 2) = nI Q.2.2.2.2.length → (∀ i, i < Q.1 → g22 494 (1310 + 4 * i) = nI (Q.2.1 i) ∧ g22 494 (1310 + 4 * i + 1) = nI (Q.2.2.1 i) ∧ g22 494 (1310 + 4 * i + 2) = nI (zbg (zQW Q) i) ∧ g22 494 (1310 + 4 * i + 3) = nI (Q.2.2.2.1 i)) → zKr g22 (Q.2.2.2.2 ++ l) → zQrf g0 g22 → zQR g0 n b N (zQa Q a c l) k' (zset g22 494 (1310 + 4 * Q.1 + 3) (g22 493 16)) := by
        intro g0 g22 k' l h1 v0 v1 v2 hr hk hf
        refine ⟨h1.set, ⟨fun i hi => ?_, by rw [zs_cell (by omega)]; exact hk.1, fun j hj => by rw [zs_miss (by omega), zs_miss (by omega)]; exact hk.2 j hj⟩, hf.set (by omega)⟩
        have hi' : i < Q.1 + 1 := hi
        rw [zQa_bg (show i ≤ Q.1 by omega)]
        show _ = nI (zup Q.2.1 Q.1 a i) ∧ _ = nI (zup Q.2.2.1 Q.1 c i) ∧ _ ∧ _ = nI (zup Q.2.2.2.1 Q.1 _ i)
        by_cases q : i = Q.1
        · subst q
          rw [zup_hit rfl, zup_hit rfl, zup_hit rfl, hQ.2]
          exact ⟨by rw [zs_miss (by omega)]; exact v0, by rw [zs_miss (by omega)]; exact v1, by rw [zs_miss (by omega)]; exact v2, by rw [zs_hit ⟨rfl, rfl⟩]; exact hk.1⟩
        · rw [zup_miss q, zup_miss q, zup_miss q]
          obtain ⟨y1, y2, y3, y4⟩ := hr i (by omega)
          exact ⟨by rw [zs_miss (by omega)]; exact y1, by rw [zs_miss (by omega)]; exact y2, by rw [zs_miss (by omega)]; exact y3, by rw [zs_miss (by omega)]; exact y4⟩
      by_cases qi : zck b n (k + 1 + 1 + 1) = 1000 + 12
      case neg =>
        refine ⟨.ok (k + 1 + 1 + 1, zQa Q a c []), fun q h => ?_, fun g0 g e => ?_, fun g0 g e => ?_⟩
        · injection h with h
          subst h
          refine ⟨zQa_ok hQ h12 a3 c3 (by rw [List.append_nil]; omega) (Or.inl rfl), by show k < k + 1 + 1 + 1; omega, k3, ?_, rfl⟩
          show (Q.2.2.2.2 ++ []).length ≤ k + 1 + 1 + 1
          rw [List.append_nil]; omega
        · obtain ⟨g5, e5, e6⟩ := cl2 g0 g e
          obtain ⟨g1, f1, f2⟩ := c_addLine (l := []) (a := a) (c := c) e5.1 e5.2.1.1 e5.2.1.2.1 (by rw [List.append_nil]; exact e5.2.1.2.2) e5.2.2 h12
          refine ⟨g1, ?_, f2⟩
          rw [e6, if_neg qi, f1, zb_s]
        · obtain ⟨g17, p1, p2, v0, v1, v2, v3, r1, r2, r3⟩ := rl2 g0 g e
          exact ⟨_, r3.trans (if_neg qi), rfin g0 g17 _ [] (p1 qi) v0 v1 v2 r1.1 (by rw [List.append_nil]; exact r1.2) r2⟩
      have k4 : k + 1 + 1 + 1 + 1 ≤ N := zck_lt x k3 (by rw [qi]; decide)
      obtain ⟨o, l1, l2, l3⟩ := p_cond x k4 (C := Q.2.2.2.2) (by omega)
      have cl3 : ∀ g0 g, zQC g0 n b N Q k g → ∃ g5, zQC g0 n b N Q (k + 1 + 1 + 1 + 1) g5 ∧ fX2_readLine g = zb2 (fX2_readEither_T 0 g5) (fun r_11 g11 => if r_11 = 0 then some (0, g11) else zb (fX1_addLine 439 (nI a) (nI c) g11) (fun g13 => some (1, g13))) := by
        intro g0 g e
        obtain ⟨g5, e5, e6⟩ := cl2 g0 g e
        exact ⟨_, e5.go k4, e6.trans (if_pos qi)⟩
      have rl3 : ∀ g0 g, zQT g0 n b N Q k g → ∃ g17, zKR g17 n b N Q.2.2.2.2 0 (k + 1 + 1 + 1 + 1) g17 ∧ g17 494 (1310 + 4 * Q.1) = nI a ∧ g17 494 (1310 + 4 * Q.1 + 1) = nI c ∧ g17 494 (1310 + 4 * Q.1 + 2) = nI Q.2.2.2.2.length ∧ zQr g17 Q ∧ zQrf g0 g17 ∧ fX12_readLawLine (nI Q.1) g = zb2 (fX12_readCond_T g17) (fun r_22 g22 => if r_22 = 0 then some (0, g22) else some (1, zset g22 494 (1310 + 4 * Q.1 + 3) (g22 493 16))) := by
        intro g0 g e
        obtain ⟨g17, p1, p2, v0, v1, v2, v3, r1, r2, r3⟩ := rl2 g0 g e
        exact ⟨g17, ⟨p2 qi, r1.2, v3, fun _ _ _ => rfl, fun _ _ _ _ _ => rfl, fun _ _ => rfl⟩, v0, v1, v2, r1, r2, r3.trans (if_pos qi)⟩
      cases o with
      | error t =>
        refine ⟨.error t, fun q h => (nomatch h), fun g0 g e => ?_, fun g0 g e => ?_⟩
        · obtain ⟨g5, e5, e6⟩ := cl3 g0 g e
          obtain ⟨g1, f1, f2, f3⟩ := l2 g5 g5 e5.kc
          refine ⟨g1, ?_, f2, e5.2.2.kf f3⟩
          rw [e6, show fX2_readEither_T 0 g5 = _ from f1, zb2_s, if_pos rfl]
        · obtain ⟨g17, e5, v0, v1, v2, r1, r2, r3⟩ := rl3 g0 g e
          obtain ⟨g1, f1, f2, f3⟩ := l3 g17 g17 e5
          refine ⟨g1, ?_, f2, r2.kf f3⟩
          rw [r3, f1, zb2_s, if_pos rfl]
      | ok q =>
        obtain ⟨k', l⟩ := q
        obtain ⟨w1, w2, w3⟩ := l1 (k', l) rfl
        have w1 : k' ≤ N := w1
        have w2 : l.length + (k + 1 + 1 + 1 + 1) ≤ k' := w2
        have w3 : zPt l := w3
        have hl : (Q.2.2.2.2 ++ l).length ≤ k' := by rw [List.length_append]; omega
        refine ⟨.ok (k', zQa Q a c l), fun q h => ?_, fun g0 g e => ?_, fun g0 g e => ?_⟩
        · injection h with h
          subst h
          exact ⟨zQa_ok hQ h12 a3 c3 (by omega) (Or.inr w3), by show k < k'; omega, w1, hl, rfl⟩
        · obtain ⟨g5, e5, e6⟩ := cl3 g0 g e
          obtain ⟨g1, f1, f2⟩ := l2 g5 g5 e5.kc
          have f2 : zKC g5 n b N (Q.2.2.2.2 ++ l) k' g1 := f2
          have fk := f2.2.2
          obtain ⟨g2, d1, d2⟩ := c_addLine (l := l) (a := a) (c := c) f2.1 (by rw [fk.2 7 (by omega)]; exact e5.2.1.1) (fun i hi => by rw [fk.1 440 (by omega), fk.1 441 (by omega), fk.1 442 (by omega)]; exact e5.2.1.2.1 i hi) f2.2.1 (e5.2.2.kf fk) h12
          refine ⟨g2, ?_, d2⟩
          rw [e6, show fX2_readEither_T 0 g5 = _ from f1, zb2_s, if_neg (by decide), d1, zb_s]
        · obtain ⟨g17, e5, v0, v1, v2, r1, r2, r3⟩ := rl3 g0 g e
          obtain ⟨g1, f1, f2⟩ := l3 g17 g17 e5
          have f2 : zKR g17 n b N (Q.2.2.2.2 ++ l) 0 k' g1 := f2
          have fk := f2.2.2.2
          refine ⟨zset g1 494 (1310 + 4 * Q.1 + 3) (g1 493 16), ?_, rfin g0 g1 k' l f2.1 (by rw [fk.2.2 _ (by omega)]; exact v0) (by rw [fk.2.2 _ (by omega)]; exact v1) (by rw [fk.2.2 _ (by omega)]; exact v2) (fun i hi => by rw [fk.2.2 _ (by omega), fk.2.2 _ (by omega), fk.2.2 _ (by omega), fk.2.2 _ (by omega)]; exact r1.1 i hi) f2.2.1 (r2.kf fk)⟩
          rw [r3, f1, zb2_s, if_neg (by decide)]
