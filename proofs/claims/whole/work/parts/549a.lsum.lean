/-! a text of THE LAW: what is drafted, sums -/
theorem ztc_app : ∀ (a : List Nat) (l : List Nat) (s t : List Bool), ztc a s = some t → ztc (a ++ l) s = ztc l t
  | [], l, s, t, h => by
    have : s = t := by injection h
    rw [this]
    rfl
  | c :: a, l, s, t, h => by
    show (match ztc1 c s with | none => none | some s' => ztc (a ++ l) s') = _
    have h' : (match ztc1 c s with | none => none | some s' => ztc a s') = some t := h
    cases q : ztc1 c s with
    | none => rw [q] at h'; exact absurd h' (by simp)
    | some s' => rw [q] at h'; exact ztc_app a l s' t h'
theorem ztc_one {c : Nat} {s t : List Bool} (h : ztc1 c s = some t) : ztc [c] s = some t := by
  show (match ztc1 c s with | none => none | some s' => some s') = _
  rw [h]
def zKf (g0 g : zM) : Prop := (∀ c, (c < 434 ∨ 444 ≤ c ∨ (440 ≤ c ∧ c ≤ 442)) → g c = g0 c) ∧ ∀ j, j ≠ 6 → g 439 j = g0 439 j
def zKrf (g0 g : zM) : Prop := (∀ c, c ≠ 493 → c ≠ 494 → g c = g0 c) ∧ (∀ j, j ≠ 10 → j ≠ 12 → j ≠ 13 → j ≠ 16 → g 493 j = g0 493 j) ∧ ∀ j, j < 1358 → g 494 j = g0 494 j
theorem zKrf.fp {g0 g g1 : zM} (a : zKrf g0 g) (f : zFP g g1) : zKrf g0 g1 := ⟨fun c h1 h2 => (f.1 c h1).trans (a.1 c h1 h2), fun j h1 h2 h3 h4 => (f.2 j h1 h2).trans (a.2.1 j h1 h2 h3 h4), fun j h => by rw [f.1 494 (by omega)]; exact a.2.2 j h⟩
def zKc (g : zM) (C : List Nat) : Prop := g 439 6 = nI C.length ∧ ∀ j, j < C.length → g 443 j = nI (C.getD j 0)
def zKr (g : zM) (C : List Nat) : Prop := g 493 16 = nI C.length ∧ ∀ j, j < C.length → g 494 (1358 + 2 * j) = nI (zen (C.getD j 0)) ∧ g 494 (1358 + 2 * j + 1) = nI (zem (C.getD j 0))
def zKC (g0 : zM) (n : Nat) (b : Nat → Nat) (N : Nat) (C : List Nat) (k : Nat) (g : zM) : Prop := zCP g 434 n b N k ∧ zKc g C ∧ zKf g0 g
def zKR (g0 : zM) (n : Nat) (b : Nat → Nat) (N : Nat) (C : List Nat) (d k : Nat) (g : zM) : Prop := zRP g n b N k ∧ zKr g C ∧ g 493 13 = nI d ∧ zKrf g0 g
theorem zKr.fp {g g1 : zM} {C : List Nat} (e : zKr g C) (f : zFP g g1) : zKr g1 C := ⟨by rw [f.2 16 (by omega) (by omega)]; exact e.1, fun j hj => by rw [f.1 494 (by omega)]; exact e.2 j hj⟩
theorem zKR.fp {g0 g g1 : zM} {n N d k k' : Nat} {b : Nat → Nat} {C : List Nat} (e : zKR g0 n b N C d k g) (f : zFP g g1) (h : zRP g1 n b N k') : zKR g0 n b N C d k' g1 := ⟨h, e.2.1.fp f, by rw [f.2 13 (by omega) (by omega)]; exact e.2.2.1, e.2.2.2.fp f⟩
theorem zKC.go {g0 g : zM} {n N k j : Nat} {b : Nat → Nat} {C : List Nat} (e : zKC g0 n b N C k g) (hj : j ≤ N) : zKC g0 n b N C j (zset g 434 6 (nI j)) :=
  ⟨e.1.go hj, ⟨by rw [zs_miss (by omega)]; exact e.2.1.1, fun j hj => by rw [zs_miss (by omega)]; exact e.2.1.2 j hj⟩, fun c h => by rw [zs_cell (by omega)]; exact e.2.2.1 c h, fun j h => by rw [zs_miss (by omega)]; exact e.2.2.2 j h⟩
theorem zKC.er {g0 g : zM} {n N k : Nat} {v : Int32} {b : Nat → Nat} {C : List Nat} (e : zKC g0 n b N C k g) : zKf g0 (zset g 434 7 v) := ⟨fun c h => by rw [zs_cell (by omega)]; exact e.2.2.1 c h, fun j h => by rw [zs_cell (by omega)]; exact e.2.2.2 j h⟩
def zKoC (g0 : zM) (n : Nat) (b : Nat → Nat) (N : Nat) (C : List Nat) : Except Nat (Nat × List Nat) → Option (Int32 × zM) → Prop
  | .ok q, x => ∃ g1, x = some (1, g1) ∧ zKC g0 n b N (C ++ q.2) q.1 g1
  | .error t, x => ∃ g1, x = some (0, g1) ∧ g1 434 7 = nI t ∧ zKf g0 g1
def zKoR (g0 : zM) (n : Nat) (b : Nat → Nat) (N : Nat) (C : List Nat) (d : Nat) : Except Nat (Nat × List Nat) → Option (Int32 × zM) → Prop
  | .ok q, x => ∃ g1, x = some (1, g1) ∧ zKR g0 n b N (C ++ q.2) d q.1 g1
  | .error t, x => ∃ g1, x = some (0, g1) ∧ g1 493 12 = nI t ∧ zKrf g0 g1
def zKg (N k : Nat) (P : List Nat → Prop) (o : Except Nat (Nat × List Nat)) : Prop := ∀ q, o = .ok q → q.1 ≤ N ∧ q.2.length + k ≤ q.1 ∧ P q.2
theorem zKg.err {N k t : Nat} {P : List Nat → Prop} : zKg N k P (.error t) := fun _ h => nomatch h
theorem zKg.ok {N k k' : Nat} {l : List Nat} {P : List Nat → Prop} (h1 : k' ≤ N) (h2 : l.length + k ≤ k') (h3 : P l) : zKg N k P (.ok (k', l)) := fun q h => by
  injection h with h
  subst h
  exact ⟨h1, h2, h3⟩
theorem getD_l {C : List Nat} {c j : Nat} (h : j < C.length) : (C ++ [c]).getD j 0 = C.getD j 0 := by
  rw [List.getD_eq_getElem?_getD, List.getD_eq_getElem?_getD, List.getElem?_append_left h]
theorem getD_r {C : List Nat} {c : Nat} : (C ++ [c]).getD C.length 0 = c := by
  rw [List.getD_eq_getElem?_getD, List.getElem?_append_right (Nat.le_refl _), Nat.sub_self]
  rfl
theorem len_1 {C : List Nat} {c : Nat} : (C ++ [c]).length = C.length + 1 := by rw [List.length_append]; rfl
theorem c_emit {g0 g : zM} {n N k : Nat} {b : Nat → Nat} {C : List Nat} (e : zKC g0 n b N C k g) (h : C.length < 400) (c : Nat) : ∃ g1, fX1_addCode 439 (nI c) g = some g1 ∧ zKC g0 n b N (C ++ [c]) k g1 := by
  refine ⟨zset (zset g 443 C.length (nI c)) 439 6 (nI (C.length + 1)), ?_, e.1.fr (fun d h1 h2 => by rw [zs_cell (by omega), zs_cell (by omega)]), ⟨by rw [len_1]; exact zs_hit ⟨rfl, rfl⟩, fun j hj => ?_⟩, fun d hd => by rw [zs_cell (by omega), zs_cell (by omega)]; exact e.2.2.1 d hd, fun j hj => by rw [zs_miss (by omega), zs_cell (by omega)]; exact e.2.2.2 j hj⟩
  · unfold fX1_addCode
    rw [e.2.1.1, if_neg (by rw [nL_ge (by omega) (by decide)]; omega), zchk_n (by omega) (by omega), nI_cl (by omega), zput_e, zs_miss (by omega), e.2.1.1, zput_e, nI_1]
  · rw [len_1] at hj
    rw [zs_cell (by omega)]
    by_cases q : j = C.length
    · rw [q, getD_r]; exact zs_hit ⟨rfl, rfl⟩
    · rw [zs_miss (by omega), getD_l (by omega)]; exact e.2.1.2 j (by omega)
/-- what an emitted step leaves alone -/
theorem r_emit0 {g0 g : zM} {n N d k : Nat} {b : Nat → Nat} {C : List Nat} (e : zKR g0 n b N C d k g) (h : C.length < 400) (v w : Int32) : fX12_emits v w g = some (zset (zset (zset g 494 (1358 + 2 * C.length) v) 494 (1358 + 2 * C.length + 1) w) 493 16 (nI (C.length + 1))) := by
  have h0 := e.2.1.1
  unfold fX12_emits
  simp (disch := omega) only [nL_lt, nL_gt, nL_le, nL_ge, nL_eq, nL_qe, nI_ltI, nI_leI, nI_eq, nL_add, nL_dda, nI_add, nL_sub, pk_sub, nL_mul, nL_clamp, nI_cl, zchk_n, zchk_l, zb_s, zb2_s, zb3_s, zb3_e, zput_e, zjoin_e, zs_hit, zs_miss, nle_t, nle_f, nlt_t, nlt_f, neq_t, neq_f, ↓reduceIte, and_self, and_true, true_and, and_false, false_and, not_true_eq_false, not_false_eq_true, Nat.add_zero, h0]
theorem r_emit1 {g0 g : zM} {n N d k i j : Nat} {v w u : Int32} {b : Nat → Nat} {C : List Nat} (e : zKR g0 n b N C d k g) (h1 : 1358 ≤ i) (h2 : 1358 ≤ j) : zKrf g0 (zset (zset (zset g 494 i v) 494 j w) 493 16 u) := ⟨fun c h1 h2 => by rw [zs_cell h1, zs_cell h2, zs_cell h2]; exact e.2.2.2.1 c h1 h2, fun j h1 h2 h3 h4 => by rw [zs_miss (by omega), zs_cell (by omega), zs_cell (by omega)]; exact e.2.2.2.2.1 j h1 h2 h3 h4, fun j h => by rw [zs_cell (by omega), zs_miss (by omega), zs_miss (by omega)]; exact e.2.2.2.2.2 j h⟩
theorem r_emit {g0 g : zM} {n N d k : Nat} {b : Nat → Nat} {C : List Nat} (e : zKR g0 n b N C d k g) (h : C.length < 400) (c : Nat) : ∃ g1, fX12_emits (nI (zen c)) (nI (zem c)) g = some g1 ∧ zKR g0 n b N (C ++ [c]) d k g1 := by
  refine ⟨_, r_emit0 e h _ _, e.1.fr (by rw [zs_miss (by omega), zs_cell (by omega), zs_cell (by omega)]) (by rw [zs_miss (by omega), zs_cell (by omega), zs_cell (by omega)]) (by rw [zs_cell (by omega), zs_cell (by omega), zs_cell (by omega)]), ⟨by rw [len_1]; exact zs_hit ⟨rfl, rfl⟩, fun j hj => ?_⟩, by rw [zs_miss (by omega), zs_cell (by omega), zs_cell (by omega)]; exact e.2.2.1, r_emit1 e (by omega) (by omega)⟩
  rw [len_1] at hj
  rw [zs_cell (by omega)]
  by_cases q : j = C.length
  · rw [q, getD_r]
    exact ⟨by rw [zs_miss (by omega)]; exact zs_hit ⟨rfl, rfl⟩, zs_hit ⟨rfl, rfl⟩⟩
  · rw [getD_l (by omega)]
    exact ⟨by rw [zs_miss (by omega), zs_miss (by omega)]; exact (e.2.1.2 j (by omega)).1, by rw [zs_miss (by omega), zs_miss (by omega)]; exact (e.2.1.2 j (by omega)).2⟩
/-- a part of a sum -/
def zpt (c : Nat) : Prop := c ≤ 999 ∨ (1002 ≤ c ∧ c ≤ 1007)
theorem ztc_pt {c : Nat} (h : zpt c) (s : List Bool) : ztc1 c s = some (false :: s) := by
  unfold zpt at h
  unfold ztc1
  rw [if_pos (by omega), decide_eq_false (by omega)]
theorem zKr.fr {g g1 : zM} {C : List Nat} (e : zKr g C) (h1 : g1 493 16 = g 493 16) (h2 : g1 494 = g 494) : zKr g1 C := ⟨by rw [h1]; exact e.1, fun j hj => by rw [h2]; exact e.2 j hj⟩
theorem r_part {g0 g : zM} {n N d k : Nat} {b : Nat → Nat} {C : List Nat} (x : zTx n b N) (e : zKR g0 n b N C d k g) (hC : C.length < k) : (zpt (zck b n k) → ∃ g1, fX12_readPart g = some (1, g1) ∧ k < N ∧ zKR g0 n b N (C ++ [zck b n k]) d (k + 1) g1) ∧ (¬ zpt (zck b n k) → ∃ g1, fX12_readPart g = some (0, g1) ∧ g1 493 12 = nI (zT b n k) ∧ zKrf g0 g1) := by
  have hk := e.1.2.1
  have hN := x.le
  have h4 := x.b400
  obtain ⟨g1, a1, a2, a3⟩ := r_lp x e.1
  have e1 : ∀ {k'}, zRP g1 n b N k' → zKR g0 n b N C d k' g1 := fun h => e.fp a2 h
  have hTn := x.le_n hk
  have hz := zre_le (b := b) (c := 1) (n - zT b n k) (zT b n k)
  by_cases q : k < N ∧ zso (b (zT b n k)) = 1
  · have e2 := e1 (a3.rp x q)
    have hne : ¬ g1 493 10 = g1 493 12 := by
      rw [a3.2.2.1, a3.2.2.2]
      rcases zre_1 x hk with ⟨y1, y2, y3⟩ | ⟨y1, y2⟩
      · have := zte_le (b := b) (x.lt k y1)
        rw [y3, nI_eq (by omega) (by omega)]; omega
      · exact absurd q y1
    have h9 : ¬ zck b n k ≤ 999 := fun h => by
      have := (zck_num x hk h).2.1
      omega
    have go : ∀ v : Int32, zb (fX12_emits v 0 g1) (fun g5 => if v < 0 then some ((0 : Int32), g5) else some (1, g5)) = if v < 0 then some (0, zset (zset (zset g1 494 (1358 + 2 * C.length) v) 494 (1358 + 2 * C.length + 1) 0) 493 16 (nI (C.length + 1))) else some (1, zset (zset (zset g1 494 (1358 + 2 * C.length) v) 494 (1358 + 2 * C.length + 1) 0) 493 16 (nI (C.length + 1))) := fun v => by
      rw [r_emit0 e2 (by omega), zb_s]
    have wd : ∀ i, 2 ≤ i → i ≤ 7 → zck b n k = 1000 + i → ∃ g1', zb (fX12_emits (nI (i - 2)) 0 g1) (fun g5 => if nI (i - 2) < 0 then some ((0 : Int32), g5) else some (1, g5)) = some (1, g1') ∧ k < N ∧ zKR g0 n b N (C ++ [zck b n k]) d (k + 1) g1' := by
      intro i h1 h2 h3
      obtain ⟨g2, c1, c2⟩ := r_emit e2 (by omega) (zck b n k)
      have z1 : zen (zck b n k) = i - 2 := by
        rw [h3]; unfold zen
        rw [if_neg (by omega), if_neg (by omega), if_neg (by omega), if_pos (by omega)]
        omega
      have z2 : zem (zck b n k) = 0 := by
        rw [h3]; unfold zem
        rw [if_neg (by omega)]
      rw [z1, z2] at c1
      refine ⟨g2, ?_, q.1, c2⟩
      rw [show fX12_emits (nI (i - 2)) 0 g1 = _ from c1, zb_s, if_neg (nI_pos (by omega))]
    unfold fX12_readPart
    rw [a1, zb_s, if_neg hne, r_iw x a3 s33, zb_s, zjoin_e]
    by_cases p2 : zck b n k = 1000 + 2
    · rw [if_pos p2, if_neg (by decide)]
      exact ⟨fun _ => wd 2 (by omega) (by omega) p2, fun h => absurd (Or.inr (by omega)) h⟩
    rw [if_neg p2, if_pos rfl, r_iw x a3 s22, zb_s]
    by_cases p3 : zck b n k = 1000 + 3
    · rw [if_pos p3, if_neg (by decide)]
      exact ⟨fun _ => wd 3 (by omega) (by omega) p3, fun h => absurd (Or.inr (by omega)) h⟩
    rw [if_neg p3, if_pos rfl, r_iw x a3 s34, zb_s]
    by_cases p4 : zck b n k = 1000 + 4
    · rw [if_pos p4, if_neg (by decide)]
      exact ⟨fun _ => wd 4 (by omega) (by omega) p4, fun h => absurd (Or.inr (by omega)) h⟩
    rw [if_neg p4, if_pos rfl, r_iw x a3 s28, zb_s]
    by_cases p5 : zck b n k = 1000 + 5
    · rw [if_pos p5, if_neg (by decide)]
      exact ⟨fun _ => wd 5 (by omega) (by omega) p5, fun h => absurd (Or.inr (by omega)) h⟩
    rw [if_neg p5, if_pos rfl, r_iw x a3 s35, zb_s]
    by_cases p6 : zck b n k = 1000 + 6
    · rw [if_pos p6, if_neg (by decide)]
      exact ⟨fun _ => wd 6 (by omega) (by omega) p6, fun h => absurd (Or.inr (by omega)) h⟩
    rw [if_neg p6, if_pos rfl, r_iw x a3 s36, zb_s]
    by_cases p7 : zck b n k = 1000 + 7
    · rw [if_pos p7, if_neg (by decide)]
      exact ⟨fun _ => wd 7 (by omega) (by omega) p7, fun h => absurd (Or.inr (by omega)) h⟩
    rw [if_neg p7, if_pos rfl]
    refine ⟨fun h => ?_, fun _ => ?_⟩
    · exfalso
      unfold zpt at h
      omega
    · refine ⟨_, (go (-1)).trans (if_pos (by decide)), ?_, r_emit1 e2 (by omega) (by omega)⟩
      rw [zs_miss (by omega), zs_cell (by omega), zs_cell (by omega)]
      exact a3.2.2.1
  · obtain ⟨b1, b2⟩ := a3.rs x q
    have e2 := e1 b1
    obtain ⟨g2, c1, c2, c3, c4⟩ := r_number x b1 (v1 := 0) (v2 := 999)
    unfold fX12_readPart
    rw [a1, zb_s, if_pos b2, c1, zb2_s]
    have hzt : ztn 0 999 (zck b n k) = true ↔ zck b n k ≤ 999 := by
      unfold ztn
      constructor
      · intro h
        simp only [Bool.and_eq_true, decide_eq_true_eq] at h
        exact h.1.1
      · intro h
        have p1 : ¬ nI (zck b n k) < 0 := nI_pos (by omega)
        have p2 : nI (zck b n k) ≤ 999 := by rw [nL_le (by omega) (by decide)]; exact h
        simp [h, p1, p2]
    have h1007 : zpt (zck b n k) → zck b n k ≤ 999 := by
      intro h
      unfold zpt at h
      rcases h with h | h
      · exact h
      · exfalso
        obtain ⟨i, hi⟩ : ∃ i, zck b n k = 1000 + i := ⟨zck b n k - 1000, by omega⟩
        exact q (zck_let x hk (by omega) hi)
    by_cases q2 : ztn 0 999 (zck b n k) = true
    · have q3 := hzt.mp q2
      rw [if_pos q2]
      have e3 : zKR g0 n b N C d (k + 1) g2 := e2.fp c2 (c3 q2)
      obtain ⟨g3, d1, d2⟩ := r_emit e3 (by omega) (zck b n k)
      have z1 : zen (zck b n k) = 8 := if_pos (by omega)
      have z2 : zem (zck b n k) = zck b n k := if_pos (by omega)
      rw [z1, z2] at d1
      refine ⟨fun _ => ⟨g3, ?_, (zck_num x hk q3).1, d2⟩, fun h => absurd (Or.inl q3) h⟩
      rw [show fX12_emits 8 (nI (zck b n k)) g2 = _ from d1, zb_s, if_neg (nI_pos (by omega))]
    · rw [if_neg q2]
      have e3 : zKR g0 n b N C d (k) g2 → True := fun _ => trivial
      refine ⟨fun h => absurd (hzt.mpr (h1007 h)) q2, fun _ => ?_⟩
      have h0 : g2 493 16 = nI C.length := by rw [c2.2 16 (by omega) (by omega)]; exact e2.2.1.1
      refine ⟨zset (zset (zset g2 494 (1358 + 2 * C.length) 8) 494 (1358 + 2 * C.length + 1) (-1)) 493 16 (nI (C.length + 1)), ?_, ?_, ?_⟩
      · have : fX12_emits 8 (-1) g2 = some (zset (zset (zset g2 494 (1358 + 2 * C.length) 8) 494 (1358 + 2 * C.length + 1) (-1)) 493 16 (nI (C.length + 1))) := by
          unfold fX12_emits
          simp (disch := omega) only [nL_lt, nL_gt, nL_le, nL_ge, nL_eq, nL_qe, nI_ltI, nI_leI, nI_eq, nL_add, nL_dda, nI_add, nL_sub, pk_sub, nL_mul, nL_clamp, nI_cl, zchk_n, zchk_l, zb_s, zb2_s, zb3_s, zb3_e, zput_e, zjoin_e, zs_hit, zs_miss, nle_t, nle_f, nlt_t, nlt_f, neq_t, neq_f, ↓reduceIte, and_self, and_true, true_and, and_false, false_and, not_true_eq_false, not_false_eq_true, Nat.add_zero, h0]
        rw [this, zb_s, if_pos (by decide)]
      · rw [zs_miss (by omega), zs_cell (by omega), zs_cell (by omega)]
        exact c4
      · have f2 := e2.2.2.2.fp c2
        exact ⟨fun c h1 h2 => by rw [zs_cell h1, zs_cell h2, zs_cell h2]; exact f2.1 c h1 h2, fun j h1 h2 h3 h4 => by rw [zs_miss (by omega), zs_cell (by omega), zs_cell (by omega)]; exact f2.2.1 j h1 h2 h3 h4, fun j h => by rw [zs_cell (by omega), zs_miss (by omega), zs_miss (by omega)]; exact f2.2.2 j h⟩
