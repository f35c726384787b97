/-! a text of THE POST: its words, what is drafted, what its lines do -/
theorem s20 : zWs 20 13 := ⟨by decide, by decide +kernel, by decide +kernel⟩
theorem s21 : zWs 21 14 := ⟨by decide, by decide +kernel, by decide +kernel⟩
theorem s22 : zWs 22 3 := ⟨by decide, by decide +kernel, by decide +kernel⟩
theorem s23 : zWs 23 15 := ⟨by decide, by decide +kernel, by decide +kernel⟩
theorem s24 : zWs 24 16 := ⟨by decide, by decide +kernel, by decide +kernel⟩
theorem s25 : zWs 25 17 := ⟨by decide, by decide +kernel, by decide +kernel⟩
theorem s26 : zWs 26 0 := ⟨by decide, by decide +kernel, by decide +kernel⟩
theorem s27 : zWs 27 18 := ⟨by decide, by decide +kernel, by decide +kernel⟩
theorem s28 : zWs 28 5 := ⟨by decide, by decide +kernel, by decide +kernel⟩
theorem s29 : zWs 29 11 := ⟨by decide, by decide +kernel, by decide +kernel⟩
theorem s30 : zWs 30 12 := ⟨by decide, by decide +kernel, by decide +kernel⟩
theorem s31 : zWs 31 8 := ⟨by decide, by decide +kernel, by decide +kernel⟩
theorem s32 : zWs 32 1 := ⟨by decide, by decide +kernel, by decide +kernel⟩
theorem s33 : zWs 33 2 := ⟨by decide, by decide +kernel, by decide +kernel⟩
theorem s34 : zWs 34 4 := ⟨by decide, by decide +kernel, by decide +kernel⟩
theorem s35 : zWs 35 6 := ⟨by decide, by decide +kernel, by decide +kernel⟩
theorem s36 : zWs 36 7 := ⟨by decide, by decide +kernel, by decide +kernel⟩
theorem s37 : zWs 37 9 := ⟨by decide, by decide +kernel, by decide +kernel⟩
theorem s38 : zWs 38 10 := ⟨by decide, by decide +kernel, by decide +kernel⟩
/-- what the class's and the reference's reading of a text of THE POST leaves alone -/
def zPcf (g0 g : zM) : Prop := ∀ c, (c < 391 ∨ 433 ≤ c) → g c = g0 c
def zPrf (g0 g : zM) : Prop := (∀ c, c ≠ 493 → c ≠ 494 → g c = g0 c) ∧ ∀ j, j ≠ 10 → j ≠ 12 → g 493 j = g0 493 j
theorem zPrf.fp {g0 g g1 : zM} (a : zPrf g0 g) (f : zFP g g1) : zPrf g0 g1 := ⟨fun c h1 h2 => (f.1 c h1).trans (a.1 c h1 h2), fun j h1 h2 => (f.2 j h1 h2).trans (a.2 j h1 h2)⟩
theorem zPrf.set {g0 g : zM} {k : Nat} {v : Int32} (a : zPrf g0 g) : zPrf g0 (zset g 494 k v) := ⟨fun c h1 h2 => by rw [zs_cell h2]; exact a.1 c h1 h2, fun j h1 h2 => by rw [zs_cell (by omega)]; exact a.2 j h1 h2⟩
theorem zRW.fp {g g1 : zM} {V : zWd} (e : zRW g 494 V) (hV : zVW V) (f : zFP g g1) : zRW g1 494 V := e.fr hV (fun k _ => by rw [f.1 494 (by omega)])
theorem zRP.set {g : zM} {n N k j : Nat} {v : Int32} {b : Nat → Nat} (e : zRP g n b N k) : zRP (zset g 494 j v) n b N k := e.fr (zs_miss (by omega)) (zs_miss (by omega)) (zs_cell (by omega))
def zPC (g0 : zM) (n : Nat) (b : Nat → Nat) (N : Nat) (D : zWd) (k : Nat) (g : zM) : Prop := zCP g 391 n b N k ∧ zCW g 396 D ∧ zPcf g0 g
def zPR (g0 : zM) (n : Nat) (b : Nat → Nat) (N : Nat) (D : zWd) (k : Nat) (g : zM) : Prop := zRP g n b N k ∧ zRW g 494 D ∧ zPrf g0 g
def zPT (g0 : zM) (n : Nat) (b : Nat → Nat) (N : Nat) (D : zWd) (k : Nat) (g : zM) : Prop := zRt g n b N k ∧ zRW g 494 D ∧ zPrf g0 g
def zOC (g0 : zM) (n : Nat) (b : Nat → Nat) (N : Nat) : Except Nat (Nat × zWd) → Option (Int32 × zM) → Prop
  | .ok q, x => ∃ g1, x = some (1, g1) ∧ zPC g0 n b N q.2 q.1 g1
  | .error t, x => ∃ g1, x = some (0, g1) ∧ g1 391 7 = nI t ∧ zPcf g0 g1
def zOR (g0 : zM) (n : Nat) (b : Nat → Nat) (N : Nat) : Except Nat (Nat × zWd) → Option (Int32 × zM) → Prop
  | .ok q, x => ∃ g1, x = some (1, g1) ∧ zPR g0 n b N q.2 q.1 g1
  | .error t, x => ∃ g1, x = some (0, g1) ∧ g1 493 12 = nI t ∧ zPrf g0 g1
def zGo (N k : Nat) (D : zWd) (o : Except Nat (Nat × zWd)) : Prop := ∀ q, o = .ok q → zVW q.2 ∧ k < q.1 ∧ q.1 ≤ N ∧ q.2.2.2.2.2.2.2.2 = D.2.2.2.2.2.2.2
def zRd (n : Nat) (b : Nat → Nat) (N k : Nat) (D : zWd) (f fm : zM → Option (Int32 × zM)) : Prop := ∃ o, zGo N k D o ∧ (∀ g0 g, zPC g0 n b N D k g → zOC g0 n b N o (f g)) ∧ ∀ g0 g, zPT g0 n b N D k g → zOR g0 n b N o (fm g)
theorem zGo.err {N k t : Nat} {D : zWd} : zGo N k D (.error t) := fun _ h => nomatch h
theorem zGo.ok {N k k' : Nat} {E D : zWd} (h1 : zVW D) (h2 : k < k') (h3 : k' ≤ N) (h4 : D.2.2.2.2.2.2.2 = E.2.2.2.2.2.2.2 := by rfl) : zGo N k E (.ok (k', D)) := fun q h => by
  injection h with h
  subst h
  exact ⟨h1, h2, h3, h4⟩
theorem zPC.go {g0 g : zM} {n N k j : Nat} {b : Nat → Nat} {D : zWd} (e : zPC g0 n b N D k g) (hV : zVW D) (hj : j ≤ N) : zPC g0 n b N D j (zset g 391 6 (nI j)) :=
  ⟨e.1.go hj, e.2.1.fr hV (fun c h1 _ _ _ => zs_cell (by omega)), fun c h => by rw [zs_cell (by omega)]; exact e.2.2 c h⟩
theorem zPC.er {g0 g : zM} {n N k : Nat} {v : Int32} {b : Nat → Nat} {D : zWd} (e : zPC g0 n b N D k g) : zPcf g0 (zset g 391 7 v) := fun c h => by rw [zs_cell (by omega)]; exact e.2.2 c h
theorem zPcf.set {g0 g : zM} {c k : Nat} {v : Int32} (e : zPcf g0 g) (h1 : 391 ≤ c) (h2 : c < 433) : zPcf g0 (zset g c k v) := fun d h => by rw [zs_cell (by omega)]; exact e d h
theorem zCP.set {g : zM} {n N k c j : Nat} {v : Int32} {b : Nat → Nat} (e : zCP g 391 n b N k) (h : 396 ≤ c) : zCP (zset g c j v) 391 n b N k := e.fr (fun d h1 h2 => zs_cell (by omega))
/-! the draft changed -/
def zDs (D : zWd) (v : Int32) : zWd := (D.1, D.2.1, D.2.2.1, D.2.2.2.1, D.2.2.2.2.1, D.2.2.2.2.2.1, v, D.2.2.2.2.2.2.2)
def zDm (D : zWd) (B : zB') : zWd := (B, D.2)
def zDk (D : zWd) (k : Nat) (v : Int32) : zWd := (D.1, D.2.1, zup D.2.2.1 k v, D.2.2.2)
def zDp (D : zWd) (a c : Int32) : zWd := (D.1, D.2.1, D.2.2.1, D.2.2.2.1 + 1, zup D.2.2.2.2.1 D.2.2.2.1 a, zup D.2.2.2.2.2.1 D.2.2.2.1 c, D.2.2.2.2.2.2)
theorem zRB.fr0 {g g1 : zM} {B : zB'} (e : zRB g 494 0 B) (hB : zBW B) (f : ∀ k, k = 0 ∨ k = 4 ∨ k = 6 ∨ k = 7 ∨ (36 ≤ k ∧ k < 460) → g1 494 k = g 494 k) : zRB g1 494 0 B := by
  have h8 := hB.1
  obtain ⟨e1, e2, e3, e4, e5⟩ := e
  simp only [Nat.zero_add] at e1 e2 e3 e4 e5
  refine ⟨by rw [f 0 (by omega)]; exact e1, fun l hl => ?_, by rw [Nat.zero_add, f 4 (by omega)]; exact e3, by rw [Nat.zero_add, f 7 (by omega)]; exact e4, by rw [Nat.zero_add, f 6 (by omega)]; exact e5⟩
  rw [Nat.zero_add]
  exact (e2 l hl).fr (fun k h1 h2 => f k (by omega)) (hB.2 l hl).2.1
theorem zCW.slip {g : zM} {D : zWd} {v : Int32} (e : zCW g 396 D) (hV : zVW D) : zCW (zset g 396 6 v) 396 (zDs D v) := by
  obtain ⟨e1, e2, e3, e4, e5, e6, e7⟩ := e
  refine ⟨e1.fr hV.1.1 (fun c h1 h2 => zs_cell (by omega)), e2.fr (fun c h1 h2 => zs_cell (by omega)), fun k hk => by rw [zs_miss (by omega)]; exact e3 k hk, by rw [zs_miss (by omega)]; exact e4, fun p hp => by rw [zs_miss (by omega), zs_miss (by omega)]; exact e5 p hp, zs_hit ⟨rfl, rfl⟩, by rw [zs_miss (by omega)]; exact e7⟩
theorem zRW.slip {g : zM} {D : zWd} {v : Int32} (e : zRW g 494 D) (hV : zVW D) : zRW (zset g 494 5 v) 494 (zDs D v) := by
  have h8 := hV.2.2.1
  obtain ⟨e1, e2, e3, e4, e5, e6, e7⟩ := e
  refine ⟨e1.fr0 hV.1 (fun k h => zs_miss (by omega)), e2.fr hV.2.1 (fun k h => zs_miss (by omega)), fun k hk => by rw [zs_miss (by omega)]; exact e3 k hk, by rw [zs_miss (by omega)]; exact e4, fun p hp => ?_, zs_hit ⟨rfl, rfl⟩, by rw [zs_miss (by omega)]; exact e7⟩
  have hp' : p < D.2.2.2.1 := hp
  rw [zs_miss (by omega), zs_miss (by omega)]
  exact e5 p hp
theorem zCW.bag {g g1 : zM} {D : zWd} {B : zB'} (e : zCW g 396 D) (hB : zCB g1 397 B) (f : ∀ c, 396 ≤ c → c < 433 → (c < 397 ∨ 423 ≤ c) → g1 c = g c) : zCW g1 396 (zDm D B) := by
  obtain ⟨e1, e2, e3, e4, e5, e6, e7⟩ := e
  refine ⟨hB, e2.fr (fun c h1 h2 => f c (by omega) (by omega) (by omega)), fun k hk => by rw [f (396 + 34) (by omega) (by omega) (by omega)]; exact e3 k hk, by rw [f 396 (by omega) (by omega) (by omega)]; exact e4, fun p hp => by rw [f (396 + 35) (by omega) (by omega) (by omega), f (396 + 36) (by omega) (by omega) (by omega)]; exact e5 p hp, by rw [f 396 (by omega) (by omega) (by omega)]; exact e6, by rw [f 396 (by omega) (by omega) (by omega)]; exact e7⟩
theorem zRW.bag {g g1 : zM} {D : zWd} {B : zB'} (e : zRW g 494 D) (hV : zVW D) (hB : zRB g1 494 0 B) (f : ∀ k, k < 1309 → k ≠ 0 → k ≠ 4 → k ≠ 6 → k ≠ 7 → (k < 36 ∨ 460 ≤ k) → g1 494 k = g 494 k) : zRW g1 494 (zDm D B) := by
  have h8 := hV.2.2.1
  obtain ⟨e1, e2, e3, e4, e5, e6, e7⟩ := e
  refine ⟨hB, e2.fr hV.2.1 (fun k h => f k (by omega) (by omega) (by omega) (by omega) (by omega) (by omega)), fun k hk => by rw [f (8 + k) (by omega) (by omega) (by omega) (by omega) (by omega) (by omega)]; exact e3 k hk, by rw [f 1 (by omega) (by omega) (by omega) (by omega) (by omega) (by omega)]; exact e4, fun p hp => ?_, by rw [f 5 (by omega) (by omega) (by omega) (by omega) (by omega) (by omega)]; exact e6, by rw [f 2 (by omega) (by omega) (by omega) (by omega) (by omega) (by omega)]; exact e7⟩
  have hp' : p < D.2.2.2.1 := hp
  rw [f _ (by omega) (by omega) (by omega) (by omega) (by omega) (by omega), f _ (by omega) (by omega) (by omega) (by omega) (by omega) (by omega)]
  exact e5 p hp
theorem zCW.word {g : zM} {D : zWd} {j : Nat} {v : Int32} (e : zCW g 396 D) (hV : zVW D) : zCW (zset g (396 + 34) j v) 396 (zDk D j v) := by
  obtain ⟨e1, e2, e3, e4, e5, e6, e7⟩ := e
  refine ⟨e1.fr hV.1.1 (fun c h1 h2 => zs_cell (by omega)), e2.fr (fun c h1 h2 => zs_cell (by omega)), fun k hk => ?_, by rw [zs_miss (by omega)]; exact e4, fun p hp => by rw [zs_miss (by omega), zs_miss (by omega)]; exact e5 p hp, by rw [zs_miss (by omega)]; exact e6, by rw [zs_miss (by omega)]; exact e7⟩
  show _ = zup D.2.2.1 j v k
  by_cases q : k = j
  · rw [zup_hit q, zs_hit ⟨rfl, q⟩]
  · rw [zup_miss q, zs_miss (by omega)]; exact e3 k hk
theorem zRW.word {g : zM} {D : zWd} {j : Nat} {v : Int32} (e : zRW g 494 D) (hV : zVW D) (hj : j < 12) : zRW (zset g 494 (8 + j) v) 494 (zDk D j v) := by
  have h8 := hV.2.2.1
  obtain ⟨e1, e2, e3, e4, e5, e6, e7⟩ := e
  refine ⟨e1.fr0 hV.1 (fun k h => zs_miss (by omega)), e2.fr hV.2.1 (fun k h => zs_miss (by omega)), fun k hk => ?_, by rw [zs_miss (by omega)]; exact e4, fun p hp => ?_, by rw [zs_miss (by omega)]; exact e6, by rw [zs_miss (by omega)]; exact e7⟩
  · show _ = zup D.2.2.1 j v k
    by_cases q : k = j
    · rw [zup_hit q, zs_hit ⟨rfl, by omega⟩]
    · rw [zup_miss q, zs_miss (by omega)]; exact e3 k hk
  · have hp' : p < D.2.2.2.1 := hp
    rw [zs_miss (by omega), zs_miss (by omega)]
    exact e5 p hp
theorem ztn_lt {n N k : Nat} {b : Nat → Nat} (x : zTx n b N) (hk : k ≤ N) {v1 v2 : Int32} (h : ztn v1 v2 (zck b n k) = true) : k < N ∧ zck b n k ≤ 999 := by
  unfold ztn at h
  simp only [Bool.and_eq_true, decide_eq_true_eq] at h
  exact ⟨(zck_num x hk h.1.1).1, h.1.1⟩
theorem r_readNumber {g : zM} {n N k : Nat} {b : Nat → Nat} (x : zTx n b N) (e : zRP g n b N k) {a : Nat} (ha : a < 1309) {v1 v2 : Int32} : ∃ g1 v, fX12_readNumber (nI a) v1 v2 g = some (if ztn v1 v2 (zck b n k) = true then 1 else 0, zset g1 494 a v) ∧ zFP g g1 ∧ (ztn v1 v2 (zck b n k) = true → v = nI (zck b n k) ∧ zRP g1 n b N (k + 1)) ∧ g1 493 12 = nI (zT b n k) := by
  obtain ⟨g1, a1, a2, a3, a4⟩ := r_number x e (v1 := v1) (v2 := v2)
  unfold fX12_readNumber
  rw [a1, zb2_s]
  by_cases q : ztn v1 v2 (zck b n k) = true
  · have h9 := (ztn_lt x e.2.1 q).2
    refine ⟨g1, nI (zck b n k), ?_, a2, fun _ => ⟨rfl, a3 q⟩, a4⟩
    rw [if_pos q, if_pos (by rw [nL_ge (by omega) (by decide)]; omega), zchk_n (by omega) (by omega), nI_cl (by omega), zput_e, if_neg (nI_pos (by omega)), if_pos q]
  · refine ⟨g1, g1 494 a, ?_, a2, fun h => absurd h q, a4⟩
    rw [if_neg q, if_neg (by decide), zchk_n (by omega) (by omega), zchk_n (by omega) (by omega), nI_cl (by omega), zput_e, if_pos (by decide), if_neg q]
theorem p_slip {n N k : Nat} {b : Nat → Nat} {D : zWd} (x : zTx n b N) (hV : zVW D) (hk : k < N) (hl : zso (b (zT b n k)) = 1) : zRd n b N k D fX5_readSlip (fun g => fX12_readNumber 5 0 100 g) := by
  by_cases q : ztn 0 100 (zck b n (k + 1)) = true
  · have h9 := ztn_lt x (show k + 1 ≤ N from hk) q
    refine ⟨.ok (k + 2, zDs D (nI (zck b n (k + 1)))), .ok hV (by omega) (by omega), fun g0 g e => ?_, fun g0 g e => ?_⟩
    · have e1 := e.go hV (show k + 1 ≤ N from hk)
      have e2 := e1.go hV (show k + 2 ≤ N from h9.1)
      refine ⟨_, ?_, e2.1.set (by omega), e2.2.1.slip hV, e2.2.2.set (by omega) (by omega)⟩
      unfold fX5_readSlip
      rw [c_stp x e.1 hk, zb_s, c_takeNumber x e1.1, if_pos q, zb2_s, if_neg (by rw [nI_m1 (by omega)]; exact id), zput_e]
    · obtain ⟨g1, v, a1, a2, a3, a4⟩ := r_readNumber x (e.1.rp x ⟨hk, hl⟩) (a := 5) (by omega) (v1 := 0) (v2 := 100)
      obtain ⟨rfl, b3⟩ := a3 q
      rw [if_pos q] at a1
      exact ⟨_, a1, b3.set, (e.2.1.fp hV a2).slip hV, (e.2.2.fp a2).set⟩
  · refine ⟨.error (zT b n (k + 1)), .err, fun g0 g e => ?_, fun g0 g e => ?_⟩
    · have e1 := e.go hV (show k + 1 ≤ N from hk)
      refine ⟨_, ?_, zs_hit ⟨rfl, rfl⟩, e1.er⟩
      unfold fX5_readSlip
      rw [c_stp x e.1 hk, zb_s, c_takeNumber x e1.1, if_neg q, zb2_s, if_pos rfl]
    · obtain ⟨g1, v, a1, a2, a3, a4⟩ := r_readNumber x (e.1.rp x ⟨hk, hl⟩) (a := 5) (by omega) (v1 := 0) (v2 := 100)
      rw [if_neg q] at a1
      exact ⟨_, a1, by rw [zs_cell (by omega)]; exact a4, (e.2.2.fp a2).set⟩
