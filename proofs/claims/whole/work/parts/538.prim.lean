/-! the class's steps through the things -/
def zkd (x : Nat) : Bool := decide (97 ≤ x) && decide (x ≤ 108)
/-- how many KINDS the thing k tells, or 0 -/
def zkq (b : Nat → Nat) (n k : Nat) : Nat := if (zff (fun j => !zkd (b (zT b n k + j))) (zlg b n (zT b n k))).isNone = true ∧ zlg b n (zT b n k) ≤ 24 then zlg b n (zT b n k) else 0
def zkk (b : Nat → Nat) (n k : Nat) : Option Nat := if zkq b n k = 1 then some (b (zT b n k) - 97) else none
def ztn (v1 v2 : Int32) (c : Nat) : Bool := decide (c ≤ 999) && (!decide (nI c < v1)) && decide (nI c ≤ v2)
theorem ySc.fr {g g1 : zM} {h n N : Nat} {b : Nat → Nat} (e : ySc g h n b N) (f : ∀ c, h < c → c < h + 5 → g1 c = g c) (f0 : ∀ k, k ≠ 6 → g1 h k = g h k) : ySc g1 h n b N := by
  obtain ⟨e1, e2, e3⟩ := e
  refine ⟨⟨by rw [f0 4 (by omega)]; exact e1.1, fun i hi => by rw [f (h + 1) (by omega) (by omega)]; exact e1.2 i hi⟩, ⟨by rw [f0 5 (by omega)]; exact e2.1, by rw [f0 7 (by omega)]; exact e2.2⟩, fun j hj => ?_⟩
  rw [f (h + 2) (by omega) (by omega), f (h + 3) (by omega) (by omega), f (h + 4) (by omega) (by omega)]
  exact e3 j hj
/-- the class stands at the thing k -/
def zCP (g : zM) (h n : Nat) (b : Nat → Nat) (N k : Nat) : Prop := ySc g h n b N ∧ g h 6 = nI k ∧ k ≤ N
theorem zCP.go {g : zM} {h n N k : Nat} {b : Nat → Nat} (e : zCP g h n b N k) {j : Nat} (hj : j ≤ N) : zCP (zset g h 6 (nI j)) h n b N j :=
  ⟨e.1.fr (fun c h1 _ => zs_cell (by omega)) (fun k h1 => zs_miss (by omega)), zs_hit ⟨rfl, rfl⟩, hj⟩
theorem zCP.fr {g g1 : zM} {h n N k : Nat} {b : Nat → Nat} (e : zCP g h n b N k) (f : ∀ c, h ≤ c → c < h + 5 → g1 c = g c) : zCP g1 h n b N k :=
  ⟨e.1.fr (fun c h1 h2 => f c (by omega) h2) (fun k _ => by rw [f h (by omega) (by omega)]), by rw [f h (by omega) (by omega)]; exact e.2.1, e.2.2⟩
theorem zck_N {n N : Nat} {b : Nat → Nat} (x : zTx n b N) : zck b n N = 1021 := by
  unfold zck
  rw [x.e]
  exact if_pos (Nat.le_refl _)
theorem zck_lt {n N k : Nat} {b : Nat → Nat} (x : zTx n b N) (hk : k ≤ N) (h : zck b n k ≠ 1021) : k < N := by
  by_cases q : k = N
  · rw [q] at h; exact absurd (zck_N x) h
  · omega
theorem zcd_big {n N k : Nat} {b : Nat → Nat} (x : zTx n b N) (hk : k ≤ N) : zck b n k < 2000 := by
  by_cases q : k = N
  · rw [q, zck_N x]; decide
  have h1 := x.lt k (by omega)
  have hb := x.w.2 _ h1
  unfold zck
  generalize zT b n k = p at *
  unfold zcd
  rw [if_neg (by omega)]
  split
  · omega
  · split
    · unfold zwcode
      cases q : zff (zwm b p (zte b n p - p)) 19 with
      | none => decide
      | some i =>
        have := (zff_lt q).1
        show 1000 + i < 2000
        omega
    · split
      · have := zso_3 (x := b p)
        have := znv_3 (b := b) h1 (by omega) (by assumption)
        omega
      · decide
theorem c_code {g : zM} {h n N k : Nat} {b : Nat → Nat} (x : zTx n b N) (e : zCP g h n b N k) : fX9_code h g = some (nI (zck b n k)) := by
  have h4 := x.b400
  have hN := x.le
  have hk := e.2.2
  unfold fX9_code
  rw [e.2.1, zchk_n (by omega) (by omega), nI_cl (by omega), (e.1.2.2 k hk).1]
theorem c_fail {g : zM} {h n N k : Nat} {b : Nat → Nat} (x : zTx n b N) (e : zCP g h n b N k) : fX9_fail h g = some (0, zset g h 7 (nI (zT b n k))) := by
  have h4 := x.b400
  have hN := x.le
  have hk := e.2.2
  unfold fX9_fail
  rw [e.2.1, zchk_n (by omega) (by omega), nI_cl (by omega), (e.1.2.2 k hk).2.1, zput_e]
theorem c_stp {g : zM} {h n N k : Nat} {b : Nat → Nat} (x : zTx n b N) (e : zCP g h n b N k) (hk : k < N) : fX9_step h g = some (zset g h 6 (nI (k + 1))) := by
  have h4 := x.b400
  have hN := x.le
  unfold fX9_step
  rw [e.2.1, e.1.2.1.1, if_neg (by rw [nI_leI (by omega) (by omega)]; omega), zput_e, nI_1]
theorem c_pass {g : zM} {h n N k : Nat} {b : Nat → Nat} (x : zTx n b N) (e : zCP g h n b N k) {c : Nat} (hc : c < 2000) (h1 : c ≠ 1021) : fX9_pass h (nI c) g = if zck b n k = c then some (1, zset g h 6 (nI (k + 1))) else some (0, zset g h 7 (nI (zT b n k))) := by
  have h4 := x.b400
  have hN := x.le
  have hk := e.2.2
  have hb := zcd_big x hk
  unfold fX9_pass
  rw [e.2.1, e.1.2.1.1, zchk_n (by omega) (by omega), nI_cl (by omega), (e.1.2.2 k hk).1, (e.1.2.2 k hk).2.1]
  by_cases qk : k = N
  · have hz := zck_N x
    rw [← qk] at hz
    rw [if_pos (by rw [nI_leI (by omega) (by omega)]; omega), if_neg (by omega), zput_e]
  rw [if_neg (by rw [nI_leI (by omega) (by omega)]; omega), zchk_n (by omega) (by omega)]
  by_cases q : zck b n k = c
  · rw [if_pos (by rw [← q]), if_pos q, zput_e, nI_1]
  · rw [if_neg (by rw [nI_eq (by omega) (by omega)]; exact q), if_neg q, zput_e]
theorem c_takeNumber {g : zM} {h n N k : Nat} {b : Nat → Nat} (x : zTx n b N) (e : zCP g h n b N k) {v1 v2 : Int32} : fX9_takeNumber h v1 v2 g = if ztn v1 v2 (zck b n k) = true then some (nI (zck b n k), zset g h 6 (nI (k + 1))) else some (-1, zset g h 7 (nI (zT b n k))) := by
  have h4 := x.b400
  have hN := x.le
  have hk := e.2.2
  have hb := zcd_big x hk
  unfold fX9_takeNumber ztn
  rw [e.2.1, zchk_n (by omega) (by omega), nI_cl (by omega), (e.1.2.2 k hk).1, c_fail x e]
  by_cases q : zck b n k ≤ 999
  · rw [if_neg (by rw [nL_gt (by omega) (by decide)]; omega), c_stp x e (zck_lt x hk (by omega))]
    by_cases q1 : nI (zck b n k) < v1
    · rw [if_pos q1, if_neg (by simp [q1])]; rfl
    · rw [if_neg q1]
      by_cases q2 : nI (zck b n k) ≤ v2
      · rw [if_pos q2, if_pos (by simp [q, q1, q2])]; rfl
      · rw [if_neg q2, if_neg (by simp [q2])]; rfl
  · rw [if_pos (by rw [nL_gt (by omega) (by decide)]; omega), if_neg (by simp [q])]; rfl
theorem k_in : ∀ x, x < 256 → (if nI x - 97 < 0 then -1 else if 12 ≤ nI x - 97 then -1 else nI x - 97) = if zkd x = true then nI (x - 97) else -1 := by decide +kernel
theorem c_kindIn {g : zM} {h n N k : Nat} {b : Nat → Nat} (x : zTx n b N) (e : zCP g h n b N k) {j : Nat} (hj : j < zlg b n (zT b n k)) : fX9_kindIn h (nI j) g = some (if zkd (b (zT b n k + j)) = true then nI (b (zT b n k + j) - 97) else -1) := by
  have h4 := x.b400
  have hN := x.le
  have hk := e.2.2
  have hl : zT b n k + j < n := by
    unfold zlg at hj
    split at hj
    · omega
    · have := zte_le (b := b) (n := n) (p := zT b n k) (by omega)
      omega
  unfold fX9_kindIn
  rw [e.2.1, zchk_n (by omega) (by omega), zjoin_e, nI_cl (by omega), (e.1.2.2 k hk).2.1, nI_add, if_neg (nI_pos (by omega)), e.1.1.1, if_neg (by rw [nI_leI (by omega) (by omega)]; omega), zchk_n (by omega) (by omega), nI_cl (by omega), e.1.1.2 _ hl]
  have := k_in (b (zT b n k + j)) (x.w.2 _ hl)
  rw [← this]
  show (if nI (b (zT b n k + j)) - 97 < 0 then some (-1) else if 12 ≤ nI (b (zT b n k + j)) - 97 then some (-1) else some (nI (b (zT b n k + j)) - 97)) = _
  by_cases q1 : nI (b (zT b n k + j)) - 97 < 0
  · rw [if_pos q1, if_pos q1]
  · rw [if_neg q1, if_neg q1]
    by_cases q2 : 12 ≤ nI (b (zT b n k + j)) - 97
    · rw [if_pos q2, if_pos q2]
    · rw [if_neg q2, if_neg q2]
theorem c_countKinds {g : zM} {h n N k : Nat} {b : Nat → Nat} (x : zTx n b N) (e : zCP g h n b N k) : fX9_countKinds h g = some (nI (zkq b n k)) := by
  have h4 := x.b400
  have hN := x.le
  have hk := e.2.2
  have hl : zlg b n (zT b n k) ≤ 400 := by
    unfold zlg
    split
    · omega
    · have := zte_le (b := b) (n := n) (p := zT b n k) (by omega)
      omega
  unfold fX9_countKinds
  rw [e.2.1, zchk_n (by omega) (by omega), nI_cl (by omega), (e.1.2.2 k hk).2.2]
  refine (zL_P (fun m i => fX9_countKinds_L12 h (nI (zlg b n (zT b n k))) g _ m (nI i)) (fun j => !zkd (b (zT b n k + j))) (zlg b n (zT b n k)) (fun _ => some 0) (if 24 < nI (zlg b n (zT b n k)) then some 0 else some (nI (zlg b n (zT b n k)))) (by omega) (fun m i hi => ?_) (fun m => ?_)).trans ?_
  · show fX9_countKinds_L12 h (nI (zlg b n (zT b n k))) g _ (m + 1) (nI i) = _
    rw [fX9_countKinds_L12, if_neg (by rw [nI_leI (by omega) (by omega)]; omega), c_kindIn x e hi, zb_s, nI_1]
    cases q : zkd (b (zT b n k + i))
    · rfl
    · rw [if_pos rfl, if_neg (by rw [nI_m1 (by unfold zkd at q; simp at q; omega)]; exact id)]
      rfl
  · show fX9_countKinds_L12 h (nI (zlg b n (zT b n k))) g _ (m + 1) (nI (zlg b n (zT b n k))) = _
    rw [fX9_countKinds_L12, if_pos (Int32.le_refl _)]
  · unfold zkq
    cases q : zff (fun j => !zkd (b (zT b n k + j))) (zlg b n (zT b n k)) with
    | some i => rfl
    | none =>
      show (if 24 < nI (zlg b n (zT b n k)) then some 0 else some (nI (zlg b n (zT b n k)))) = some (nI (if true = true ∧ zlg b n (zT b n k) ≤ 24 then zlg b n (zT b n k) else 0))
      by_cases q2 : zlg b n (zT b n k) ≤ 24
      · rw [if_neg (by rw [nL_gt (by omega) (by decide)]; omega), if_pos ⟨rfl, q2⟩]
      · rw [if_pos (by rw [nL_gt (by omega) (by decide)]; omega), if_neg (fun h => q2 h.2)]
        rfl
/-- what the thing k is, where it tells KINDS -/
theorem zkq_row {n N k : Nat} {b : Nat → Nat} (x : zTx n b N) (hk : k ≤ N) (h : zkq b n k ≠ 0) : k < N ∧ zkq b n k = zte b n (zT b n k) - zT b n k ∧ zkq b n k ≤ 24 ∧ zso (b (zT b n k)) = 1 ∧ ∀ j, j < zkq b n k → zkd (b (zT b n k + j)) = true := by
  unfold zkq at h
  have e : zkq b n k = zlg b n (zT b n k) := by
    unfold zkq
    split at h
    · rw [if_pos (by assumption)]
    · exact absurd rfl h
  split at h
  · obtain ⟨h1, h2⟩ := (by assumption : _ ∧ _)
    have h3 : ∀ j, j < zlg b n (zT b n k) → zkd (b (zT b n k + j)) = true := by
      intro j hj
      cases q : zff (fun j => !zkd (b (zT b n k + j))) (zlg b n (zT b n k)) with
      | some i => rw [q] at h1; exact absurd h1 Bool.false_ne_true
      | none =>
        have := (List.find?_eq_none.mp q) j (List.mem_range.mpr hj)
        simpa using this
    have hkN : k < N := by
      by_cases q : k = N
      · exfalso; apply h
        unfold zlg; rw [q, x.e, if_pos (Nat.le_refl _)]
      · omega
    have hT := x.lt k hkN
    rw [e]
    refine ⟨hkN, ?_, h2, ?_, h3⟩
    · unfold zlg; rw [if_neg (by omega)]
    · have := h3 0 (by omega)
      unfold zkd at this
      simp at this
      exact zso_1.mpr (by omega)
  · exact absurd rfl h
theorem c_takeKind {g : zM} {h n N k : Nat} {b : Nat → Nat} (x : zTx n b N) (e : zCP g h n b N k) : fX9_takeKind h g = match zkk b n k with | some v => some (nI v, zset g h 6 (nI (k + 1))) | none => some (-1, zset g h 7 (nI (zT b n k))) := by
  have hk := e.2.2
  unfold fX9_takeKind zkk
  rw [c_countKinds x e, zb_s]
  by_cases q : zkq b n k = 1
  · obtain ⟨h1, h2, h3, h5, h6⟩ := zkq_row x hk (by omega)
    have hl : zlg b n (zT b n k) = 1 := by
      have := x.lt k h1
      unfold zlg; rw [if_neg (by omega)]; omega
    rw [if_pos (by rw [q]; rfl), if_pos q, show fX9_kindIn h 0 g = _ from c_kindIn x e (j := 0) (by omega), zb_s, c_stp x e h1, zb_s, Nat.add_zero, if_pos (by have := h6 0 (by omega); rwa [Nat.add_zero] at this)]
  · have hz : zkq b n k ≤ 400 := by
      by_cases q0 : zkq b n k = 0
      · omega
      · have := (zkq_row x hk q0).2.2.1; omega
    rw [if_neg (by rw [nL_eq (by omega) (by decide)]; exact q), if_neg q, c_fail x e]
    rfl
