/-! the reference's NUMBERS and KINDS -/
theorem r_number_L {n t : Nat} {b : Nat → Nat} (hT : zTW n b) {v1 v2 : Int32} {K : Int32 → zM → Option (Int32 × zM)} : ∀ d p m a (g : zM), zTR g n b → g 493 10 = nI p → g 493 12 = nI t → p + d = n → t ≤ p → d < m → ∃ g1 a', fX12_number_L6 v1 v2 K m (nI a) g = K (nI a') g1 ∧ zFP g g1 ∧ g1 493 10 = nI (zre b 2 d p) ∧ g1 493 12 = nI t ∧ (zre b 2 d p - t ≤ 3 → a' = znv b (zre b 2 d p - p) p a) := by
  have h4 := hT.1
  intro d
  induction d with
  | zero =>
    intro p m a g e hp ht hd htp hm
    obtain ⟨m, rfl⟩ : ∃ k, m = k + 1 := ⟨m - 1, by omega⟩
    refine ⟨g, a, ?_, .refl, hp, ht, fun _ => ?_⟩
    · rw [fX12_number_L6, r_isAt_end e (by rw [hp]; congr 1), zb_s, if_pos rfl]
    · show a = znv b (p - p) p a
      rw [Nat.sub_self]
      rfl
  | succ d ih =>
    intro p m a g e hp ht hd htp hm
    obtain ⟨m, rfl⟩ : ∃ k, m = k + 1 := ⟨m - 1, by omega⟩
    have ha : fX12_isAt 48 57 g = some (if 48 ≤ b p ∧ b p ≤ 57 then 1 else 0) := r_isAt (lo := 48) (hi := 57) hT e hp (by omega) (by omega) (by omega)
    have hz := zso_2 (x := b p)
    rw [fX12_number_L6, ha, zb_s]
    have hr : zre b 2 (d + 1) p = if zso (b p) = 2 then zre b 2 d (p + 1) else p := rfl
    by_cases q : 48 ≤ b p ∧ b p ≤ 57
    · have hl := zre_le (b := b) (c := 2) d (p + 1)
      rw [hr, if_pos (hz.mpr q), if_pos q, if_neg (by decide), hp, ht, show nI p - nI t = nI (p - t) from pk_sub htp]
      by_cases q2 : 3 ≤ p - t
      · obtain ⟨g1, a', c1, c2, c3, c4, c5⟩ := ih (p + 1) m a (zset g 493 10 (nI (p + 1))) (e.fp .set) (zs_hit ⟨rfl, rfl⟩) (by rw [zs_miss (by omega)]; exact ht) (by omega) (by omega) (by omega)
        refine ⟨g1, a', ?_, zFP.set.trans c2, c3, c4, fun h => by omega⟩
        rw [if_pos (by rw [nL_ge (by omega) (by decide)]; exact q2), zput_e, nI_1]
        exact c1
      · obtain ⟨g1, a', c1, c2, c3, c4, c5⟩ := ih (p + 1) m (10 * a + b p - 48) (zset g 493 10 (nI (p + 1))) (e.fp .set) (zs_hit ⟨rfl, rfl⟩) (by rw [zs_miss (by omega)]; exact ht) (by omega) (by omega) (by omega)
        refine ⟨g1, a', ?_, zFP.set.trans c2, c3, c4, fun h => ?_⟩
        · rw [if_neg (by rw [nL_ge (by omega) (by decide)]; exact q2), zchk_n (by omega) (by omega), zput_e, nI_1, nI_cl (by omega), e.2 p (by omega), zsb_lo _ (by omega), nL_mul, nI_add, nL_sub (by omega)]
          exact c1
        · rw [c5 h, show zre b 2 d (p + 1) - p = (zre b 2 d (p + 1) - (p + 1)) + 1 from by omega]
          rfl
    · rw [hr, if_neg (fun h => q (hz.mp h)), if_neg q, if_pos rfl]
      refine ⟨g, a, rfl, .refl, hp, ht, fun _ => ?_⟩
      rw [Nat.sub_self]
      rfl
theorem zck_num {n N k : Nat} {b : Nat → Nat} (x : zTx n b N) (hk : k ≤ N) (h : zck b n k ≤ 999) : k < N ∧ zso (b (zT b n k)) = 2 ∧ zte b n (zT b n k) - zT b n k ≤ 3 ∧ zck b n k = znv b (zte b n (zT b n k) - zT b n k) (zT b n k) 0 := by
  have hkN : k < N := zck_lt x hk (by omega)
  have hT := x.lt k hkN
  have h3 := zso_3 (x := b (zT b n k))
  unfold zck zcd at h ⊢
  rw [if_neg (by omega)] at h ⊢
  split at h
  · omega
  · split at h
    · exfalso
      unfold zwcode at h
      cases q : zff (zwm b (zT b n k) (zte b n (zT b n k) - zT b n k)) 19 with
      | none => rw [q] at h; exact absurd h (by decide)
      | some i => rw [q] at h; have : 1000 + i ≤ 999 := h; omega
    · split at h
      · refine ⟨hkN, by omega, by assumption, ?_⟩
        rw [if_neg (by assumption), if_neg (by assumption), if_pos (by assumption)]
      · omega
theorem zck_dig {n N k : Nat} {b : Nat → Nat} (x : zTx n b N) (hk : k < N) (h2 : zso (b (zT b n k)) = 2) (h : zte b n (zT b n k) - zT b n k ≤ 3) : zck b n k = znv b (zte b n (zT b n k) - zT b n k) (zT b n k) 0 ∧ zck b n k ≤ 999 := by
  have hT := x.lt k hk
  have : zck b n k = znv b (zte b n (zT b n k) - zT b n k) (zT b n k) 0 := by
    unfold zck zcd
    rw [if_neg (by omega), if_neg (by omega), if_neg (by omega), if_pos h]
  exact ⟨this, by rw [this]; exact znv_3 hT h2 h⟩
theorem r_number {g : zM} {n N k : Nat} {b : Nat → Nat} (x : zTx n b N) (e : zRP g n b N k) {v1 v2 : Int32} : ∃ g1, fX12_number v1 v2 g = some (if ztn v1 v2 (zck b n k) = true then nI (zck b n k) else -1, g1) ∧ zFP g g1 ∧ (ztn v1 v2 (zck b n k) = true → zRP g1 n b N (k + 1)) ∧ g1 493 12 = nI (zT b n k) := by
  have h4 := x.b400
  have hk := e.2.1
  have hn := x.le_n hk
  obtain ⟨g1, a1, a2, a3, a4, a5⟩ := r_bl x e
  unfold fX12_number
  rw [a1, zb_s]
  obtain ⟨g2, a', c1, c2, c3, c4, c5⟩ := r_number_L x.w (K := fun v3_8 g8 => if (g8 493 10) = (g8 493 12) then some ((-1), g8) else if 3 < ((g8 493 10) - (g8 493 12)) then some ((-1), g8) else if v3_8 < v1 then some ((-1), g8) else if v3_8 ≤ v2 then some (v3_8, g8) else some ((-1), g8)) (v1 := v1) (v2 := v2) (n - zT b n k) (zT b n k) zFU 0 g1 a3 a4 a5 (by omega) (Nat.le_refl _) (by unfold zFU; omega)
  have hz := zre_le (b := b) (c := 2) (n - zT b n k) (zT b n k)
  have hK : fX12_number_L6 v1 v2 (fun v3_8 g8 => if (g8 493 10) = (g8 493 12) then some ((-1), g8) else if 3 < ((g8 493 10) - (g8 493 12)) then some ((-1), g8) else if v3_8 < v1 then some ((-1), g8) else if v3_8 ≤ v2 then some (v3_8, g8) else some ((-1), g8)) zFU 0 g1 = if zre b 2 (n - zT b n k) (zT b n k) = zT b n k then some (-1, g2) else if 3 < zre b 2 (n - zT b n k) (zT b n k) - zT b n k then some (-1, g2) else if nI a' < v1 then some (-1, g2) else if nI a' ≤ v2 then some (nI a', g2) else some (-1, g2) := by
    refine (show _ = _ from c1).trans ?_
    simp only [c3, c4]
    rw [show nI (zre b 2 (n - zT b n k) (zT b n k)) - nI (zT b n k) = nI (zre b 2 (n - zT b n k) (zT b n k) - zT b n k) from pk_sub hz.1]
    have p1 : (nI (zre b 2 (n - zT b n k) (zT b n k)) = nI (zT b n k)) = (zre b 2 (n - zT b n k) (zT b n k) = zT b n k) := propext (nI_eq (by omega) (by omega))
    have p2 : (3 < nI (zre b 2 (n - zT b n k) (zT b n k) - zT b n k)) = (3 < zre b 2 (n - zT b n k) (zT b n k) - zT b n k) := propext (nL_gt (by omega) (by decide))
    simp only [p1, p2]
  rw [hK]
  have fp := a2.trans c2
  by_cases q : k < N ∧ zso (b (zT b n k)) = 2
  · have hT := x.lt k q.1
    have ht := zte_le (b := b) hT
    have hr : zre b 2 (n - zT b n k) (zT b n k) = zte b n (zT b n k) := by rw [zte_re hT (by omega), q.2]
    rw [hr] at c3 c5 ⊢
    rw [if_neg (show ¬ zte b n (zT b n k) = zT b n k by omega)]
    by_cases q3 : zte b n (zT b n k) - zT b n k ≤ 3
    · obtain ⟨d1, d2⟩ := zck_dig x q.1 q.2 q3
      rw [if_neg (show ¬ 3 < zte b n (zT b n k) - zT b n k by omega), c5 q3, ← d1]
      have hp : zRP g2 n b N (k + 1) := .nx x (a3.fp c2) q.1 c3
      unfold ztn
      by_cases q4 : nI (zck b n k) < v1
      · exact ⟨g2, by rw [if_pos q4, if_neg (by simp [q4])], fp, fun _ => hp, c4⟩
      · rw [if_neg q4]
        by_cases q5 : nI (zck b n k) ≤ v2
        · exact ⟨g2, by rw [if_pos q5, if_pos (by simp [d2, q4, q5])], fp, fun _ => hp, c4⟩
        · exact ⟨g2, by rw [if_neg q5, if_neg (by simp [q5])], fp, fun _ => hp, c4⟩
    · have hf : ¬ ztn v1 v2 (zck b n k) = true := by
        intro h
        unfold ztn at h
        simp only [Bool.and_eq_true, decide_eq_true_eq] at h
        exact q3 (zck_num x hk h.1.1).2.2.1
      exact ⟨g2, by rw [if_pos (show 3 < zte b n (zT b n k) - zT b n k by omega), if_neg hf], fp, fun h => absurd h hf, c4⟩
  · have hf : ¬ ztn v1 v2 (zck b n k) = true := by
      intro h
      unfold ztn at h
      simp only [Bool.and_eq_true, decide_eq_true_eq] at h
      have := zck_num x hk h.1.1
      exact q ⟨this.1, this.2.1⟩
    have hr : zre b 2 (n - zT b n k) (zT b n k) = zT b n k := by
      by_cases q2 : k = N
      · rw [q2, x.e, Nat.sub_self]; rfl
      · have hT := x.lt k (by omega)
        rw [show n - zT b n k = (n - (zT b n k + 1)) + 1 from by omega]
        show (if zso (b (zT b n k)) = 2 then _ else _) = _
        rw [if_neg (fun h => q ⟨by omega, h⟩)]
    exact ⟨g2, by rw [if_pos hr, if_neg hf], fp, fun h => absurd h hf, c4⟩
theorem r_after {g : zM} {n N k : Nat} {b : Nat → Nat} (x : zTx n b N) (e : zRP g n b N k) {s i : Nat} (hs : zWs s i) {v1 v2 : Int32} : ∃ g1, fX12_after s v1 v2 g = some (if zck b n k = 1000 + i then if ztn v1 v2 (zck b n (k + 1)) = true then nI (zck b n (k + 1)) else -1 else -1, g1) ∧ zFP g g1 ∧ (zck b n k = 1000 + i → ztn v1 v2 (zck b n (k + 1)) = true → zRP g1 n b N (k + 2)) ∧ g1 493 12 = nI (zT b n (if zck b n k = 1000 + i then k + 1 else k)) := by
  obtain ⟨g1, a1, a2, a3⟩ := r_lp x e
  unfold fX12_after
  rw [a1, zb_s, r_iw x a3 hs, zb_s]
  by_cases q : zck b n k = 1000 + i
  · obtain ⟨g2, c1, c2, c3, c4⟩ := r_number x (a3.rp x (zck_let x a3.2.1 hs.1 q)) (v1 := v1) (v2 := v2)
    exact ⟨g2, by rw [if_pos q, if_neg (by decide), c1, zb2_s, if_pos q], a2.trans c2, fun _ h => c3 h, by rw [if_pos q]; exact c4⟩
  · exact ⟨g1, by rw [if_neg q, if_pos rfl, if_neg q], a2, fun h => absurd h q, by rw [if_neg q]; exact a3.2.2.1⟩
theorem r_kindBy {g : zM} {x : Nat} (hx : x < 256) : fX12_kindBy (zsb x) g = some (if zkd x = true then nI (x - 97) else -1) := by
  unfold fX12_kindBy fX12_in
  rcases Nat.lt_or_ge x 128 with q | q
  · rw [zsb_lo x q]
    unfold zkd
    by_cases q1 : x < 97
    · rw [if_pos (by rw [nL_lt (by omega) (by decide)]; exact q1), zb_s, if_pos rfl, if_neg (by simp; omega)]
    · rw [if_neg (by rw [nL_lt (by omega) (by decide)]; exact q1)]
      by_cases q2 : 108 < x
      · rw [if_pos (by rw [nL_gt (by omega) (by decide)]; exact q2), zb_s, if_pos rfl, if_neg (by simp; omega)]
      · rw [if_neg (by rw [nL_gt (by omega) (by decide)]; exact q2), zb_s, if_neg (by decide), nL_sub (by omega), if_pos (by simp; omega)]
  · have h0 := zsb_hi x hx q
    have : zsb x < 97 := by
      rw [Int32.lt_iff_toInt_lt] at h0 ⊢
      have z : (0 : Int32).toInt = 0 := by decide
      have z1 : (97 : Int32).toInt = 97 := by decide
      omega
    rw [if_pos this, zb_s, if_pos rfl, if_neg (by unfold zkd; simp; omega)]
def zko : Option Nat → Int32
  | some v => nI v
  | none => -1
theorem zkk_some {n N k v : Nat} {b : Nat → Nat} (x : zTx n b N) (hk : k ≤ N) (h : zkk b n k = some v) : k < N ∧ zso (b (zT b n k)) = 1 ∧ v < 12 := by
  unfold zkk at h
  split at h
  · obtain ⟨h1, h2, h3, h4, h5⟩ := zkq_row x hk (by omega)
    have h6 := h5 0 (by omega)
    unfold zkd at h6
    simp only [Bool.and_eq_true, decide_eq_true_eq, Nat.add_zero] at h6
    injection h with h
    exact ⟨h1, h4, by omega⟩
  · exact absurd h (by simp)
theorem r_told {g : zM} {n N k : Nat} {b : Nat → Nat} (x : zTx n b N) (e : zRt g n b N k) : fX12_kindTold g = some (zko (zkk b n k)) := by
  have h4 := x.b400
  have hk := e.2.1
  have hn := x.le_n hk
  unfold fX12_kindTold
  rw [e.2.2.1, e.2.2.2]
  have hz := zre_le (b := b) (c := 1) (n - zT b n k) (zT b n k)
  rw [show nI (zre b 1 (n - zT b n k) (zT b n k)) - nI (zT b n k) = nI (zre b 1 (n - zT b n k) (zT b n k) - zT b n k) from pk_sub hz.1]
  rcases zre_1 x hk with ⟨h1, h2, h3⟩ | ⟨h1, h2⟩
  · have hT := x.lt k h1
    rw [h3]
    by_cases q : zte b n (zT b n k) - zT b n k = 1
    · rw [if_pos (by rw [q]; rfl), zchk_n (by omega) (by omega), nI_cl (by omega), e.1.2 _ hT, r_kindBy (x.w.2 _ hT), zb_s]
      have hl : zlg b n (zT b n k) = 1 := by unfold zlg; rw [if_neg (by omega)]; exact q
      unfold zkk zkq
      rw [hl]
      cases q2 : zkd (b (zT b n k))
      · have : zff (fun j => !zkd (b (zT b n k + j))) 1 = some 0 := zff_some (by omega) (fun j hj => absurd hj (Nat.not_lt_zero _)) (by rw [Nat.add_zero, q2]; rfl)
        rw [this]
        rfl
      · have : zff (fun j => !zkd (b (zT b n k + j))) 1 = none := zff_none (fun j hj => by rw [show j = 0 from by omega, Nat.add_zero, q2]; rfl)
        rw [this]
        rfl
    · have : zkk b n k = none := by
        unfold zkk
        refine if_neg (fun h => q ?_)
        have := (zkq_row x hk (by omega)).2.1
        omega
      rw [if_neg (by rw [nL_eq (by omega) (by decide)]; exact q), this]
      rfl
  · have : zkk b n k = none := by
      unfold zkk
      refine if_neg (fun h => h1 ?_)
      have := zkq_row x hk (by omega)
      exact ⟨this.1, this.2.2.2.1⟩
    rw [h2, Nat.sub_self, if_neg (by decide), this]
    rfl
theorem r_kindNext {g : zM} {n N k : Nat} {b : Nat → Nat} (x : zTx n b N) (e : zRP g n b N k) : ∃ g1, fX12_kindNext g = some (zko (zkk b n k), g1) ∧ zFP g g1 ∧ (zkk b n k ≠ none → zRP g1 n b N (k + 1)) ∧ g1 493 12 = nI (zT b n k) := by
  obtain ⟨g1, a1, a2, a3⟩ := r_lp x e
  refine ⟨g1, ?_, a2, fun h => ?_, a3.2.2.1⟩
  · unfold fX12_kindNext
    rw [a1, zb_s, r_told x a3, zb_s]
  · cases q : zkk b n k with
    | none => exact absurd q h
    | some v =>
      have := zkk_some x a3.2.1 q
      exact a3.rp x ⟨this.1, this.2.1⟩
