/-! THE LAW in the reference -/
theorem zen_lt {c : Nat} : zen c < 15 := by
  unfold zen
  repeat (split; omega)
  omega
theorem r_step {g : zM} {W : zLw} (hW : zWW W) (e : zRL g 494 W) {L : zL} {k : Nat} {w : Int32} (eR : zRR g L k w) (hL : L.1 ≤ 24) (hk : k ≤ L.1) {v i : Nat} (hv : v < W.1) (hi : i < W.2.2.2.1 v) {s : List Int32} (hl : s.length ≤ i) (hst : zSt (g 501) s) {t t' : List Bool} (ht : zTy t s) (hc : ztc1 (W.2.2.2.2.1 i) t = some t') (K : Int32 → zM → Option (Int32 × zM)) (n : Nat) :
    ∃ g', fX12_holdsLine_L20 (nI (461 + 4 * v)) K (n + 1) (nI s.length) (nI i) g = fX12_holdsLine_L20 (nI (461 + 4 * v)) K n (nI (zev1 (zfact L k w) (W.2.2.2.2.1 i) s).length) (nI (i + 1)) g' ∧ zSt (g' 501) (zev1 (zfact L k w) (W.2.2.2.2.1 i) s) ∧ (zev1 (zfact L k w) (W.2.2.2.2.1 i) s).length ≤ i + 1 ∧ ∀ c, c ≠ 501 → g' c = g c := by
  obtain ⟨e1, e2, e3, e4⟩ := e
  have hv12 := hW.1
  have hC := hW.2.1
  have hok := (hW.2.2.1 v hv).2.2
  have hiC : i < W.2.2.2.2.2.1 := Nat.lt_of_lt_of_le hi hok.2.1
  have c1 : g 494 (509 + 2 * i) = nI (zen (W.2.2.2.2.1 i)) := (e4 i hiC).1
  have c1' : g 494 (509 + 2 * i + 1) = nI (zem (W.2.2.2.2.1 i)) := (e4 i hiC).2
  have c2 : g 494 (461 + 4 * v + 3) = nI (W.2.2.2.1 v) := (e3 v hv).2.2.2
  have c3 : W.2.2.2.1 v ≤ 400 := by have := hok.2.1; omega
  generalize hcd : W.2.2.2.2.1 i = c at *
  rw [fX12_holdsLine_L20]
  rcases ztc1_cases hc with ⟨hd, rfl⟩ | ⟨rfl, r, rfl, rfl⟩ | hd
  · have hz : zev1 (zfact L k w) c s = zval (zfact L k w) c :: s := by unfold zev1; rw [if_pos hd]
    have h8 : zen c ≤ 8 := by
      unfold zen
      repeat (split; omega)
      omega
    rw [hz]
    simp (disch := omega) only [nL_lt, nL_gt, nL_le, nL_ge, nL_eq, nL_qe, nI_ltI, nI_leI, nI_eq, nL_add, nL_dda, nI_add, nL_sub, pk_sub, nL_mul, nL_clamp, nI_cl, zchk_n, zchk_l, zb_s, zb2_s, zb3_s, zb3_e, zput_e, zjoin_e, zs_hit, zs_miss, nle_t, nle_f, nlt_t, nlt_f, neq_t, neq_f, ↓reduceIte, and_self, and_true, true_and, and_false, false_and, not_true_eq_false, not_false_eq_true, Nat.add_zero, c2, c1, c1', r_factOf eR hL hk hd]
    refine ⟨_, rfl, ⟨?_, zSt_up hst (fun j hj => ?_)⟩, by simp; omega, fun c h => ?_⟩
    · simp (disch := omega) only [nL_lt, nL_gt, nL_le, nL_ge, nL_eq, nL_qe, nI_ltI, nI_leI, nI_eq, nL_add, nL_dda, nI_add, nL_sub, pk_sub, nL_mul, nL_clamp, nI_cl, zchk_n, zchk_l, zb_s, zb2_s, zb3_s, zb3_e, zput_e, zjoin_e, zs_hit, zs_miss, nle_t, nle_f, nlt_t, nlt_f, neq_t, neq_f, ↓reduceIte, and_self, and_true, true_and, and_false, false_and, not_true_eq_false, not_false_eq_true, Nat.add_zero]
    · simp (disch := omega) only [nL_lt, nL_gt, nL_le, nL_ge, nL_eq, nL_qe, nI_ltI, nI_leI, nI_eq, nL_add, nL_dda, nI_add, nL_sub, pk_sub, nL_mul, nL_clamp, nI_cl, zchk_n, zchk_l, zb_s, zb2_s, zb3_s, zb3_e, zput_e, zjoin_e, zs_hit, zs_miss, nle_t, nle_f, nlt_t, nlt_f, neq_t, neq_f, ↓reduceIte, and_self, and_true, true_and, and_false, false_and, not_true_eq_false, not_false_eq_true, Nat.add_zero]
    · simp (disch := omega) only [nL_lt, nL_gt, nL_le, nL_ge, nL_eq, nL_qe, nI_ltI, nI_leI, nI_eq, nL_add, nL_dda, nI_add, nL_sub, pk_sub, nL_mul, nL_clamp, nI_cl, zchk_n, zchk_l, zb_s, zb2_s, zb3_s, zb3_e, zput_e, zjoin_e, zs_hit, zs_miss, nle_t, nle_f, nlt_t, nlt_f, neq_t, neq_f, ↓reduceIte, and_self, and_true, true_and, and_false, false_and, not_true_eq_false, not_false_eq_true, Nat.add_zero, zs_cell]
  · obtain ⟨x, r', rfl, hx, hr⟩ := zTy_1 ht
    have hlen : (x :: r').length = r'.length + 1 := rfl
    have h34 : g 501 r'.length = x := hst.1
    rw [show zen 1008 = 12 from rfl] at c1
    rw [hlen] at hl ⊢
    simp (disch := omega) only [nL_lt, nL_gt, nL_le, nL_ge, nL_eq, nL_qe, nI_ltI, nI_leI, nI_eq, nL_add, nL_dda, nI_add, nL_sub, pk_sub, nL_mul, nL_clamp, nI_cl, zchk_n, zchk_l, zb_s, zb2_s, zb3_s, zb3_e, zput_e, zjoin_e, zs_hit, zs_miss, nle_t, nle_f, nlt_t, nlt_f, neq_t, neq_f, ↓reduceIte, and_self, and_true, true_and, and_false, false_and, not_true_eq_false, not_false_eq_true, Nat.add_zero, c2, c1]
    simp only [Nat.add_sub_cancel, h34]
    refine ⟨_, rfl, ⟨?_, zSt_up hst.2 (fun j hj => ?_)⟩, by show r'.length + 1 ≤ _; omega, fun c h => ?_⟩
    · simp (disch := omega) only [nL_lt, nL_gt, nL_le, nL_ge, nL_eq, nL_qe, nI_ltI, nI_leI, nI_eq, nL_add, nL_dda, nI_add, nL_sub, pk_sub, nL_mul, nL_clamp, nI_cl, zchk_n, zchk_l, zb_s, zb2_s, zb3_s, zb3_e, zput_e, zjoin_e, zs_hit, zs_miss, nle_t, nle_f, nlt_t, nlt_f, neq_t, neq_f, ↓reduceIte, and_self, and_true, true_and, and_false, false_and, not_true_eq_false, not_false_eq_true, Nat.add_zero]
    · simp (disch := omega) only [nL_lt, nL_gt, nL_le, nL_ge, nL_eq, nL_qe, nI_ltI, nI_leI, nI_eq, nL_add, nL_dda, nI_add, nL_sub, pk_sub, nL_mul, nL_clamp, nI_cl, zchk_n, zchk_l, zb_s, zb2_s, zb3_s, zb3_e, zput_e, zjoin_e, zs_hit, zs_miss, nle_t, nle_f, nlt_t, nlt_f, neq_t, neq_f, ↓reduceIte, and_self, and_true, true_and, and_false, false_and, not_true_eq_false, not_false_eq_true, Nat.add_zero]
    · simp (disch := omega) only [nL_lt, nL_gt, nL_le, nL_ge, nL_eq, nL_qe, nI_ltI, nI_leI, nI_eq, nL_add, nL_dda, nI_add, nL_sub, pk_sub, nL_mul, nL_clamp, nI_cl, zchk_n, zchk_l, zb_s, zb2_s, zb3_s, zb3_e, zput_e, zjoin_e, zs_hit, zs_miss, nle_t, nle_f, nlt_t, nlt_f, neq_t, neq_f, ↓reduceIte, and_self, and_true, true_and, and_false, false_and, not_true_eq_false, not_false_eq_true, Nat.add_zero, zs_cell]
  · have h2 : ∃ x y r', s = x :: y :: r' ∧ (c = 1009 ∨ c = 1010 ∨ c = 1143 ∨ c = 1160 ∨ c = 1162) ∧ (c = 1009 ∨ c = 1010 → (x = 0 ∨ x = 1) ∧ (y = 0 ∨ y = 1)) := by
      rcases hd with ⟨hd, q, rfl, rfl⟩ | ⟨rfl, q, rfl, rfl⟩ | ⟨hd, q, rfl, rfl⟩ <;> obtain ⟨x, y, r', rfl, hx, hy, hr⟩ := zTy_2 ht
      · exact ⟨x, y, r', rfl, by omega, fun _ => ⟨hx rfl, hy rfl⟩⟩
      · exact ⟨x, y, r', rfl, by omega, fun h => by omega⟩
      · exact ⟨x, y, r', rfl, by omega, fun h => by omega⟩
    obtain ⟨x, y, r', rfl, hd, h01⟩ := h2
    have hlen : (x :: y :: r').length = r'.length + 1 + 1 := rfl
    have hz : zev1 (zfact L k w) c (x :: y :: r') = zjn c y x :: r' := by
      unfold zev1
      rw [if_neg (by omega)]
      simp only
      rw [if_neg (by omega)]
    have hx : g 501 (r'.length + 1) = x := hst.1
    have hy : g 501 r'.length = y := hst.2.1
    rw [hlen] at hl ⊢
    rw [hz]
    have fin : ∃ g', fX12_holdsLine_L20 (nI (461 + 4 * v)) K n (nI (r'.length + 1)) (nI (i + 1)) (zset g 501 r'.length (zjn c y x)) = fX12_holdsLine_L20 (nI (461 + 4 * v)) K n (nI (zjn c y x :: r').length) (nI (i + 1)) g' ∧ zSt (g' 501) (zjn c y x :: r') ∧ (zjn c y x :: r').length ≤ i + 1 ∧ ∀ c, c ≠ 501 → g' c = g c := by
      refine ⟨_, rfl, ⟨?_, zSt_up hst.2.2 (fun j hj => ?_)⟩, by show r'.length + 1 ≤ _; omega, fun c h => ?_⟩
      · simp (disch := omega) only [nL_lt, nL_gt, nL_le, nL_ge, nL_eq, nL_qe, nI_ltI, nI_leI, nI_eq, nL_add, nL_dda, nI_add, nL_sub, pk_sub, nL_mul, nL_clamp, nI_cl, zchk_n, zchk_l, zb_s, zb2_s, zb3_s, zb3_e, zput_e, zjoin_e, zs_hit, zs_miss, nle_t, nle_f, nlt_t, nlt_f, neq_t, neq_f, ↓reduceIte, and_self, and_true, true_and, and_false, false_and, not_true_eq_false, not_false_eq_true, Nat.add_zero]
      · simp (disch := omega) only [nL_lt, nL_gt, nL_le, nL_ge, nL_eq, nL_qe, nI_ltI, nI_leI, nI_eq, nL_add, nL_dda, nI_add, nL_sub, pk_sub, nL_mul, nL_clamp, nI_cl, zchk_n, zchk_l, zb_s, zb2_s, zb3_s, zb3_e, zput_e, zjoin_e, zs_hit, zs_miss, nle_t, nle_f, nlt_t, nlt_f, neq_t, neq_f, ↓reduceIte, and_self, and_true, true_and, and_false, false_and, not_true_eq_false, not_false_eq_true, Nat.add_zero]
      · simp (disch := omega) only [nL_lt, nL_gt, nL_le, nL_ge, nL_eq, nL_qe, nI_ltI, nI_leI, nI_eq, nL_add, nL_dda, nI_add, nL_sub, pk_sub, nL_mul, nL_clamp, nI_cl, zchk_n, zchk_l, zb_s, zb2_s, zb3_s, zb3_e, zput_e, zjoin_e, zs_hit, zs_miss, nle_t, nle_f, nlt_t, nlt_f, neq_t, neq_f, ↓reduceIte, and_self, and_true, true_and, and_false, false_and, not_true_eq_false, not_false_eq_true, Nat.add_zero, zs_cell]
    rcases hd with rfl | rfl | rfl | rfl | rfl
    · have hj : zjn 1009 y x = if y + x = 2 then 1 else 0 := z01_and (h01 (by omega)).2 (h01 (by omega)).1
      rw [show zen 1009 = 13 from rfl] at c1
      rw [hj] at fin ⊢
      simp (disch := omega) only [nL_lt, nL_gt, nL_le, nL_ge, nL_eq, nL_qe, nI_ltI, nI_leI, nI_eq, nL_add, nL_dda, nI_add, nL_sub, pk_sub, nL_mul, nL_clamp, nI_cl, zchk_n, zchk_l, zb_s, zb2_s, zb3_s, zb3_e, zput_e, zjoin_e, zs_hit, zs_miss, nle_t, nle_f, nlt_t, nlt_f, neq_t, neq_f, ↓reduceIte, and_self, and_true, true_and, and_false, false_and, not_true_eq_false, not_false_eq_true, Nat.add_zero, c2, c1, nI_m1p, zjoin_ite, Nat.add_sub_cancel, hx, hy]
      by_cases q : y + x = 2
      · simp only [q, if_true, zi10, if_false] at fin ⊢
        obtain ⟨g', q1, q2, _, q4⟩ := fin
        exact ⟨g', q1, q2, q4⟩
      · simp only [q, if_true, zi10, if_false] at fin ⊢
        obtain ⟨g', q1, q2, _, q4⟩ := fin
        exact ⟨g', q1, q2, q4⟩
    · have hj : zjn 1010 y x = if y + x ≤ 0 then 0 else 1 := z01_or (h01 (by omega)).2 (h01 (by omega)).1
      rw [show zen 1010 = 14 from rfl] at c1
      rw [hj] at fin ⊢
      simp (disch := omega) only [nL_lt, nL_gt, nL_le, nL_ge, nL_eq, nL_qe, nI_ltI, nI_leI, nI_eq, nL_add, nL_dda, nI_add, nL_sub, pk_sub, nL_mul, nL_clamp, nI_cl, zchk_n, zchk_l, zb_s, zb2_s, zb3_s, zb3_e, zput_e, zjoin_e, zs_hit, zs_miss, nle_t, nle_f, nlt_t, nlt_f, neq_t, neq_f, ↓reduceIte, and_self, and_true, true_and, and_false, false_and, not_true_eq_false, not_false_eq_true, Nat.add_zero, c2, c1, nI_m1p, zjoin_ite, Nat.add_sub_cancel, hx, hy]
      by_cases q : y + x ≤ 0
      · simp only [q, if_true, zi10, if_false] at fin ⊢
        obtain ⟨g', q1, q2, _, q4⟩ := fin
        exact ⟨g', q1, q2, q4⟩
      · simp only [q, if_true, zi10, if_false] at fin ⊢
        obtain ⟨g', q1, q2, _, q4⟩ := fin
        exact ⟨g', q1, q2, q4⟩
    · have hj : zjn 1143 y x = y + x := rfl
      rw [show zen 1143 = 9 from rfl] at c1
      rw [hj] at fin ⊢
      simp (disch := omega) only [nL_lt, nL_gt, nL_le, nL_ge, nL_eq, nL_qe, nI_ltI, nI_leI, nI_eq, nL_add, nL_dda, nI_add, nL_sub, pk_sub, nL_mul, nL_clamp, nI_cl, zchk_n, zchk_l, zb_s, zb2_s, zb3_s, zb3_e, zput_e, zjoin_e, zs_hit, zs_miss, nle_t, nle_f, nlt_t, nlt_f, neq_t, neq_f, ↓reduceIte, and_self, and_true, true_and, and_false, false_and, not_true_eq_false, not_false_eq_true, Nat.add_zero, c2, c1, nI_m1p, zjoin_ite, Nat.add_sub_cancel, hx, hy]
      (obtain ⟨g', q1, q2, _, q4⟩ := fin; first | exact ⟨g', q1, q2, q4⟩ | (split <;> exact ⟨g', q1, q2, q4⟩))
    · have hj : zjn 1160 y x = if x ≤ y then 0 else 1 := rfl
      rw [show zen 1160 = 10 from rfl] at c1
      rw [hj] at fin ⊢
      simp (disch := omega) only [nL_lt, nL_gt, nL_le, nL_ge, nL_eq, nL_qe, nI_ltI, nI_leI, nI_eq, nL_add, nL_dda, nI_add, nL_sub, pk_sub, nL_mul, nL_clamp, nI_cl, zchk_n, zchk_l, zb_s, zb2_s, zb3_s, zb3_e, zput_e, zjoin_e, zs_hit, zs_miss, nle_t, nle_f, nlt_t, nlt_f, neq_t, neq_f, ↓reduceIte, and_self, and_true, true_and, and_false, false_and, not_true_eq_false, not_false_eq_true, Nat.add_zero, c2, c1, nI_m1p, zjoin_ite, Nat.add_sub_cancel, hx, hy]
      by_cases q : x ≤ y
      · simp only [q, if_true, zi10, if_false] at fin ⊢
        obtain ⟨g', q1, q2, _, q4⟩ := fin
        exact ⟨g', q1, q2, q4⟩
      · simp only [q, if_true, zi10, if_false] at fin ⊢
        obtain ⟨g', q1, q2, _, q4⟩ := fin
        exact ⟨g', q1, q2, q4⟩
    · have hj : zjn 1162 y x = if y ≤ x then 0 else 1 := rfl
      rw [show zen 1162 = 11 from rfl] at c1
      rw [hj] at fin ⊢
      simp (disch := omega) only [nL_lt, nL_gt, nL_le, nL_ge, nL_eq, nL_qe, nI_ltI, nI_leI, nI_eq, nL_add, nL_dda, nI_add, nL_sub, pk_sub, nL_mul, nL_clamp, nI_cl, zchk_n, zchk_l, zb_s, zb2_s, zb3_s, zb3_e, zput_e, zjoin_e, zs_hit, zs_miss, nle_t, nle_f, nlt_t, nlt_f, neq_t, neq_f, ↓reduceIte, and_self, and_true, true_and, and_false, false_and, not_true_eq_false, not_false_eq_true, Nat.add_zero, c2, c1, nI_m1p, zjoin_ite, Nat.add_sub_cancel, hx, hy]
      by_cases q : y ≤ x
      · simp only [q, if_true, zi10, if_false] at fin ⊢
        obtain ⟨g', q1, q2, _, q4⟩ := fin
        exact ⟨g', q1, q2, q4⟩
      · simp only [q, if_true, zi10, if_false] at fin ⊢
        obtain ⟨g', q1, q2, _, q4⟩ := fin
        exact ⟨g', q1, q2, q4⟩
theorem r_metL {W : zLw} (hW : zWW W) {L : zL} (hL : L.1 ≤ 24) {k : Nat} (hk : k ≤ L.1) {w : Int32} {v : Nat} (hv : v < W.1) (K : Int32 → zM → Option (Int32 × zM)) (tf : List Bool) : ∀ (d i n : Nat) (s : List Int32) (t : List Bool) (g : zM), i + d = W.2.2.2.1 v → d < n → zRL g 494 W → zRR g L k w → s.length ≤ i → zSt (g 501) s → zTy t s → ztc (zcl W.2.2.2.2.1 d i) t = some tf →
    ∃ g', fX12_holdsLine_L20 (nI (461 + 4 * v)) K n (nI s.length) (nI i) g = K (nI (zev (zfact L k w) (zcl W.2.2.2.2.1 d i) s).length) g' ∧ zSt (g' 501) (zev (zfact L k w) (zcl W.2.2.2.2.1 d i) s) ∧ ∀ c, c ≠ 501 → g' c = g c := by
  intro d
  have hok := (hW.2.2.1 v hv).2.2
  have hC := hW.2.1
  have hS := hW.1
  have hE := hok.2.1
  induction d with
  | zero =>
    intro i n s t g hi hn e eR hl hst ht hc
    obtain ⟨m, rfl⟩ : ∃ m, n = m + 1 := ⟨n - 1, by omega⟩
    have c2 : g 494 (461 + 4 * v + 3) = nI (W.2.2.2.1 v) := (e.2.2.1 v hv).2.2.2
    refine ⟨g, ?_, hst, fun _ _ => rfl⟩
    rw [fX12_holdsLine_L20]
    simp (disch := omega) only [nL_lt, nL_gt, nL_le, nL_ge, nL_eq, nL_qe, nI_ltI, nI_leI, nI_eq, nL_add, nL_dda, nI_add, nL_sub, pk_sub, nL_mul, nL_clamp, nI_cl, zchk_n, zchk_l, zb_s, zb2_s, zb3_s, zb3_e, zput_e, zjoin_e, zs_hit, zs_miss, nle_t, nle_f, nlt_t, nlt_f, neq_t, neq_f, ↓reduceIte, and_self, and_true, true_and, and_false, false_and, not_true_eq_false, not_false_eq_true, Nat.add_zero, c2]
    rfl
  | succ d ih =>
    intro i n s t g hi hn e eR hl hst ht hc
    obtain ⟨m, rfl⟩ : ∃ m, n = m + 1 := ⟨n - 1, by omega⟩
    have hc' : ztc (W.2.2.2.2.1 i :: zcl W.2.2.2.2.1 d (i + 1)) t = some tf := hc
    unfold ztc at hc'
    cases q : ztc1 (W.2.2.2.2.1 i) t with
    | none => rw [q] at hc'; exact nomatch hc'
    | some t1 =>
      rw [q] at hc'
      obtain ⟨g1, a1, a2, a3, a4⟩ := r_step hW e eR hL hk hv (by omega) hl hst ht q K m
      obtain ⟨g2, b1, b2, b3⟩ := ih (i + 1) m _ t1 g1 (by omega) (by omega) (e.fr hW (fun _ _ => by rw [a4 494 (by omega)])) (eR.fr (a4 _ (by omega)) (a4 _ (by omega))) a3 a2 (zev1_ty zfact_0 zfact_1 q ht) hc'
      exact ⟨g2, a1.trans b1, b2, fun c h => (b3 c h).trans (a4 c h)⟩
theorem r_holdsLine {g : zM} {W : zLw} (hW : zWW W) (e : zRL g 494 W) {L : zL} {k : Nat} {w : Int32} (eR : zRR g L k w) (hL : L.1 ≤ 24) (hk : k ≤ L.1) {v : Nat} (hv : v < W.1) : ∃ g', fX12_holdsLine (nI v) g = some (zbi (ymet (zfact L k w) W v), g') ∧ ∀ c, c ≠ 501 → g' c = g c := by
  have hok := (hW.2.2.1 v hv).2.2
  have hC := hW.2.1
  have hS := hW.1
  have hE := hok.2.1
  have c2 : g 494 (461 + 4 * v + 3) = nI (W.2.2.2.1 v) := (e.2.2.1 v hv).2.2.2
  have c3 : g 494 (461 + 4 * v + 2) = nI (zbg W v) := (e.2.2.1 v hv).2.2.1
  unfold fX12_holdsLine
  simp (disch := omega) only [nL_lt, nL_gt, nL_le, nL_ge, nL_eq, nL_qe, nI_ltI, nI_leI, nI_eq, nL_add, nL_dda, nI_add, nL_sub, pk_sub, nL_mul, nL_clamp, nI_cl, zchk_n, zchk_l, zb_s, zb2_s, zb3_s, zb3_e, zput_e, zjoin_e, zs_hit, zs_miss, nle_t, nle_f, nlt_t, nlt_f, neq_t, neq_f, ↓reduceIte, and_self, and_true, true_and, and_false, false_and, not_true_eq_false, not_false_eq_true, Nat.add_zero, c3]
  rw [zmet_eq]
  by_cases hb : zbg W v < W.2.2.2.1 v
  · obtain ⟨g', a1, a2, a3⟩ := r_metL hW hL hk hv (fun v2_32 g32 => if v2_32 = 0 then some (1, g32) else if g32 501 0 = 1 then some (1, g32) else some (0, g32)) [true] (W.2.2.2.1 v - zbg W v) (zbg W v) zFU [] [] g (by omega) (by unfold zFU; omega) e eR (Nat.zero_le _) trivial trivial (hok.2.2 hb)
    have ty := ztc_fin (F := zfact L k w) zfact_0 zfact_1 (hok.2.2 hb) (s := []) trivial
    refine ⟨g', ?_, a3⟩
    refine Eq.trans a1 ?_
    generalize zev (zfact L k w) (zcl W.2.2.2.2.1 (W.2.2.2.1 v - zbg W v) (zbg W v)) [] = st at *
    obtain ⟨x, r, rfl, hx, hr⟩ := zTy_1 ty
    match r, hr with
    | [], _ =>
      have hx' : g' 501 0 = x := a2.1
      simp (disch := omega) only [nL_lt, nL_gt, nL_le, nL_ge, nL_eq, nL_qe, nI_ltI, nI_leI, nI_eq, nL_add, nL_dda, nI_add, nL_sub, pk_sub, nL_mul, nL_clamp, nI_cl, zchk_n, zchk_l, zb_s, zb2_s, zb3_s, zb3_e, zput_e, zjoin_e, zs_hit, zs_miss, nle_t, nle_f, nlt_t, nlt_f, neq_t, neq_f, ↓reduceIte, and_self, and_true, true_and, and_false, false_and, not_true_eq_false, not_false_eq_true, Nat.add_zero, List.length_cons, List.length_nil, Nat.reduceAdd, Nat.reduceSub, hx']
      rcases hx rfl with rfl | rfl <;> rfl
  · have hbe : zbg W v = W.2.2.2.1 v := by have := hok.1; omega
    refine ⟨g, ?_, fun _ _ => rfl⟩
    show fX12_holdsLine_L20 _ _ (99999 + 1) _ _ _ = _
    rw [fX12_holdsLine_L20, hbe, Nat.sub_self]
    simp (disch := omega) only [nL_lt, nL_gt, nL_le, nL_ge, nL_eq, nL_qe, nI_ltI, nI_leI, nI_eq, nL_add, nL_dda, nI_add, nL_sub, pk_sub, nL_mul, nL_clamp, nI_cl, zchk_n, zchk_l, zb_s, zb2_s, zb3_s, zb3_e, zput_e, zjoin_e, zs_hit, zs_miss, nle_t, nle_f, nlt_t, nlt_f, neq_t, neq_f, ↓reduceIte, and_self, and_true, true_and, and_false, false_and, not_true_eq_false, not_false_eq_true, Nat.add_zero, c2]
    rfl
theorem r_lawLines {g : zM} {W : zLw} (hW : zWW W) (e : zRL g 494 W) : fX12_lawLines g = some (nI W.1) := by
  unfold fX12_lawLines
  simp (disch := omega) only [nL_lt, nL_gt, nL_le, nL_ge, nL_eq, nL_qe, nI_ltI, nI_leI, nI_eq, nL_add, nL_dda, nI_add, nL_sub, pk_sub, nL_mul, nL_clamp, nI_cl, zchk_n, zchk_l, zb_s, zb2_s, zb3_s, zb3_e, zput_e, zjoin_e, zs_hit, zs_miss, nle_t, nle_f, nlt_t, nlt_f, neq_t, neq_f, ↓reduceIte, and_self, and_true, true_and, and_false, false_and, not_true_eq_false, not_false_eq_true, Nat.add_zero, e.1]
  cases q : W.2.2.2.2.2.2
  · rw [hW.2.2.2 q]; rfl
  · simp only [zbi_t, if_true]
    exact congrArg some (e.2.1 q)
theorem r_follows {g : zM} {W : zLw} (hW : zWW W) (e : zRL g 494 W) {L : zL} (hL : zLW L) {n : Nat} {w : Int32} (eR : zRR g L n w) (h1 : 1 ≤ n) (hn : n ≤ L.1) : ∃ g', fX12_follows g = some (zoi (zfol W L n w), g') ∧ ∀ c, c ≠ 501 → g' c = g c := by
  have h24 := hL.2.1
  unfold fX12_follows
  have hS := hW.1
  have hk := hL.2.2 (n - 1) (by omega)
  unfold zfol
  have hl : g 502 (n - 1) = nI (L.2.1 (n - 1)) := eR.2.1 (n - 1) (by omega)
  generalize hlast : L.2.1 (n - 1) = last at *
  refine zL_Q0 (fun n i (s : zM) => fX12_follows_L2 (fun v1_8 g8 => zb (fX12_lawTo v1_8 g8) (fun r_9 => some (r_9, g8))) n (nI i) s) (fun i s => (∀ c, c ≠ 501 → s c = g c) ∧ ∀ j, j < i → (decide (W.2.1 j = last) && ymet (zfact L n w) W j) = false) W.1 (fun r => ∃ g', r = some (zoi ((zff (fun i => decide (W.2.1 i = last) && ymet (zfact L n w) W i) W.1).map W.2.2.1), g') ∧ ∀ c, c ≠ 501 → g' c = g c) g (by omega) ⟨fun _ _ => rfl, fun j hj => absurd hj (by omega)⟩ (fun m i s hi h => ?_) (fun m s h => ?_)
  · obtain ⟨b1, b2⟩ := h
    have e' : zRL s 494 W := e.fr hW (fun _ _ => by rw [b1 494 (by omega)])
    have eR' : zRR s L n w := eR.fr (b1 _ (by omega)) (b1 _ (by omega))
    have c1 : s 494 (461 + 4 * i) = nI (W.2.1 i) := (e'.2.2.1 i hi).1
    have k1 := (hW.2.2.1 i hi).1
    obtain ⟨s', d1, d2⟩ := r_holdsLine hW e' eR' h24 hn hi
    have c2 : s' 494 (461 + 4 * i + 1) = nI (W.2.2.1 i) := by rw [d2 494 (by omega)]; exact (e'.2.2.1 i hi).2.1
    have c3 : s 493 19 = nI n := eR'.1
    have c4 : s 502 (n - 1) = nI last := by rw [b1 502 (by omega)]; exact hl
    simp only [fX12_follows_L2, r_lawLines hW e', fX12_lawFrom, c3]
    simp (disch := omega) only [nL_lt, nL_gt, nL_le, nL_ge, nL_eq, nL_qe, nI_ltI, nI_leI, nI_eq, nL_add, nL_dda, nI_add, nL_sub, pk_sub, nL_mul, nL_clamp, nI_cl, zchk_n, zchk_l, zb_s, zb2_s, zb3_s, zb3_e, zput_e, zjoin_e, zs_hit, zs_miss, nle_t, nle_f, nlt_t, nlt_f, neq_t, neq_f, ↓reduceIte, and_self, and_true, true_and, and_false, false_and, not_true_eq_false, not_false_eq_true, Nat.add_zero, c1, c4]
    have next : (decide (W.2.1 i = last) && ymet (zfact L n w) W i) = false → ∀ j, j < i + 1 → (decide (W.2.1 j = last) && ymet (zfact L n w) W j) = false := fun q j hj => by
      rcases Nat.lt_succ_iff_lt_or_eq.mp hj with q2 | q2
      · exact b2 j q2
      · rw [q2]; exact q
    by_cases q1 : W.2.1 i = last
    · simp only [if_pos q1, d1, zb2_s]
      cases q2 : ymet (zfact L n w) W i
      · right
        exact ⟨s', ⟨fun c h => (d2 c h).trans (b1 c h), next (by rw [q2]; simp)⟩, by simp [zbi]⟩
      · left
        refine ⟨s', ?_, fun c h1 => ?_⟩
        · rw [zff_some hi b2 (by rw [q2, q1]; simp)]
          simp only [zbi_t, zi10, if_false, Option.map_some, zoi, fX12_lawTo]
          simp (disch := omega) only [nL_lt, nL_gt, nL_le, nL_ge, nL_eq, nL_qe, nI_ltI, nI_leI, nI_eq, nL_add, nL_dda, nI_add, nL_sub, pk_sub, nL_mul, nL_clamp, nI_cl, zchk_n, zchk_l, zb_s, zb2_s, zb3_s, zb3_e, zput_e, zjoin_e, zs_hit, zs_miss, nle_t, nle_f, nlt_t, nlt_f, neq_t, neq_f, ↓reduceIte, and_self, and_true, true_and, and_false, false_and, not_true_eq_false, not_false_eq_true, Nat.add_zero, c2]
        · rw [d2 c h1, b1 c h1]
    · simp only [if_neg q1]
      right
      exact ⟨s, ⟨b1, next (by simp [q1])⟩, rfl⟩
  · obtain ⟨b1, b2⟩ := h
    have e' : zRL s 494 W := e.fr hW (fun _ _ => by rw [b1 494 (by omega)])
    simp only [fX12_follows_L2, r_lawLines hW e']
    simp (disch := omega) only [nL_lt, nL_gt, nL_le, nL_ge, nL_eq, nL_qe, nI_ltI, nI_leI, nI_eq, nL_add, nL_dda, nI_add, nL_sub, pk_sub, nL_mul, nL_clamp, nI_cl, zchk_n, zchk_l, zb_s, zb2_s, zb3_s, zb3_e, zput_e, zjoin_e, zs_hit, zs_miss, nle_t, nle_f, nlt_t, nlt_f, neq_t, neq_f, ↓reduceIte, and_self, and_true, true_and, and_false, false_and, not_true_eq_false, not_false_eq_true, Nat.add_zero]
    refine ⟨s, ?_, fun c h1 => by rw [b1 c h1]⟩
    rw [zff_none b2]
    rfl
theorem zoi_neg {o : Option Nat} (h : ∀ k, o = some k → k < 2147483648) : (zoi o < 0) ↔ o = none := by
  cases o with
  | none => exact ⟨fun _ => rfl, fun _ => by decide⟩
  | some k =>
    refine ⟨fun q => ?_, fun q => nomatch q⟩
    have := h k rfl
    exact absurd q (nI_pos this)
theorem r_canGrow {g : zM} {W : zLw} (hW : zWW W) (e : zRL g 494 W) {L : zL} (hL : zLW L) {w : Int32} (eR : zRR g L L.1 w) : ∃ g', fX12_canGrow g = some (zbi (zgr W L w).isSome, g') ∧ ∀ c, c ≠ 501 → g' c = g c := by
  have h24 := hL.2.1
  unfold fX12_canGrow zgr
  rw [eR.1, eR.2.2.2.2.2.1]
  cases L.2.2.2.2.2.1
  · by_cases q : L.1 < 24
    · obtain ⟨g', a1, a2⟩ := r_follows hW e hL eR hL.1 (Nat.le_refl _)
      refine ⟨g', ?_, a2⟩
      simp only [zbi_f, if_true, q, and_self, a1, zb2_s]
      simp (disch := omega) only [nL_lt, nL_gt, nL_le, nL_ge, nL_eq, nL_qe, nI_ltI, nI_leI, nI_eq, nL_add, nL_dda, nI_add, nL_sub, pk_sub, nL_mul, nL_clamp, nI_cl, zchk_n, zchk_l, zb_s, zb2_s, zb3_s, zb3_e, zput_e, zjoin_e, zs_hit, zs_miss, nle_t, nle_f, nlt_t, nlt_f, neq_t, neq_f, ↓reduceIte, and_self, and_true, true_and, and_false, false_and, not_true_eq_false, not_false_eq_true, Nat.add_zero]
      cases q2 : zfol W L L.1 w with
      | none => rfl
      | some k =>
        have := zfol_lt hW q2
        simp only [zoi]
        simp (disch := omega) only [nL_lt, nL_gt, nL_le, nL_ge, nL_eq, nL_qe, nI_ltI, nI_leI, nI_eq, nL_add, nL_dda, nI_add, nL_sub, pk_sub, nL_mul, nL_clamp, nI_cl, zchk_n, zchk_l, zb_s, zb2_s, zb3_s, zb3_e, zput_e, zjoin_e, zs_hit, zs_miss, nle_t, nle_f, nlt_t, nlt_f, neq_t, neq_f, ↓reduceIte, and_self, and_true, true_and, and_false, false_and, not_true_eq_false, not_false_eq_true, Nat.add_zero]
        rfl
    · refine ⟨g, ?_, fun _ _ => rfl⟩
      simp only [zbi_f, if_true, q, and_false]
      simp (disch := omega) only [nL_lt, nL_gt, nL_le, nL_ge, nL_eq, nL_qe, nI_ltI, nI_leI, nI_eq, nL_add, nL_dda, nI_add, nL_sub, pk_sub, nL_mul, nL_clamp, nI_cl, zchk_n, zchk_l, zb_s, zb2_s, zb3_s, zb3_e, zput_e, zjoin_e, zs_hit, zs_miss, nle_t, nle_f, nlt_t, nlt_f, neq_t, neq_f, ↓reduceIte, and_self, and_true, true_and, and_false, false_and, not_true_eq_false, not_false_eq_true, Nat.add_zero]
      rfl
  · exact ⟨g, by simp [zbi], fun _ _ => rfl⟩
