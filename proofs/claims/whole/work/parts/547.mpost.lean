/-! THE POST read -/
def zSend (S : zS) (v : Int32) : zS := (0, S.2.1, v, S.2.2.2)
theorem zSend_W {S : zS} (hS : zSW S) (v : Int32) : zSW (zSend S v) := ⟨Nat.zero_le _, fun i hi => absurd hi (Nat.not_lt_zero _), hS.2.2⟩
theorem c_ende {S : zS} {g g1 : zM} (hS : zSW S) (e : zCI S g) (f : ∀ c, c < 390 → g1 c = g c) (h1 : g1 481 0 = g 481 0) (h2 : g1 482 0 = g 482 0) (v : Int32) : zCI (zSend S v) (zset (zset g1 0 1 0) 0 2 v) := by
  obtain ⟨e1, e2, e3, e4, e5, e6, ⟨p, hp, e7, e8⟩, e9, e10, e11⟩ := e
  have fr : ∀ c, c ≠ 0 → c < 390 → (zset (zset g1 0 1 0) 0 2 v) c = g c := fun c h0 h => by rw [zs_cell h0, zs_cell h0]; exact f c h
  exact ⟨by rw [zs_miss (by omega)]; exact zs_hit ⟨rfl, rfl⟩, fun i hi => absurd hi (Nat.not_lt_zero _), zs_hit ⟨rfl, rfl⟩, e4.fr hS.2.2.1 (fun c h1 h2 _ _ => fr c (by omega) (by omega)), by rw [zs_miss (by omega), zs_miss (by omega), f 0 (by omega)]; exact e5, fun q => (e6 q).fr (hS.2.2.2.1 q) (fun c h1 h2 _ _ => fr c (by omega) (by omega)), ⟨p, hp, by rw [fr 76 (by omega) (by omega)]; exact e7, fun j hj => (e8 j hj).fr (hS.2.2.2.2.2 j hj).1 (fun c h1 h2 => fr c (by omega) (by omega))⟩, by rw [fr 76 (by omega) (by omega)]; exact e9, by rw [zs_cell (by omega), zs_cell (by omega), h1]; exact e10, by rw [zs_cell (by omega), zs_cell (by omega), h2]; exact e11⟩
theorem r_ende {S : zS} {g g1 : zM} (hS : zSW S) (e : zRI S g) {v : Int32} (f4 : ∀ k, k < 1309 → g1 494 k = g 494 k) (f5 : g1 495 = g 495) (f8 : g1 498 = g 498) (h6 : g1 493 6 = g 493 6) (h7 : g1 493 7 = g 493 7) (h9 : g1 493 9 = 0) (h14 : g1 493 14 = v) : zRI (zSend S v) g1 := by
  obtain ⟨e1, e2, e3, e4, e5, e6, e7, e8⟩ := e
  refine ⟨h9, fun i hi => absurd hi (Nat.not_lt_zero _), h14, e4.fr hS.2.2.1 f4, by rw [h6]; exact e5, fun q => (e6 q).fr (hS.2.2.2.1 q) (fun k _ => by rw [f5]), by rw [h7]; exact e7, fun j hj => ⟨(e8 j hj).1.fr (hS.2.2.2.2.2 j hj) (fun k _ _ => by rw [f8]), fun c h1 h2 h3 h4 h5 => ?_⟩⟩
  rw [f8, f4 c (by omega)]
  exact (e8 j hj).2 c h1 h2 h3 h4 h5
theorem p_text {n N : Nat} {b : Nat → Nat} {D : zWd} (x : zTx n b N) (hV : zVW D) : ∃ o, zLG D o ∧ (∀ g0 g, zPC g0 n b N D 0 g → zLC g0 o (zb (fX9_code 391 g) (fun r_2 => if r_2 = 1021 then some (1, g) else fX8_readText_PostReader_L27 14 (fun g11 => zb2 (fX9_fail 391 g11) (fun r_12 g12 => zbo r_12 (some (r_12, g12)))) zFU 0 g))) ∧ ∀ g0 g, zPR g0 n b N D 0 g → zLR g0 o (zb (fX12_blanks g) (fun g3 => if (g3 493 10) = (g3 493 11) then some (0, g3) else fX12_readAll_L28 1 (fun v2_12 g12 => some (v2_12 + 1, g12)) zFU 0 g3)) := by
  have h4 := x.b400
  have hb := zcd_big x (Nat.zero_le N)
  by_cases q : N = 0
  · have q1 : zck b n 0 = 1021 := by
      have := zck_N x
      rw [q] at this
      exact this
    have qT : zT b n 0 = n := by
      have := x.e
      rw [q] at this
      exact this
    refine ⟨.ok (0, D), fun q h => ?_, fun g0 g e => ?_, fun g0 g e => ?_⟩
    · injection h with h
      subst h
      exact ⟨hV, Nat.zero_le _, rfl⟩
    · refine ⟨g, ?_, e.2.1, e.1.1.2.1.2, e.2.2⟩
      rw [c_code x e.1, zb_s, q1, if_pos (by decide)]
    · obtain ⟨g3, c1, c2, c3, c4, c5⟩ := r_bl x e.1
      refine ⟨g3, ?_, e.2.1.fp hV c2, e.2.2.fp c2⟩
      rw [c1, zb_s, c4, c3.1, qT, if_pos rfl]
      rfl
  · have q1 : zck b n 0 ≠ 1021 := zcd_lt x (by omega)
    have hT := x.lt 0 (by omega)
    obtain ⟨o, l1, l2, l3⟩ := p_loop x 14 0 0 D rfl hV (Nat.zero_le _)
    refine ⟨o, l1, fun g0 g e => ?_, fun g0 g e => ?_⟩
    · rw [c_code x e.1, zb_s, if_neg (by rw [nL_eq (by omega) (by decide)]; exact q1)]
      exact l2 g0 g zFU (by unfold zFU; omega) e
    · obtain ⟨g3, c1, c2, c3, c4, c5⟩ := r_bl x e.1
      rw [c1, zb_s, c4, c3.1, if_neg (by rw [nI_eq (by omega) (by omega)]; omega)]
      exact l3 g0 g3 zFU (by unfold zFU; omega) ⟨.at x c3 (Nat.zero_le _) c4, e.2.1.fp hV c2, e.2.2.fp c2⟩
theorem r_keep {K : zM → Option (Int32 × zM)} (g : zM) : ∃ g5, fX12_post_L2 K zFU 0 g = K g5 ∧ (∀ c, c ≠ 496 → g5 c = g c) ∧ ∀ k, k < 1309 → g5 496 k = g 494 k := by
  refine zL_I (fun n i (s : zM) => fX12_post_L2 K n (nI i) s) (fun i s => (∀ c, c ≠ 496 → s c = g c) ∧ ∀ k, k < i → s 496 k = g 494 k) 1309 (fun x => ∃ g5, x = K g5 ∧ (∀ c, c ≠ 496 → g5 c = g c) ∧ ∀ k, k < 1309 → g5 496 k = g 494 k) g (by omega) ⟨fun _ _ => rfl, fun k hk => absurd hk (by omega)⟩ (fun n i s hi hh => ?_) (fun n s hh => ?_)
  · obtain ⟨b1, b2⟩ := hh
    refine ⟨zset s 496 i (g 494 i), ⟨fun c hc => by rw [zs_cell hc]; exact b1 c hc, fun k hk => ?_⟩, ?_⟩
    · by_cases q : k = i
      · subst q; exact zs_hit ⟨rfl, rfl⟩
      · rw [zs_miss (by omega)]; exact b2 k (by omega)
    · simp only [fX12_post_L2]
      simp (disch := omega) only [nL_lt, nL_gt, nL_le, nL_ge, nL_eq, nL_qe, nI_ltI, nI_leI, nI_eq, nL_add, nL_dda, nI_add, nL_sub, pk_sub, nL_mul, nL_clamp, nI_cl, zchk_n, zchk_l, zb_s, zb2_s, zb3_s, zb3_e, zput_e, zjoin_e, zs_hit, zs_miss, nle_t, nle_f, nlt_t, nlt_f, neq_t, neq_f, ↓reduceIte, and_self, and_true, true_and, and_false, false_and, not_true_eq_false, not_false_eq_true, Nat.add_zero]
      rw [b1 494 (by omega)]
  · obtain ⟨b1, b2⟩ := hh
    simp only [fX12_post_L2]
    exact ⟨s, by simp (disch := omega) only [nL_lt, nL_gt, nL_le, nL_ge, nL_eq, nL_qe, nI_ltI, nI_leI, nI_eq, nL_add, nL_dda, nI_add, nL_sub, pk_sub, nL_mul, nL_clamp, nI_cl, zchk_n, zchk_l, zb_s, zb2_s, zb3_s, zb3_e, zput_e, zjoin_e, zs_hit, zs_miss, nle_t, nle_f, nlt_t, nlt_f, neq_t, neq_f, ↓reduceIte, and_self, and_true, true_and, and_false, false_and, not_true_eq_false, not_false_eq_true, Nat.add_zero], b1, b2⟩
theorem r_rest (g : zM) : ∃ g9, fX12_post_L92 zFU 0 g = some (0, g9) ∧ (∀ c, c ≠ 494 → g9 c = g c) ∧ ∀ k, k < 1309 → g9 494 k = g 496 k := by
  refine zL_I (fun n i (s : zM) => fX12_post_L92 n (nI i) s) (fun i s => (∀ c, c ≠ 494 → s c = g c) ∧ ∀ k, k < i → s 494 k = g 496 k) 1309 (fun x => ∃ g5, x = some (0, g5) ∧ (∀ c, c ≠ 494 → g5 c = g c) ∧ ∀ k, k < 1309 → g5 494 k = g 496 k) g (by omega) ⟨fun _ _ => rfl, fun k hk => absurd hk (by omega)⟩ (fun n i s hi hh => ?_) (fun n s hh => ?_)
  · obtain ⟨b1, b2⟩ := hh
    refine ⟨zset s 494 i (g 496 i), ⟨fun c hc => by rw [zs_cell hc]; exact b1 c hc, fun k hk => ?_⟩, ?_⟩
    · by_cases q : k = i
      · subst q; exact zs_hit ⟨rfl, rfl⟩
      · rw [zs_miss (by omega)]; exact b2 k (by omega)
    · simp only [fX12_post_L92]
      simp (disch := omega) only [nL_lt, nL_gt, nL_le, nL_ge, nL_eq, nL_qe, nI_ltI, nI_leI, nI_eq, nL_add, nL_dda, nI_add, nL_sub, pk_sub, nL_mul, nL_clamp, nI_cl, zchk_n, zchk_l, zb_s, zb2_s, zb3_s, zb3_e, zput_e, zjoin_e, zs_hit, zs_miss, nle_t, nle_f, nlt_t, nlt_f, neq_t, neq_f, ↓reduceIte, and_self, and_true, true_and, and_false, false_and, not_true_eq_false, not_false_eq_true, Nat.add_zero]
      rw [b1 496 (by omega)]
  · obtain ⟨b1, b2⟩ := hh
    simp only [fX12_post_L92]
    exact ⟨s, by simp (disch := omega) only [nL_lt, nL_gt, nL_le, nL_ge, nL_eq, nL_qe, nI_ltI, nI_leI, nI_eq, nL_add, nL_dda, nI_add, nL_sub, pk_sub, nL_mul, nL_clamp, nI_cl, zchk_n, zchk_l, zb_s, zb2_s, zb3_s, zb3_e, zput_e, zjoin_e, zs_hit, zs_miss, nle_t, nle_f, nlt_t, nlt_f, neq_t, neq_f, ↓reduceIte, and_self, and_true, true_and, and_false, false_and, not_true_eq_false, not_false_eq_true, Nat.add_zero], b1, b2⟩
def zDt (D : zWd) : zWd := (D.1, D.2.1, D.2.2.1, D.2.2.2.1, D.2.2.2.2.1, D.2.2.2.2.2.1, D.2.2.2.2.2.2.1, D.2.2.2.2.2.2.2 + 1)
/-- the class, up to the reading -/
theorem c_post0 {S : zS} {N : Nat} (x : zTx S.1 S.2.1 N) (hS : zSW S) {g : zM} (e : zCI S g) : ∃ g1, zPC g S.1 S.2.1 N S.2.2.2.1 0 g1 ∧ fX11_post g = zb2 (zb (fX9_code 391 g1) (fun r_2 => if r_2 = 1021 then some (1, g1) else fX8_readText_PostReader_L27 14 (fun g11 => zb2 (fX9_fail 391 g11) (fun r_12 g12 => zbo r_12 (some (r_12, g12)))) zFU 0 g1)) (fun r_2 g2 => zb (fX11_endReading (g2 391 7) g2) (fun g3 => if r_2 = 0 then some (.error 2, g3) else if (g3 2 7) < 12 then zput g3 396 7 ((g3 396 7) + 1) (fun g6 => zb (fX10_become 2 396 g6) (fun g7 => zb (fX4_forget g7) (fun g8 => some (.ok (g8 2 7), g8)))) else some (.error 4, g3))) := by
  obtain ⟨g1, a1, a2, a3⟩ := c_worldBecome (h := 396) e.2.2.2.1 hS.2.2.1 (by omega)
  have et : ∀ i, i < S.1 → g1 1 i = nI (S.2.1 i) := fun i hi => by rw [a3 1 (by omega)]; exact e.2.1 i hi
  obtain ⟨g2, b1, b2, b3, b4⟩ := c_scan x (h := 391) (by omega) et
  refine ⟨g2, ⟨⟨b2, b3, Nat.zero_le _⟩, a2.fr hS.2.2.1 (fun c h1 h2 _ _ => b4 c (by omega)), fun c hc => by rw [b4 c (by omega), a3 c (by omega)]⟩, ?_⟩
  unfold fX11_post fX8_readText_PostReader
  rw [a1, zb_s, a3 0 (by omega), e.1, b1, zb_s]
theorem c_endR {g : zM} {v : Int32} : fX11_endReading v g = some (zset (zset g 0 1 0) 0 2 v) := rfl
