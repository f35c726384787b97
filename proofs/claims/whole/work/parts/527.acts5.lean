/-! IMAGE, BACK -/
theorem c_lawBecome {g : zM} {h r : Nat} {W : zLw} (e : zCL g r W) (hW : zWW W) (hd : r + 5 ≤ h ∨ h + 5 ≤ r) : ∃ g1, fX1_become h r g = some g1 ∧ zCL g1 h W ∧ ∀ c, (c < h ∨ h + 5 ≤ c) → g1 c = g c := by
  have h1 := hW.1
  have h2 := hW.2.1
  obtain ⟨e1, e2, e3, e4, e5⟩ := e
  unfold fX1_become zacp
  simp (disch := omega) only [nL_clamp]
  rw [if_pos (by decide), if_pos (by decide), if_pos (by decide), if_pos (by decide)]
  have z0 : ∀ {α : Type} {x : Option α}, zbo (g r 8) x = x := by intro α x; rw [e5]; exact zbo_b
  simp (disch := omega) only [zput_e, zs_miss, zc_miss, z0]
  refine ⟨_, rfl, ⟨?_, fun i hi => ⟨?_, ?_, ?_⟩, fun j hj => ?_, ?_, ?_⟩, fun c hc => ?_⟩
  · simp (disch := omega) only [zs_hit, zs_miss, zc_hit, zc_miss]; exact e1
  · simp (disch := omega) only [zs_hit, zs_miss, zc_hit, zc_miss]; rw [show 0 + (i - 0) = i from by omega]; exact (e2 i hi).1
  · simp (disch := omega) only [zs_hit, zs_miss, zc_hit, zc_miss]; rw [show 0 + (i - 0) = i from by omega]; exact (e2 i hi).2.1
  · simp (disch := omega) only [zs_hit, zs_miss, zc_hit, zc_miss]; rw [show 0 + (i - 0) = i from by omega]; exact (e2 i hi).2.2
  · simp (disch := omega) only [zs_hit, zs_miss, zc_hit, zc_miss]; rw [show 0 + (j - 0) = j from by omega]; exact e3 j hj
  · simp (disch := omega) only [zs_hit, zs_miss, zc_hit, zc_miss]; exact e4
  · simp (disch := omega) only [zs_hit, zs_miss, zc_hit, zc_miss]; exact e5
  · simp (disch := omega) only [zs_cell, zc_cell]
theorem c_worldBecome {g : zM} {h r : Nat} {V : zWd} (e : zCW g r V) (hV : zVW V) (hd : r + 37 ≤ h ∨ h + 37 ≤ r) : ∃ g1, fX10_become h r g = some g1 ∧ zCW g1 h V ∧ ∀ c, (c < h ∨ h + 37 ≤ c) → g1 c = g c := by
  have h8 := hV.2.2.1
  obtain ⟨e1, e2, e3, e4, e5, e6, e7⟩ := e
  obtain ⟨g1, a1, a2, a3⟩ := c_bagBecome (h := h + 1) e1 hV.1 (by omega)
  have e2' : zCL g1 (r + 27) V.2.1 := e2.fr (fun c h1 h2 => a3 c (by omega))
  obtain ⟨g2, b1, b2, b3⟩ := c_lawBecome (h := h + 27) e2' hV.2.1 (by omega)
  have fr : ∀ c, (c < h + 1 ∨ h + 32 ≤ c) → g2 c = g c := fun c hc => by rw [b3 c (by omega), a3 c (by omega)]
  unfold fX10_become
  rw [a1, zb_s, b1, zb_s]
  unfold zacp
  simp (disch := omega) only [nL_clamp]
  rw [if_pos (by decide), if_pos (by decide), if_pos (by decide)]
  simp (disch := omega) only [zput_e, zs_miss, zc_miss]
  refine ⟨_, rfl, ⟨?_, ?_, fun k hk => ?_, ?_, fun p hp => ⟨?_, ?_⟩, ?_, ?_⟩, fun c hc => ?_⟩
  · have a2' : zCB g2 (h + 1) V.1 := a2.fr hV.1.1 (fun c h1 h2 => b3 c (by omega))
    exact a2'.fr hV.1.1 (fun c h1 h2 => by simp (disch := omega) only [zs_cell, zc_cell])
  · exact b2.fr (fun c h1 h2 => by simp (disch := omega) only [zs_cell, zc_cell])
  · simp (disch := omega) only [zs_hit, zs_miss, zc_hit, zc_miss]; rw [show 0 + (k - 0) = k from by omega, fr _ (by omega)]; exact e3 k hk
  · simp (disch := omega) only [zs_hit, zs_miss, zc_hit, zc_miss]; rw [fr _ (by omega)]; exact e4
  · simp (disch := omega) only [zs_hit, zs_miss, zc_hit, zc_miss]; rw [show 0 + (p - 0) = p from by omega, fr _ (by omega)]; exact (e5 p hp).1
  · simp (disch := omega) only [zs_hit, zs_miss, zc_hit, zc_miss]; rw [show 0 + (p - 0) = p from by omega, fr _ (by omega)]; exact (e5 p hp).2
  · simp (disch := omega) only [zs_hit, zs_miss, zc_hit, zc_miss]; rw [fr _ (by omega)]; exact e6
  · simp (disch := omega) only [zs_hit, zs_miss, zc_hit, zc_miss]; rw [fr _ (by omega)]; exact e7
  · simp (disch := omega) only [zs_cell, zc_cell]; exact fr c (by omega)
theorem zRW.move {g g1 : zM} {a b : Nat} {V : zWd} (e : zRW g a V) (hV : zVW V) (f : ∀ k, k < 1309 → g1 b k = g a k) : zRW g1 b V := by
  obtain ⟨e1, ⟨l1, l2, l3, l4⟩, e3, e4, e5, e6, e7⟩ := e
  have h8 := hV.2.2.1
  have h12 := hV.2.1.1
  have h400 := hV.2.1.2.1
  refine ⟨e1.move hV.1 (fun k hk => by rw [Nat.zero_add]; exact f k (by omega)), ⟨by rw [f _ (by omega)]; exact l1, fun q => by rw [f _ (by omega)]; exact l2 q, fun i hi => ?_, fun j hj => ?_⟩, fun k hk => by rw [f _ (by omega)]; exact e3 k hk, by rw [f _ (by omega)]; exact e4, fun p hp => ?_, by rw [f _ (by omega)]; exact e6, by rw [f _ (by omega)]; exact e7⟩
  · rw [f _ (by omega), f _ (by omega), f _ (by omega), f _ (by omega)]; exact l3 i hi
  · rw [f _ (by omega), f _ (by omega)]; exact l4 j hj
  · rw [f _ (by omega), f _ (by omega)]; exact e5 p hp
/-- the state with NOW kept as IMAGE -/
def zSim (S : zS) : zS := (S.1, S.2.1, S.2.2.1, S.2.2.2.1, true, S.2.2.2.1, S.2.2.2.2.2.2)
/-- a call without an answer -/
def zDoU (S : zS) (f : zM → Option zM) (fm : zM → Option zM) : Prop := ∃ S' : zS, zSW S' ∧ (∀ g, zCI S g → ∃ g1, f g = some g1 ∧ zCI S' g1 ∧ ∀ c, 493 ≤ c → g1 c = g c) ∧ ∀ g, zRI S g → ∃ g1, fm g = some g1 ∧ zRI S' g1 ∧ (∀ c, c < 493 → g1 c = g c) ∧ g1 508 = g 508
theorem m_image {S : zS} (hS : zSW S) : zDoU S fX11_image fX12_image := by
  refine ⟨zSim S, ⟨hS.1, hS.2.1, hS.2.2.1, fun _ => hS.2.2.1, hS.2.2.2.2⟩, fun g e => ?_, fun g e => ?_⟩
  · obtain ⟨e1, e2, e3, e4, e5, e6, ⟨p, hp, e7, e8⟩, e9, e10, e11⟩ := e
    obtain ⟨g1, a1, a2, a3⟩ := c_worldBecome (h := 39) e4 hS.2.2.1 (by omega)
    have fr : ∀ c, c ≠ 0 → (c < 39 ∨ 76 ≤ c) → (zset g1 0 5 1) c = g c := fun c h0 hc => by rw [zs_cell h0]; exact a3 c (by omega)
    refine ⟨zset g1 0 5 1, ?_, ⟨by rw [zs_miss (by omega), a3 0 (by omega)]; exact e1, fun i hi => by rw [fr 1 (by omega) (by omega)]; exact e2 i hi, by rw [zs_miss (by omega), a3 0 (by omega)]; exact e3, e4.fr hS.2.2.1 (fun c h1 h2 _ _ => fr c (by omega) (by omega)), zs_hit ⟨rfl, rfl⟩, fun _ => a2.fr hS.2.2.1 (fun c h1 h2 _ _ => zs_cell (by omega)), ⟨p, hp, by rw [fr 76 (by omega) (by omega)]; exact e7, fun j hj => (e8 j hj).fr (hS.2.2.2.2.2 j hj).1 (fun c h1 h2 => fr c (by omega) (by omega))⟩, by rw [fr 76 (by omega) (by omega)]; exact e9, by rw [fr 481 (by omega) (by omega)]; exact e10, by rw [fr 482 (by omega) (by omega)]; exact e11⟩, fun c h => fr c (by omega) (by omega)⟩
    unfold fX11_image
    rw [a1, zb_s, zput_e]
  · have loop : ∃ g1, fX12_image_L7 (fun g6 => zput g6 493 6 1 (fun g7 => some g7)) zFU 0 (zset g 493 0 0) = some (zset g1 493 6 1) ∧ (∀ c, c ≠ 495 → g1 c = (zset g 493 0 0) c) ∧ ∀ k, k < 1309 → g1 495 k = g 494 k := by
      refine zL_I (fun n i (s : zM) => fX12_image_L7 _ n (nI i) s) (fun i s => (∀ c, c ≠ 495 → s c = (zset g 493 0 0) c) ∧ ∀ k, k < i → s 495 k = g 494 k) 1309 (fun x => ∃ g1, x = some (zset g1 493 6 1) ∧ (∀ c, c ≠ 495 → g1 c = (zset g 493 0 0) c) ∧ ∀ k, k < 1309 → g1 495 k = g 494 k) (zset g 493 0 0) (by omega) ⟨fun _ _ => rfl, fun k hk => absurd hk (by omega)⟩ (fun n i s hi hh => ?_) (fun n s hh => ?_)
      · obtain ⟨b1, b2⟩ := hh
        refine ⟨zset s 495 i (g 494 i), ⟨fun c hc => by rw [zs_cell hc]; exact b1 c hc, fun k hk => ?_⟩, ?_⟩
        · by_cases q : k = i
          · subst q; exact zs_hit ⟨rfl, rfl⟩
          · rw [zs_miss (by omega)]; exact b2 k (by omega)
        · simp only [fX12_image_L7]
          simp (disch := omega) only [nL_lt, nL_gt, nL_le, nL_ge, nL_eq, nL_qe, nI_ltI, nI_leI, nI_eq, nL_add, nL_dda, nI_add, nL_sub, pk_sub, nL_mul, nL_clamp, nI_cl, zchk_n, zchk_l, zb_s, zb2_s, zb3_s, zb3_e, zput_e, zjoin_e, zs_hit, zs_miss, nle_t, nle_f, nlt_t, nlt_f, neq_t, neq_f, ↓reduceIte, and_self, and_true, true_and, and_false, false_and, not_true_eq_false, not_false_eq_true, Nat.add_zero]
          rw [b1 494 (by omega), zs_cell (by omega)]
      · obtain ⟨b1, b2⟩ := hh
        simp only [fX12_image_L7]
        exact ⟨s, by simp (disch := omega) only [nL_lt, nL_gt, nL_le, nL_ge, nL_eq, nL_qe, nI_ltI, nI_leI, nI_eq, nL_add, nL_dda, nI_add, nL_sub, pk_sub, nL_mul, nL_clamp, nI_cl, zchk_n, zchk_l, zb_s, zb2_s, zb3_s, zb3_e, zput_e, zjoin_e, zs_hit, zs_miss, nle_t, nle_f, nlt_t, nlt_f, neq_t, neq_f, ↓reduceIte, and_self, and_true, true_and, and_false, false_and, not_true_eq_false, not_false_eq_true, Nat.add_zero], b1, b2⟩
    obtain ⟨g1, a1, a2, a3⟩ := loop
    have fr : ∀ c, c ≠ 493 → c ≠ 495 → (zset g1 493 6 1) c = g c := fun c h0 h1 => by rw [zs_cell h0, a2 c h1, zs_cell h0]
    have f493 : ∀ k, k ≠ 0 → k ≠ 6 → (zset g1 493 6 1) 493 k = g 493 k := fun k h1 h2 => by rw [zs_miss (by omega), a2 493 (by omega), zs_miss (by omega)]
    obtain ⟨e1, e2, e3, e4, e5, e6, e7, e8⟩ := e
    refine ⟨zset g1 493 6 1, ?_, ⟨by rw [f493 9 (by omega) (by omega)]; exact e1, fun i hi => by rw [fr 499 (by omega) (by omega)]; exact e2 i hi, by rw [f493 14 (by omega) (by omega)]; exact e3, e4.fr hS.2.2.1 (fun k _ => by rw [fr 494 (by omega) (by omega)]), zs_hit ⟨rfl, rfl⟩, fun _ => e4.move hS.2.2.1 (fun k hk => by rw [zs_cell (by omega)]; exact a3 k hk), by rw [f493 7 (by omega) (by omega)]; exact e7, fun j hj => ⟨(e8 j hj).1.fr (hS.2.2.2.2.2 j hj) (fun k _ _ => by rw [fr 498 (by omega) (by omega)]), fun c h1 h2 h3 h4 h5 => by rw [fr 498 (by omega) (by omega), fr 494 (by omega) (by omega)]; exact (e8 j hj).2 c h1 h2 h3 h4 h5⟩⟩, fun c h => fr c (by omega) (by omega), fr 508 (by omega) (by omega)⟩
    unfold fX12_image
    rw [zput_e]
    exact a1
/-- the state with the IMAGE as NOW, and no acts -/
def zSbk (S : zS) : zS := (S.1, S.2.1, S.2.2.1, S.2.2.2.2.2.1, S.2.2.2.2.1, S.2.2.2.2.2.1, 0, S.2.2.2.2.2.2.2)
theorem m_back {S : zS} (hS : zSW S) : zDoN S fX11_back fX12_back := by
  cases hk : S.2.2.2.2.1 with
  | false =>
    refine ⟨0, S, hS, fun g e => ⟨g, ?_, e, fun _ _ => rfl⟩, fun g e => ⟨zset g 493 0 0, ?_, e.thr hS 0, fun c h => zs_cell (by omega), zs_cell (by omega)⟩⟩
    · unfold fX11_back
      rw [e.2.2.2.2.1, hk, if_pos (show zbi false = 0 from rfl)]
    · unfold fX12_back
      rw [zput_e, zs_miss (by omega), e.2.2.2.2.1, hk, if_pos (show zbi false = 0 from rfl)]
  | true =>
    have hV := hS.2.2.2.1 hk
    refine ⟨1, zSbk S, ⟨hS.1, hS.2.1, hV, fun _ => hV, Nat.zero_le _, fun j hj => absurd hj (Nat.not_lt_zero _)⟩, fun g e => ?_, fun g e => ?_⟩
    · obtain ⟨e1, e2, e3, e4, e5, e6, ⟨p, hp, e7, e8⟩, e9, e10, e11⟩ := e
      obtain ⟨g1, a1, a2, a3⟩ := c_worldBecome (h := 2) (e6 hk) hV (by omega)
      have fr : ∀ c, c ≠ 76 → (c < 2 ∨ 39 ≤ c) → (zset g1 76 2 0) c = g c := fun c h0 hc => by rw [zs_cell h0]; exact a3 c (by omega)
      refine ⟨zset g1 76 2 0, ?_, ⟨by rw [fr 0 (by omega) (by omega)]; exact e1, fun i hi => by rw [fr 1 (by omega) (by omega)]; exact e2 i hi, by rw [fr 0 (by omega) (by omega)]; exact e3, a2.fr hV (fun c h1 h2 _ _ => zs_cell (by omega)), by rw [fr 0 (by omega) (by omega)]; exact e5, fun _ => (e6 hk).fr hV (fun c h1 h2 _ _ => fr c (by omega) (by omega)), ⟨p, hp, by rw [zs_miss (by omega), a3 76 (by omega)]; exact e7, fun j hj => absurd hj (Nat.not_lt_zero _)⟩, zs_hit ⟨rfl, rfl⟩, by rw [fr 481 (by omega) (by omega)]; exact e10, by rw [fr 482 (by omega) (by omega)]; exact e11⟩, fun c h => fr c (by omega) (by omega)⟩
      unfold fX11_back fX4_forget
      rw [e5, hk, if_neg (show ¬ zbi true = 0 by decide), a1, zb_s, zput_e, zb_s]
    · have loop : ∃ g1, fX12_back_L16 (fun g7 => zput g7 493 7 0 (fun g8 => some (1, g8))) zFU 0 (zset g 493 0 0) = some (1, zset g1 493 7 0) ∧ (∀ c, c ≠ 494 → g1 c = (zset g 493 0 0) c) ∧ ∀ k, k < 1309 → g1 494 k = g 495 k := by
        refine zL_I (fun n i (s : zM) => fX12_back_L16 _ n (nI i) s) (fun i s => (∀ c, c ≠ 494 → s c = (zset g 493 0 0) c) ∧ ∀ k, k < i → s 494 k = g 495 k) 1309 (fun x => ∃ g1, x = some (1, zset g1 493 7 0) ∧ (∀ c, c ≠ 494 → g1 c = (zset g 493 0 0) c) ∧ ∀ k, k < 1309 → g1 494 k = g 495 k) (zset g 493 0 0) (by omega) ⟨fun _ _ => rfl, fun k hk => absurd hk (by omega)⟩ (fun n i s hi hh => ?_) (fun n s hh => ?_)
        · obtain ⟨b1, b2⟩ := hh
          refine ⟨zset s 494 i (g 495 i), ⟨fun c hc => by rw [zs_cell hc]; exact b1 c hc, fun k hk => ?_⟩, ?_⟩
          · by_cases q : k = i
            · subst q; exact zs_hit ⟨rfl, rfl⟩
            · rw [zs_miss (by omega)]; exact b2 k (by omega)
          · simp only [fX12_back_L16]
            simp (disch := omega) only [nL_lt, nL_gt, nL_le, nL_ge, nL_eq, nL_qe, nI_ltI, nI_leI, nI_eq, nL_add, nL_dda, nI_add, nL_sub, pk_sub, nL_mul, nL_clamp, nI_cl, zchk_n, zchk_l, zb_s, zb2_s, zb3_s, zb3_e, zput_e, zjoin_e, zs_hit, zs_miss, nle_t, nle_f, nlt_t, nlt_f, neq_t, neq_f, ↓reduceIte, and_self, and_true, true_and, and_false, false_and, not_true_eq_false, not_false_eq_true, Nat.add_zero]
            rw [b1 495 (by omega), zs_cell (by omega)]
        · obtain ⟨b1, b2⟩ := hh
          simp only [fX12_back_L16]
          exact ⟨s, by simp (disch := omega) only [nL_lt, nL_gt, nL_le, nL_ge, nL_eq, nL_qe, nI_ltI, nI_leI, nI_eq, nL_add, nL_dda, nI_add, nL_sub, pk_sub, nL_mul, nL_clamp, nI_cl, zchk_n, zchk_l, zb_s, zb2_s, zb3_s, zb3_e, zput_e, zjoin_e, zs_hit, zs_miss, nle_t, nle_f, nlt_t, nlt_f, neq_t, neq_f, ↓reduceIte, and_self, and_true, true_and, and_false, false_and, not_true_eq_false, not_false_eq_true, Nat.add_zero], b1, b2⟩
      obtain ⟨g1, a1, a2, a3⟩ := loop
      have fr : ∀ c, c ≠ 493 → c ≠ 494 → (zset g1 493 7 0) c = g c := fun c h0 h1 => by rw [zs_cell h0, a2 c h1, zs_cell h0]
      have f493 : ∀ k, k ≠ 0 → k ≠ 7 → (zset g1 493 7 0) 493 k = g 493 k := fun k h1 h2 => by rw [zs_miss (by omega), a2 493 (by omega), zs_miss (by omega)]
      obtain ⟨e1, e2, e3, e4, e5, e6, e7, e8⟩ := e
      refine ⟨zset g1 493 7 0, ?_, ⟨by rw [f493 9 (by omega) (by omega)]; exact e1, fun i hi => by rw [fr 499 (by omega) (by omega)]; exact e2 i hi, by rw [f493 14 (by omega) (by omega)]; exact e3, (e6 hk).move hV (fun k hk => by rw [zs_cell (by omega)]; exact a3 k hk), by rw [f493 6 (by omega) (by omega)]; exact e5, fun _ => (e6 hk).fr hV (fun k _ => by rw [fr 495 (by omega) (by omega)]), zs_hit ⟨rfl, rfl⟩, fun j hj => absurd hj (Nat.not_lt_zero _)⟩, fun c h => fr c (by omega) (by omega), fr 508 (by omega) (by omega)⟩
      unfold fX12_back
      rw [zput_e, zs_miss (by omega), e5, hk, if_neg (show ¬ zbi true = 0 by decide)]
      exact a1
