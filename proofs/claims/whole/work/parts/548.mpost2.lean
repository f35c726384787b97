/-! the call post -/
/-- what a text of THE POST makes of the state -/
def zSpost (S : zS) (D : zWd) : zS := (0, S.2.1, -1, zDt D, S.2.2.2.2.1, S.2.2.2.2.2.1, 0, S.2.2.2.2.2.2.2)
/-- the reference, up to the reading -/
theorem r_post0 {S : zS} {N : Nat} (x : zTx S.1 S.2.1 N) (hS : zSW S) {g : zM} (e : zRI S g) : ∃ g0 g1, zPR g0 S.1 S.2.1 N S.2.2.2.1 0 g1 ∧ (∀ c, c ≠ 493 → c ≠ 496 → g0 c = g c) ∧ (∀ k, k < 1309 → g0 496 k = g 494 k) ∧ g0 493 0 = 0 ∧ g0 493 9 = 0 ∧ g0 493 6 = g 493 6 ∧ g0 493 7 = g 493 7 ∧ fX12_post g = zb2 (zb (fX12_blanks g1) (fun g3 => if (g3 493 10) = (g3 493 11) then some (0, g3) else fX12_readAll_L28 1 (fun v2_12 g12 => some (v2_12 + 1, g12)) zFU 0 g3)) (fun r_6 g6 => zjoin (fun t0_7 => zput g6 493 14 t0_7 (fun g8 => zjoin (fun t0_9 => zb2 (fX12_throwsIf t0_9 1 g8) (fun r_10 g10 => if r_10 = 0 then zchk 2 2158 (zjoin (fun t0_17 => zb2 (fX12_throwsIf t0_17 2 g10) (fun r_18 g18 => if r_18 = 0 then zchk 2 2158 (zchk 2 2158 (zput g18 494 (2 : Int32).toNatClampNeg ((g18 494 (2 : Int32).toNatClampNeg) + 1) (fun g22 => zput g22 493 7 0 (fun g23 => zchk 2 2158 (some (g23 494 (2 : Int32).toNatClampNeg, g23)))))) else fX12_post_L92 zFU 0 g18) : Int32 → Option (Int32 × zM)) (fun k83 => if (g10 494 (2 : Int32).toNatClampNeg) = 12 then k83 1 else k83 0)) else fX12_post_L92 zFU 0 g10) : Int32 → Option (Int32 × zM)) (fun k59 => if 0 ≤ r_6 then k59 0 else k59 1)) : Int32 → Option (Int32 × zM)) (fun k46 => if 0 ≤ r_6 then k46 ((-1)) else k46 (g6 493 12))) := by
  obtain ⟨g5, a1, a2, a3⟩ := r_keep (K := fun g5 => zb2 (fX12_readAll 1 g5) (fun r_6 g6 => zjoin (fun t0_7 => zput g6 493 14 t0_7 (fun g8 => zjoin (fun t0_9 => zb2 (fX12_throwsIf t0_9 1 g8) (fun r_10 g10 => if r_10 = 0 then zchk 2 2158 (zjoin (fun t0_17 => zb2 (fX12_throwsIf t0_17 2 g10) (fun r_18 g18 => if r_18 = 0 then zchk 2 2158 (zchk 2 2158 (zput g18 494 (2 : Int32).toNatClampNeg ((g18 494 (2 : Int32).toNatClampNeg) + 1) (fun g22 => zput g22 493 7 0 (fun g23 => zchk 2 2158 (some (g23 494 (2 : Int32).toNatClampNeg, g23)))))) else fX12_post_L92 zFU 0 g18) : Int32 → Option (Int32 × zM)) (fun k83 => if (g10 494 (2 : Int32).toNatClampNeg) = 12 then k83 1 else k83 0)) else fX12_post_L92 zFU 0 g10) : Int32 → Option (Int32 × zM)) (fun k59 => if 0 ≤ r_6 then k59 0 else k59 1)) : Int32 → Option (Int32 × zM)) (fun k46 => if 0 ≤ r_6 then k46 ((-1)) else k46 (g6 493 12)))) g
  have e5 : zRI S g5 := e.fr hS ⟨fun c h => a2 c (by omega), fun k h => by rw [a2 494 (by omega)], a2 495 (by omega), a2 498 (by omega), a2 499 (by omega), a2 508 (by omega), by rw [a2 493 (by omega)], by rw [a2 493 (by omega)], by rw [a2 493 (by omega)], by rw [a2 493 (by omega)]⟩
  obtain ⟨u1, u2, u3, u4, u5⟩ := r_uses hS e5
  have u9 : zU g5 493 9 = 0 := u2.1
  have u10 : zU g5 493 10 = 0 := by unfold zU; exact zs_hit ⟨rfl, rfl⟩
  have fc : ∀ c, c ≠ 493 → (zset (zU g5) 493 16 0) c = g5 c := fun c h => by rw [zs_cell h]; exact u3 c h
  refine ⟨zset (zU g5) 493 16 0, zset (zU g5) 493 16 0, ⟨⟨⟨by rw [zs_miss (by omega)]; exact u4, fun i hi => ?_⟩, Nat.zero_le _, 0, Nat.zero_le _, by rw [zs_miss (by omega)]; exact u10, rfl⟩, e5.2.2.2.1.fr hS.2.2.1 (fun k _ => by rw [fc 494 (by omega)]), fun _ _ _ => rfl, fun _ _ _ => rfl⟩, fun c h1 h2 => by rw [fc c h1]; exact a2 c h2, fun k hk => by rw [fc 496 (by omega)]; exact a3 k hk, by rw [zs_miss (by omega)]; exact u5, by rw [zs_miss (by omega)]; exact u9, ?_, ?_, ?_⟩
  · rw [fc 499 (by omega)]; exact e5.2.1 i hi
  · rw [zs_miss (by omega)]
    have h1 := u2.2.2.2.2.1
    have h2 := e.2.2.2.2.1
    exact h1.trans h2.symm
  · rw [zs_miss (by omega)]
    have h1 := u2.2.2.2.2.2.2.1
    have h2 := e.2.2.2.2.2.2.1
    exact h1.trans h2.symm
  · unfold fX12_post
    refine a1.trans ?_
    try dsimp only
    unfold fX12_readAll
    rw [u1, zb_s, zput_e]
theorem m_post {S : zS} (hS : zSW S) : zDo [2, 4] S fX11_post fX12_post := by
  obtain ⟨N, x⟩ := zTx_ex (n := S.1) (b := S.2.1) ⟨hS.1, hS.2.1⟩
  have h12 := hS.2.2.1.2.2.2
  obtain ⟨o, l1, l2, l3⟩ := p_text x hS.2.2.1
  cases o with
  | error t =>
    refine ⟨.error 2, zSend S (nI t), zSend_W hS _, fun g e => ?_, fun g e => ?_⟩
    · obtain ⟨g1, a1, a2⟩ := c_post0 x hS e
      obtain ⟨g2, b1, b2, b3⟩ := l2 g g1 a1
      refine ⟨_, ?_, c_ende hS e (fun c h => b3 c (by omega)) (by rw [b3 481 (by omega)]) (by rw [b3 482 (by omega)]) (nI t), fun c h => ?_⟩
      · rw [a2, b1, zb2_s, b2, c_endR, zb_s, if_pos rfl]
      · rw [zs_cell (by omega), zs_cell (by omega)]; exact b3 c (by omega)
    · obtain ⟨g0, g1, a1, a2, a3, a4, a5, a6, a7, a8⟩ := r_post0 x hS e
      obtain ⟨g6, b1, b2, b3⟩ := l3 g0 g1 a1
      obtain ⟨g9, c1, c2, c3⟩ := r_rest (zset (zset g6 493 14 (nI t)) 493 0 1)
      have f493 : ∀ k, k ≠ 0 → k ≠ 14 → k ≠ 10 → k ≠ 12 → g9 493 k = g0 493 k := fun k h1 h2 h3 h4 => by rw [c2 493 (by omega), zs_miss (by omega), zs_miss (by omega)]; exact b3.2 k h3 h4
      have fc : ∀ c, c ≠ 493 → c ≠ 494 → c ≠ 496 → g9 c = g c := fun c h1 h2 h3 => by rw [c2 c h2, zs_cell h1, zs_cell h1, b3.1 c h1 h2]; exact a2 c h1 h3
      have r494 : ∀ k, k < 1309 → g9 494 k = g 494 k := fun k hk => by rw [c3 k hk, zs_miss (by omega), zs_miss (by omega), b3.1 496 (by omega) (by omega)]; exact a3 k hk
      refine ⟨0, g9, ?_, r_ende hS e r494 (fc 495 (by omega) (by omega) (by omega)) (fc 498 (by omega) (by omega) (by omega)) (by rw [f493 6 (by omega) (by omega) (by omega) (by omega)]; exact a6) (by rw [f493 7 (by omega) (by omega) (by omega) (by omega)]; exact a7) (by rw [f493 9 (by omega) (by omega) (by omega) (by omega)]; exact a5) ?_, fun c h => fc c (by omega) (by omega) (by omega), fc 508 (by omega) (by omega) (by omega), by decide, ?_⟩
      · rw [a8, b1, zb2_s, zjoin_e, if_neg (by decide), b2]
        try dsimp only
        rw [zput_e, zjoin_e, if_neg (by decide)]
        try dsimp only
        unfold fX12_throwsIf
        rw [if_neg (by decide), zput_e, zbo_1, zb2_s, if_neg (by decide)]
        exact c1
      · rw [c2 493 (by omega), zs_miss (by omega)]; exact zs_hit ⟨rfl, rfl⟩
      · rw [c2 493 (by omega)]; exact zs_hit ⟨rfl, rfl⟩
  | ok q =>
    obtain ⟨v, D⟩ := q
    obtain ⟨w1, w2, w3⟩ := l1 (v, D) rfl
    have w1 : zVW D := w1
    have w2 : v ≤ 14 := w2
    have w3 : D.2.2.2.2.2.2.2 = S.2.2.2.1.2.2.2.2.2.2.2 := w3
    have hv0 : (0 : Int32) ≤ nI v := by rw [nL_ge (by omega) (by decide)]; omega
    by_cases hf : S.2.2.2.1.2.2.2.2.2.2.2 < 12
    · refine ⟨.ok (nI (S.2.2.2.1.2.2.2.2.2.2.2 + 1)), zSpost S D, ⟨Nat.zero_le _, fun i hi => absurd hi (Nat.not_lt_zero _), ⟨w1.1, w1.2.1, w1.2.2.1, ?_⟩, hS.2.2.2.1, Nat.zero_le _, fun j hj => absurd hj (Nat.not_lt_zero _)⟩, fun g e => ?_, fun g e => ?_⟩
      · show D.2.2.2.2.2.2.2 + 1 ≤ 12
        omega
      · obtain ⟨g1, a1, a2⟩ := c_post0 x hS e
        obtain ⟨g2, b1, b2, b3, b4⟩ := l2 g g1 a1
        have b2 : zCW g2 396 D := b2
        obtain ⟨g3, hg3⟩ : ∃ g3, g3 = zset (zset (zset g2 0 1 0) 0 2 (-1)) 396 7 (nI (D.2.2.2.2.2.2.2 + 1)) := ⟨_, rfl⟩
        have f3 : ∀ c, c ≠ 0 → c ≠ 396 → g3 c = g2 c := fun c h1 h2 => by rw [hg3, zs_cell h2, zs_cell h1, zs_cell h1]
        have e3 : zCW g3 396 (zDt D) := by
          obtain ⟨d1, d2, d3, d4, d5, d6, d7⟩ := b2
          refine ⟨d1.fr w1.1.1 (fun c h1 h2 => f3 c (by omega) (by omega)), d2.fr (fun c h1 h2 => f3 c (by omega) (by omega)), fun k hk => by rw [f3 _ (by omega) (by omega)]; exact d3 k hk, ?_, fun p hp => by rw [f3 _ (by omega) (by omega), f3 _ (by omega) (by omega)]; exact d5 p hp, ?_, ?_⟩
          · rw [hg3, zs_miss (by omega), zs_cell (by omega), zs_cell (by omega)]; exact d4
          · rw [hg3, zs_miss (by omega), zs_cell (by omega), zs_cell (by omega)]; exact d6
          · rw [hg3, zs_hit ⟨rfl, rfl⟩]; rfl
        have hV3 : zVW (zDt D) := ⟨w1.1, w1.2.1, w1.2.2.1, by show D.2.2.2.2.2.2.2 + 1 ≤ 12; omega⟩
        obtain ⟨g4, c1, c2, c3⟩ := c_worldBecome (h := 2) e3 hV3 (by omega)
        have fr : ∀ c, c ≠ 0 → c ≠ 76 → (c < 2 ∨ 39 ≤ c) → (c < 391 ∨ 433 ≤ c) → (zset g4 76 2 0) c = g c := fun c h0 h1 h2 h3 => by rw [zs_cell h1, c3 c (by omega), f3 c h0 (by omega)]; exact b4 c h3
        have f0 : ∀ k, k ≠ 1 → k ≠ 2 → (zset g4 76 2 0) 0 k = g 0 k := fun k h1 h2 => by rw [zs_cell (by omega), c3 0 (by omega), hg3, zs_cell (by omega), zs_miss (by omega), zs_miss (by omega), b4 0 (by omega)]
        have t7 : g2 2 7 = nI (S.2.2.2.1.2.2.2.2.2.2.2) := by rw [b4 2 (by omega)]; exact e.2.2.2.1.2.2.2.2.2.2
        obtain ⟨e1, e2, e3', e4, e5, e6, ⟨p, hp, e7, e8⟩, e9, e10, e11⟩ := e
        refine ⟨zset g4 76 2 0, ?_, ⟨?_, fun i hi => absurd hi (Nat.not_lt_zero _), ?_, c2.fr hV3 (fun c h1 h2 _ _ => zs_cell (by omega)), by rw [f0 5 (by omega) (by omega)]; exact e5, fun q => (e6 q).fr (hS.2.2.2.1 q) (fun c h1 h2 _ _ => fr c (by omega) (by omega) (by omega) (by omega)), ⟨p, hp, ?_, fun j hj => absurd hj (Nat.not_lt_zero _)⟩, zs_hit ⟨rfl, rfl⟩, by rw [fr 481 (by omega) (by omega) (by omega) (by omega)]; exact e10, by rw [fr 482 (by omega) (by omega) (by omega) (by omega)]; exact e11⟩, fun c h => fr c (by omega) (by omega) (by omega) (by omega)⟩
        · have t6 : g2 396 7 = nI D.2.2.2.2.2.2.2 := b2.2.2.2.2.2.2
          have g27 : g4 2 7 = nI (D.2.2.2.2.2.2.2 + 1) := c2.2.2.2.2.2.2
          have hK : (zset (zset g2 0 1 0) 0 2 (-1)) 2 7 = nI (S.2.2.2.1.2.2.2.2.2.2.2) := by rw [zs_cell (by omega), zs_cell (by omega)]; exact t7
          have hK2 : (zset (zset g2 0 1 0) 0 2 (-1)) 396 7 = nI D.2.2.2.2.2.2.2 := by rw [zs_cell (by omega), zs_cell (by omega)]; exact t6
          rw [a2, b1, zb2_s, b3, c_endR, zb_s, if_neg (by decide), hK, if_pos (by rw [nL_lt (by omega) (by decide)]; exact hf), zput_e, hK2, nI_1, ← hg3, c1, zb_s]
          unfold fX4_forget
          rw [zput_e, zb_s, zs_cell (by omega), g27, w3]
        · rw [zs_cell (by omega), c3 0 (by omega), hg3, zs_cell (by omega), zs_miss (by omega)]; exact zs_hit ⟨rfl, rfl⟩
        · rw [zs_cell (by omega), c3 0 (by omega), hg3, zs_cell (by omega)]; exact zs_hit ⟨rfl, rfl⟩
        · rw [zs_miss (by omega), c3 76 (by omega), f3 76 (by omega) (by omega), b4 76 (by omega)]; exact e7
      · obtain ⟨g0, g1, a1, a2, a3, a4, a5, a6, a7, a8⟩ := r_post0 x hS e
        obtain ⟨g6, b1, b2, b3⟩ := l3 g0 g1 a1
        have b2 : zRW g6 494 D := b2
        have t6 : g6 494 2 = nI D.2.2.2.2.2.2.2 := b2.2.2.2.2.2.2
        obtain ⟨g9, hg9⟩ : ∃ g9, g9 = zset (zset (zset g6 493 14 (-1)) 494 2 (nI (D.2.2.2.2.2.2.2 + 1))) 493 7 0 := ⟨_, rfl⟩
        have f493 : ∀ k, k ≠ 7 → k ≠ 14 → k ≠ 10 → k ≠ 12 → g9 493 k = g0 493 k := fun k h1 h2 h3 h4 => by rw [hg9, zs_miss (by omega), zs_cell (by omega), zs_miss (by omega)]; exact b3.2 k h3 h4
        have fc : ∀ c, c ≠ 493 → c ≠ 494 → c ≠ 496 → g9 c = g c := fun c h1 h2 h3 => by rw [hg9, zs_cell h1, zs_cell h2, zs_cell h1, b3.1 c h1 h2]; exact a2 c h1 h3
        have f494 : ∀ k, k ≠ 2 → g9 494 k = g6 494 k := fun k h => by rw [hg9, zs_cell (by omega), zs_miss (by omega), zs_cell (by omega)]
        have e9 : zRW g9 494 (zDt D) := by
          have h8 := w1.2.2.1
          obtain ⟨d1, d2, d3, d4, d5, d6, d7⟩ := b2
          refine ⟨d1.fr0 w1.1 (fun k h => f494 k (by omega)), d2.fr w1.2.1 (fun k h => f494 k (by omega)), fun k hk => by rw [f494 _ (by omega)]; exact d3 k hk, by rw [f494 1 (by omega)]; exact d4, fun p hp => ?_, by rw [f494 5 (by omega)]; exact d6, ?_⟩
          · have hp' : p < D.2.2.2.1 := hp
            rw [f494 _ (by omega), f494 _ (by omega)]; exact d5 p hp
          · rw [hg9, zs_cell (by omega), zs_hit ⟨rfl, rfl⟩]; rfl
        obtain ⟨e1, e2, e3, e4, e5, e6, e7, e8⟩ := e
        refine ⟨nI (S.2.2.2.1.2.2.2.2.2.2.2 + 1), g9, ?_, ⟨by rw [f493 9 (by omega) (by omega) (by omega) (by omega)]; exact a5, fun i hi => absurd hi (Nat.not_lt_zero _), ?_, e9, by rw [f493 6 (by omega) (by omega) (by omega) (by omega), a6]; exact e5, fun q => (e6 q).fr (hS.2.2.2.1 q) (fun k _ => by rw [fc 495 (by omega) (by omega) (by omega)]), by rw [hg9]; exact zs_hit ⟨rfl, rfl⟩, fun j hj => absurd hj (Nat.not_lt_zero _)⟩, fun c h => fc c (by omega) (by omega) (by omega), fc 508 (by omega) (by omega) (by omega), by rw [f493 0 (by omega) (by omega) (by omega) (by omega)]; exact a4, rfl⟩
        · have h2 : (2 : Int32).toNatClampNeg = 2 := by decide
          have hK : (zset g6 493 14 (-1)) 494 2 = nI D.2.2.2.2.2.2.2 := by rw [zs_cell (by omega)]; exact t6
          have h12' : ¬ nI D.2.2.2.2.2.2.2 = 12 := by rw [nL_eq (by omega) (by decide)]; omega
          rw [a8, b1, zb2_s, zjoin_e, if_pos hv0]
          try dsimp only
          rw [zput_e, zjoin_e, if_pos hv0]
          try dsimp only
          unfold fX12_throwsIf
          rw [if_pos rfl, zbo_0, zb2_s, if_pos rfl, h2, hK, zjoin_e, if_neg h12']
          try dsimp only
          rw [if_pos rfl, zbo_0, zb2_s, if_pos rfl, hK, zput_e, zput_e, nI_1, ← hg9]
          have h9 : g9 494 2 = nI (D.2.2.2.2.2.2.2 + 1) := by rw [hg9, zs_cell (by omega)]; exact zs_hit ⟨rfl, rfl⟩
          rw [h9, w3]
          simp (disch := omega) only [nL_lt, nL_gt, nL_le, nL_ge, nL_eq, nL_qe, nI_ltI, nI_leI, nI_eq, nL_add, nL_dda, nI_add, nL_sub, pk_sub, nL_mul, nL_clamp, nI_cl, zchk_n, zchk_l, zb_s, zb2_s, zb3_s, zb3_e, zput_e, zjoin_e, zs_hit, zs_miss, nle_t, nle_f, nlt_t, nlt_f, neq_t, neq_f, ↓reduceIte, and_self, and_true, true_and, and_false, false_and, not_true_eq_false, not_false_eq_true, Nat.add_zero]
        · rw [hg9, zs_miss (by omega), zs_cell (by omega)]; exact zs_hit ⟨rfl, rfl⟩
    · have hf : S.2.2.2.1.2.2.2.2.2.2.2 = 12 := by
        have : S.2.2.2.1.2.2.2.2.2.2.2 ≤ 12 := h12
        omega
      refine ⟨.error 4, zSend S (-1), zSend_W hS _, fun g e => ?_, fun g e => ?_⟩
      · obtain ⟨g1, a1, a2⟩ := c_post0 x hS e
        obtain ⟨g2, b1, b2, b3, b4⟩ := l2 g g1 a1
        have t7 : g2 2 7 = nI (S.2.2.2.1.2.2.2.2.2.2.2) := by rw [b4 2 (by omega)]; exact e.2.2.2.1.2.2.2.2.2.2
        refine ⟨_, ?_, c_ende hS e (fun c h => b4 c (by omega)) (by rw [b4 481 (by omega)]) (by rw [b4 482 (by omega)]) (-1), fun c h => ?_⟩
        · have hK : (zset (zset g2 0 1 0) 0 2 (-1)) 2 7 = nI (S.2.2.2.1.2.2.2.2.2.2.2) := by rw [zs_cell (by omega), zs_cell (by omega)]; exact t7
          rw [a2, b1, zb2_s, b3, c_endR, zb_s, if_neg (by decide), hK, if_neg (by rw [nL_lt (by omega) (by decide)]; omega)]
        · rw [zs_cell (by omega), zs_cell (by omega)]; exact b4 c (by omega)
      · obtain ⟨g0, g1, a1, a2, a3, a4, a5, a6, a7, a8⟩ := r_post0 x hS e
        obtain ⟨g6, b1, b2, b3⟩ := l3 g0 g1 a1
        have b2 : zRW g6 494 D := b2
        have t6 : g6 494 2 = nI D.2.2.2.2.2.2.2 := b2.2.2.2.2.2.2
        obtain ⟨g9, c1, c2, c3⟩ := r_rest (zset (zset g6 493 14 (-1)) 493 0 2)
        have f493 : ∀ k, k ≠ 0 → k ≠ 14 → k ≠ 10 → k ≠ 12 → g9 493 k = g0 493 k := fun k h1 h2 h3 h4 => by rw [c2 493 (by omega), zs_miss (by omega), zs_miss (by omega)]; exact b3.2 k h3 h4
        have fc : ∀ c, c ≠ 493 → c ≠ 494 → c ≠ 496 → g9 c = g c := fun c h1 h2 h3 => by rw [c2 c h2, zs_cell h1, zs_cell h1, b3.1 c h1 h2]; exact a2 c h1 h3
        have r494 : ∀ k, k < 1309 → g9 494 k = g 494 k := fun k hk => by rw [c3 k hk, zs_miss (by omega), zs_miss (by omega), b3.1 496 (by omega) (by omega)]; exact a3 k hk
        refine ⟨0, g9, ?_, r_ende hS e r494 (fc 495 (by omega) (by omega) (by omega)) (fc 498 (by omega) (by omega) (by omega)) (by rw [f493 6 (by omega) (by omega) (by omega) (by omega)]; exact a6) (by rw [f493 7 (by omega) (by omega) (by omega) (by omega)]; exact a7) (by rw [f493 9 (by omega) (by omega) (by omega) (by omega)]; exact a5) ?_, fun c h => fc c (by omega) (by omega) (by omega), fc 508 (by omega) (by omega) (by omega), by decide, ?_⟩
        · have h2 : (2 : Int32).toNatClampNeg = 2 := by decide
          have hK : (zset g6 493 14 (-1)) 494 2 = nI D.2.2.2.2.2.2.2 := by rw [zs_cell (by omega)]; exact t6
          have h12' : nI D.2.2.2.2.2.2.2 = 12 := by rw [w3, hf]; rfl
          rw [a8, b1, zb2_s, zjoin_e, if_pos hv0]
          try dsimp only
          rw [zput_e, zjoin_e, if_pos hv0]
          try dsimp only
          unfold fX12_throwsIf
          rw [if_pos rfl, zbo_0, zb2_s, if_pos rfl, h2, hK, zjoin_e, if_pos h12']
          try dsimp only
          rw [if_neg (by decide), zput_e, zbo_1, zb2_s, if_neg (by decide)]
          refine (zchk_l (n := 2) (by decide) (by decide)).trans ?_
          exact c1
        · rw [c2 493 (by omega), zs_miss (by omega)]; exact zs_hit ⟨rfl, rfl⟩
        · rw [c2 493 (by omega)]; exact zs_hit ⟨rfl, rfl⟩
