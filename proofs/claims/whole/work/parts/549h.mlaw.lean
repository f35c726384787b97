/-! the call law -/
def zSlaw (S : zS) (Q : yQ) : zS := (0, S.2.1, -1, (S.2.2.2.1.1, zQW Q, S.2.2.2.1.2.2), S.2.2.2.2.1, S.2.2.2.2.2.1, 0, S.2.2.2.2.2.2.2)
theorem yQc.cl {g : zM} {Q : yQ} (e : yQc g Q) (h : g 439 8 = 1) : zCL g 439 (zQW Q) := ⟨e.1, e.2.1, e.2.2.2, e.2.2.1, h⟩
theorem r_lawcopy {r : Int32} {K : zM → Option (Int32 × zM)} (g : zM) : ∃ g9, fX12_law_L52 r K zFU 0 g = K g9 ∧ (∀ c, c ≠ 494 → g9 c = g c) ∧ (∀ j, (j < 460 ∨ 1309 ≤ j) → g9 494 j = g 494 j) ∧ ∀ v, v < 849 → g9 494 (460 + v) = g 494 (1309 + v) := by
  refine zL_I (fun n i (s : zM) => fX12_law_L52 r K n (nI i) s) (fun i s => (∀ c, c ≠ 494 → s c = g c) ∧ (∀ j, (j < 460 ∨ 1309 ≤ j) → s 494 j = g 494 j) ∧ ∀ v, v < i → s 494 (460 + v) = g 494 (1309 + v)) 849 (fun x => ∃ g9, x = K g9 ∧ (∀ c, c ≠ 494 → g9 c = g c) ∧ (∀ j, (j < 460 ∨ 1309 ≤ j) → g9 494 j = g 494 j) ∧ ∀ v, v < 849 → g9 494 (460 + v) = g 494 (1309 + v)) g (by omega) ⟨fun _ _ => rfl, fun _ _ => rfl, fun k hk => absurd hk (by omega)⟩ (fun n i s hi hh => ?_) (fun n s hh => ?_)
  · obtain ⟨b1, b2, b3⟩ := hh
    refine ⟨zset s 494 (460 + i) (g 494 (1309 + i)), ⟨fun c hc => by rw [zs_cell hc]; exact b1 c hc, fun j hj => by rw [zs_miss (by omega)]; exact b2 j hj, fun v hv => ?_⟩, ?_⟩
    · by_cases q : v = i
      · subst q; exact zs_hit ⟨rfl, rfl⟩
      · rw [zs_miss (by omega)]; exact b3 v (by omega)
    · simp only [fX12_law_L52]
      simp (disch := omega) only [nL_lt, nL_gt, nL_le, nL_ge, nL_eq, nL_qe, nI_ltI, nI_leI, nI_eq, nL_add, nL_dda, nI_add, nL_sub, pk_sub, nL_mul, nL_clamp, nI_cl, zchk_n, zchk_l, zb_s, zb2_s, zb3_s, zb3_e, zput_e, zjoin_e, zs_hit, zs_miss, nle_t, nle_f, nlt_t, nlt_f, neq_t, neq_f, ↓reduceIte, and_self, and_true, true_and, and_false, false_and, not_true_eq_false, not_false_eq_true, Nat.add_zero]
      rw [b2 _ (by omega)]
  · obtain ⟨b1, b2, b3⟩ := hh
    simp only [fX12_law_L52]
    exact ⟨s, by simp (disch := omega) only [nL_lt, nL_gt, nL_le, nL_ge, nL_eq, nL_qe, nI_ltI, nI_leI, nI_eq, nL_add, nL_dda, nI_add, nL_sub, pk_sub, nL_mul, nL_clamp, nI_cl, zchk_n, zchk_l, zb_s, zb2_s, zb3_s, zb3_e, zput_e, zjoin_e, zs_hit, zs_miss, nle_t, nle_f, nlt_t, nlt_f, neq_t, neq_f, ↓reduceIte, and_self, and_true, true_and, and_false, false_and, not_true_eq_false, not_false_eq_true, Nat.add_zero], b1, b2, b3⟩
theorem c_law0 {S : zS} {N : Nat} (x : zTx S.1 S.2.1 N) (hS : zSW S) {g : zM} (e : zCI S g) : ∃ g0 g1, zQC g0 S.1 S.2.1 N zQ0 0 g1 ∧ (∀ c, (c < 434 ∨ 444 ≤ c) → g0 c = g c) ∧ fX11_law g = zb2 (zb (fX9_code 434 g1) (fun r_2 => if r_2 = 1021 then some (1, g1) else fX8_readText_LawReader_L27 12 (fun g11 => zb2 (fX9_fail 434 g11) (fun r_12 g12 => zbo r_12 (some (r_12, g12)))) zFU 0 g1)) (fun r_2 g2 => zb (fX11_endReading (g2 434 7) g2) (fun g3 => if r_2 = 0 then some (.error 2, g3) else zput g3 439 8 1 (fun g5 => zb (fX1_become 29 439 g5) (fun g6 => zb (fX4_forget g6) (fun g7 => some (.ok (g7 29 7), g7)))))) := by
  obtain ⟨gc, hgc⟩ : ∃ gc, gc = zset (zset (zset g 439 6 0) 439 7 0) 439 8 0 := ⟨_, rfl⟩
  have fr : ∀ c, c ≠ 439 → gc c = g c := fun c h => by rw [hgc, zs_cell h, zs_cell h, zs_cell h]
  have et : ∀ i, i < S.1 → gc 1 i = nI (S.2.1 i) := fun i hi => by rw [fr 1 (by omega)]; exact e.2.1 i hi
  obtain ⟨g2, b1, b2, b3, b4⟩ := c_scan x (h := 434) (by omega) et
  have f9 : g2 439 = gc 439 := b4 439 (by omega)
  refine ⟨g2, g2, ⟨⟨b2, b3, Nat.zero_le _⟩, ⟨?_, fun i hi => absurd hi (Nat.not_lt_zero _), ?_, fun j hj => absurd hj (Nat.not_lt_zero _)⟩, fun _ _ => rfl, rfl⟩, fun c hc => by rw [b4 c (by omega), fr c (by omega)], ?_⟩
  · rw [f9, hgc, zs_miss (by omega)]; exact zs_hit ⟨rfl, rfl⟩
  · rw [f9, hgc, zs_miss (by omega), zs_miss (by omega)]; exact zs_hit ⟨rfl, rfl⟩
  · unfold fX11_law fX1_clear fX8_readText_LawReader
    rw [zput_e, zput_e, zput_e, ← hgc, zb_s, fr 0 (by omega), e.1, b1, zb_s]
theorem r_law0 {S : zS} {N : Nat} (x : zTx S.1 S.2.1 N) (hS : zSW S) {g : zM} (e : zRI S g) : ∃ g0 g1, zQR g0 S.1 S.2.1 N zQ0 0 g1 ∧ (∀ c, c ≠ 493 → g0 c = g c) ∧ g0 493 0 = 0 ∧ g0 493 9 = 0 ∧ g0 493 6 = g 493 6 ∧ g0 493 7 = g 493 7 ∧ fX12_law g = zb2 (zb (fX12_blanks g1) (fun g3 => if (g3 493 10) = (g3 493 11) then some (0, g3) else fX12_readAll_L28 0 (fun v2_12 g12 => some (v2_12 + 1, g12)) zFU 0 g3)) (fun r_1 g1 => zjoin (fun t0_2 => zput g1 493 14 t0_2 (fun g3 => zjoin (fun t0_4 => zb2 (fX12_throwsIf t0_4 1 g3) (fun r_5 g5 => if r_5 = 0 then zchk 1309 2158 (zput g5 494 (1309 : Int32).toNatClampNeg r_1 (fun g8 => fX12_law_L52 r_1 (fun g13 => zchk 3 2158 (zput g13 494 (3 : Int32).toNatClampNeg 1 (fun g15 => zput g15 493 7 0 (fun g16 => some (r_1, g16))))) zFU 0 g8)) else some (0, g5)) : Int32 → Option (Int32 × zM)) (fun k32 => if 0 ≤ r_1 then k32 0 else k32 1)) : Int32 → Option (Int32 × zM)) (fun k19 => if 0 ≤ r_1 then k19 ((-1)) else k19 (g1 493 12))) := by
  obtain ⟨u1, u2, u3, u4, u5⟩ := r_uses hS e
  have u9 : zU g 493 9 = 0 := u2.1
  have u10 : zU g 493 10 = 0 := by unfold zU; exact zs_hit ⟨rfl, rfl⟩
  have fc : ∀ c, c ≠ 493 → (zset (zU g) 493 16 0) c = g c := fun c h => by rw [zs_cell h]; exact u3 c h
  refine ⟨zset (zU g) 493 16 0, zset (zU g) 493 16 0, ⟨⟨⟨by rw [zs_miss (by omega)]; exact u4, fun i hi => ?_⟩, Nat.zero_le _, 0, Nat.zero_le _, by rw [zs_miss (by omega)]; exact u10, rfl⟩, ⟨fun i hi => absurd hi (Nat.not_lt_zero _), zs_hit ⟨rfl, rfl⟩, fun j hj => absurd hj (Nat.not_lt_zero _)⟩, fun _ _ _ => rfl, fun _ _ _ _ _ => rfl, fun _ _ => rfl⟩, fc, by rw [zs_miss (by omega)]; exact u5, by rw [zs_miss (by omega)]; exact u9, ?_, ?_, ?_⟩
  · rw [fc 499 (by omega)]; exact e.2.1 i hi
  · rw [zs_miss (by omega)]
    have h1 := u2.2.2.2.2.1
    have h2 := e.2.2.2.2.1
    exact h1.trans h2.symm
  · rw [zs_miss (by omega)]
    have h1 := u2.2.2.2.2.2.2.1
    have h2 := e.2.2.2.2.2.2.1
    exact h1.trans h2.symm
  · unfold fX12_law fX12_readAll
    rw [u1, zb_s, zput_e]
theorem m_law {S : zS} (hS : zSW S) : zDo [2] S fX11_law fX12_law := by
  obtain ⟨N, x⟩ := zTx_ex (n := S.1) (b := S.2.1) ⟨hS.1, hS.2.1⟩
  obtain ⟨o, l1, l2, l3⟩ := q_text x
  cases o with
  | error t =>
    refine ⟨.error 2, zSend S (nI t), zSend_W hS _, fun g e => ?_, fun g e => ?_⟩
    · obtain ⟨g0, g1, a1, a2, a3⟩ := c_law0 x hS e
      obtain ⟨g2, b1, b2, b3⟩ := l2 g0 g1 a1
      have fr : ∀ c, (c < 434 ∨ 444 ≤ c) → g2 c = g c := fun c h => (b3.1 c h).trans (a2 c h)
      refine ⟨_, ?_, c_ende hS e (fun c h => fr c (by omega)) (by rw [fr 481 (by omega)]) (by rw [fr 482 (by omega)]) (nI t), fun c h => ?_⟩
      · rw [a3, b1, zb2_s, b2, c_endR, zb_s, if_pos rfl]
      · rw [zs_cell (by omega), zs_cell (by omega)]; exact fr c (by omega)
    · obtain ⟨g0, g1, a1, a2, a3, a4, a5, a6, a7⟩ := r_law0 x hS e
      obtain ⟨g6, b1, b2, b3⟩ := l3 g0 g1 a1
      obtain ⟨g9, hg9⟩ : ∃ g9, g9 = zset (zset g6 493 14 (nI t)) 493 0 1 := ⟨_, rfl⟩
      have f493 : ∀ k, k ≠ 0 → k ≠ 14 → k ≠ 10 → k ≠ 12 → k ≠ 13 → k ≠ 16 → g9 493 k = g0 493 k := fun k h1 h2 h3 h4 h5 h6 => by rw [hg9, zs_miss (by omega), zs_miss (by omega)]; exact b3.2.1 k h3 h4 h5 h6
      have fc : ∀ c, c ≠ 493 → c ≠ 494 → g9 c = g c := fun c h1 h2 => by rw [hg9, zs_cell h1, zs_cell h1, b3.1 c h1 h2]; exact a2 c h1
      have r494 : ∀ k, k < 1309 → g9 494 k = g 494 k := fun k hk => by rw [hg9, zs_cell (by omega), zs_cell (by omega), b3.2.2 k hk, a2 494 (by omega)]
      refine ⟨0, g9, ?_, r_ende hS e r494 (fc 495 (by omega) (by omega)) (fc 498 (by omega) (by omega)) (by rw [f493 6 (by omega) (by omega) (by omega) (by omega) (by omega) (by omega)]; exact a5) (by rw [f493 7 (by omega) (by omega) (by omega) (by omega) (by omega) (by omega)]; exact a6) (by rw [f493 9 (by omega) (by omega) (by omega) (by omega) (by omega) (by omega)]; exact a4) ?_, fun c h => fc c (by omega) (by omega), fc 508 (by omega) (by omega), by decide, ?_⟩
      · rw [a7, b1, zb2_s, zjoin_e, if_neg (by decide), b2]
        try dsimp only
        rw [zput_e, zjoin_e, if_neg (by decide)]
        try dsimp only
        unfold fX12_throwsIf
        rw [if_neg (by decide), zput_e, zbo_1, zb2_s, if_neg (by decide), ← hg9]
      · rw [hg9, zs_miss (by omega)]; exact zs_hit ⟨rfl, rfl⟩
      · rw [hg9]; exact zs_hit ⟨rfl, rfl⟩
  | ok Q =>
    have hQ := l1 Q rfl
    have hW : zWW (zQW Q) := hQ.1
    have hl12 : Q.1 ≤ 12 := hW.1
    have hc4 : Q.2.2.2.2.length ≤ 400 := hW.2.1
    have hv0 : (0 : Int32) ≤ nI Q.1 := by rw [nL_ge (by omega) (by decide)]; omega
    refine ⟨.ok (nI Q.1), zSlaw S Q, ⟨Nat.zero_le _, fun i hi => absurd hi (Nat.not_lt_zero _), ⟨hS.2.2.1.1, hW, hS.2.2.1.2.2⟩, hS.2.2.2.1, Nat.zero_le _, fun j hj => absurd hj (Nat.not_lt_zero _)⟩, fun g e => ?_, fun g e => ?_⟩
    · obtain ⟨g0, g1, a1, a2, a3⟩ := c_law0 x hS e
      obtain ⟨g2, b1, b2, b3, b4⟩ := l2 g0 g1 a1
      have fr2 : ∀ c, (c < 434 ∨ 444 ≤ c) → g2 c = g c := fun c h => (b4.1 c h).trans (a2 c h)
      obtain ⟨g3, hg3⟩ : ∃ g3, g3 = zset (zset (zset g2 0 1 0) 0 2 (-1)) 439 8 1 := ⟨_, rfl⟩
      have f3 : ∀ c, c ≠ 0 → c ≠ 439 → g3 c = g2 c := fun c h1 h2 => by rw [hg3, zs_cell h2, zs_cell h1, zs_cell h1]
      have f39 : ∀ j, j ≠ 8 → g3 439 j = g2 439 j := fun j h => by rw [hg3, zs_miss (by omega), zs_cell (by omega), zs_cell (by omega)]
      have e3 : zCL g3 439 (zQW Q) := by
        refine yQc.cl ⟨by rw [f39 7 (by omega)]; exact b2.1, fun i hi => by rw [f3 440 (by omega) (by omega), f3 441 (by omega) (by omega), f3 442 (by omega) (by omega)]; exact b2.2.1 i hi, by rw [f39 6 (by omega)]; exact b2.2.2.1, fun j hj => by rw [f3 443 (by omega) (by omega)]; exact b2.2.2.2 j hj⟩ ?_
        rw [hg3]; exact zs_hit ⟨rfl, rfl⟩
      obtain ⟨g4, c1, c2, c3⟩ := c_lawBecome (h := 29) e3 hW (by omega)
      have fr : ∀ c, c ≠ 0 → c ≠ 76 → (c < 29 ∨ 34 ≤ c) → (c < 434 ∨ 444 ≤ c) → (zset g4 76 2 0) c = g c := fun c h0 h1 h2 h3 => by rw [zs_cell h1, c3 c (by omega), f3 c h0 (by omega)]; exact fr2 c h3
      have f0 : ∀ k, k ≠ 1 → k ≠ 2 → (zset g4 76 2 0) 0 k = g 0 k := fun k h1 h2 => by rw [zs_cell (by omega), c3 0 (by omega), hg3, zs_cell (by omega), zs_miss (by omega), zs_miss (by omega), fr2 0 (by omega)]
      obtain ⟨e1, e2, e3', ⟨y1, y2, y3, y4, y5, y6, y7⟩, e5, e6, ⟨p, hp, e7, e8⟩, e9, e10, e11⟩ := e
      refine ⟨zset g4 76 2 0, ?_, ⟨?_, fun i hi => absurd hi (Nat.not_lt_zero _), ?_, ⟨y1.fr hS.2.2.1.1.1 (fun c h1 h2 => fr c (by omega) (by omega) (by omega) (by omega)), c2.fr (fun c h1 h2 => zs_cell (by omega)), fun k hk => ?_, ?_, fun p hp => ?_, ?_, ?_⟩, by rw [f0 5 (by omega) (by omega)]; exact e5, fun q => (e6 q).fr (hS.2.2.2.1 q) (fun c h1 h2 _ _ => fr c (by omega) (by omega) (by omega) (by omega)), ⟨p, hp, ?_, fun j hj => absurd hj (Nat.not_lt_zero _)⟩, zs_hit ⟨rfl, rfl⟩, by rw [fr 481 (by omega) (by omega) (by omega) (by omega)]; exact e10, by rw [fr 482 (by omega) (by omega) (by omega) (by omega)]; exact e11⟩, fun c h => fr c (by omega) (by omega) (by omega) (by omega)⟩
      · have g27 : g4 29 7 = nI Q.1 := c2.1
        rw [a3, b1, zb2_s, b3, c_endR, zb_s, if_neg (by decide), zput_e, ← hg3, c1, zb_s]
        unfold fX4_forget
        rw [zput_e, zb_s, zs_cell (by omega), g27]
      · rw [zs_cell (by omega), c3 0 (by omega), hg3, zs_cell (by omega), zs_miss (by omega)]; exact zs_hit ⟨rfl, rfl⟩
      · rw [zs_cell (by omega), c3 0 (by omega), hg3, zs_cell (by omega)]; exact zs_hit ⟨rfl, rfl⟩
      · rw [fr (2 + 34) (by omega) (by omega) (by omega) (by omega)]; exact y3 k hk
      · rw [fr 2 (by omega) (by omega) (by omega) (by omega)]; exact y4
      · rw [fr (2 + 35) (by omega) (by omega) (by omega) (by omega), fr (2 + 36) (by omega) (by omega) (by omega) (by omega)]; exact y5 p hp
      · rw [fr 2 (by omega) (by omega) (by omega) (by omega)]; exact y6
      · rw [fr 2 (by omega) (by omega) (by omega) (by omega)]; exact y7
      · rw [zs_miss (by omega), c3 76 (by omega), f3 76 (by omega) (by omega), fr2 76 (by omega)]; exact e7
    · obtain ⟨g0, g1, a1, a2, a3, a4, a5, a6, a7⟩ := r_law0 x hS e
      obtain ⟨g6, b1, b2, b3⟩ := l3 g0 g1 a1
      obtain ⟨g8, c1, c2, c3, c4⟩ := r_lawcopy (r := nI Q.1) (K := fun g13 => zchk 3 2158 (zput g13 494 (3 : Int32).toNatClampNeg 1 (fun g15 => zput g15 493 7 0 (fun g16 => some (nI Q.1, g16))))) (zset (zset g6 493 14 (-1)) 494 1309 (nI Q.1))
      obtain ⟨g9, hg9⟩ : ∃ g9, g9 = zset (zset g8 494 3 1) 493 7 0 := ⟨_, rfl⟩
      have f493 : ∀ k, k ≠ 7 → k ≠ 14 → k ≠ 10 → k ≠ 12 → k ≠ 13 → k ≠ 16 → g9 493 k = g0 493 k := fun k h7 h2 h3 h4 h5 h6 => by rw [hg9, zs_miss (by omega), zs_cell (by omega), c2 493 (by omega), zs_cell (by omega), zs_miss (by omega)]; exact b3.2.1 k h3 h4 h5 h6
      have fc : ∀ c, c ≠ 493 → c ≠ 494 → g9 c = g c := fun c h1 h2 => by rw [hg9, zs_cell h1, zs_cell h2, c2 c h2, zs_cell h2, zs_cell h1, b3.1 c h1 h2]; exact a2 c h1
      have r494 : ∀ k, k < 460 → k ≠ 3 → g9 494 k = g 494 k := fun k hk h3 => by rw [hg9, zs_cell (by omega), zs_miss (by omega), c3 k (by omega), zs_miss (by omega), zs_cell (by omega), b3.2.2 k (by omega), a2 494 (by omega)]
      have r460 : ∀ v, 1 ≤ v → v < 849 → g9 494 (460 + v) = g6 494 (1309 + v) := fun v h1 h2 => by rw [hg9, zs_cell (by omega), zs_miss (by omega), c4 v h2, zs_miss (by omega), zs_cell (by omega)]
      have z460 : g9 494 460 = nI Q.1 := by
        have := c4 0 (by omega)
        rw [Nat.add_zero, Nat.add_zero] at this
        rw [hg9, zs_cell (by omega), zs_miss (by omega), this]; exact zs_hit ⟨rfl, rfl⟩
      obtain ⟨e1, e2, e3, ⟨y1, y2, y3, y4, y5, y6, y7⟩, e5, e6, e7, e8⟩ := e
      have h8 := hS.2.2.1.2.2.1
      have y1' : zRB g9 494 0 S.2.2.2.1.1 := y1.fr0 hS.2.2.1.1 (fun k h => r494 k (by omega) (by omega))
      refine ⟨nI Q.1, g9, ?_, ⟨by rw [f493 9 (by omega) (by omega) (by omega) (by omega) (by omega) (by omega)]; exact a4, fun i hi => absurd hi (Nat.not_lt_zero _), ?_, ⟨y1', ⟨?_, fun _ => z460, fun i hi => ?_, fun j hj => ?_⟩, fun k hk => by rw [r494 _ (by omega) (by omega)]; exact y3 k hk, by rw [r494 1 (by omega) (by omega)]; exact y4, fun p hp => ?_, by rw [r494 5 (by omega) (by omega)]; exact y6, by rw [r494 2 (by omega) (by omega)]; exact y7⟩, by rw [f493 6 (by omega) (by omega) (by omega) (by omega) (by omega) (by omega), a5]; exact e5, fun q => (e6 q).fr (hS.2.2.2.1 q) (fun k _ => by rw [fc 495 (by omega) (by omega)]), by rw [hg9]; exact zs_hit ⟨rfl, rfl⟩, fun j hj => absurd hj (Nat.not_lt_zero _)⟩, fun c h => fc c (by omega) (by omega), fc 508 (by omega) (by omega), by rw [f493 0 (by omega) (by omega) (by omega) (by omega) (by omega) (by omega)]; exact a3, rfl⟩
      · have h3 : (3 : Int32).toNatClampNeg = 3 := by decide
        have h13 : (1309 : Int32).toNatClampNeg = 1309 := by decide
        rw [a7, b1, zb2_s, zjoin_e, if_pos hv0]
        try dsimp only
        rw [zput_e, zjoin_e, if_pos hv0]
        try dsimp only
        unfold fX12_throwsIf
        rw [if_pos rfl, zbo_0, zb2_s, if_pos rfl]
        refine (zchk_l (n := 1309) (by decide) (by decide)).trans ?_
        rw [zput_e, h13]
        refine c1.trans ?_
        refine (zchk_l (n := 3) (by decide) (by decide)).trans ?_
        rw [zput_e, zput_e, h3, ← hg9]
      · rw [hg9, zs_miss (by omega), zs_cell (by omega), c2 493 (by omega), zs_cell (by omega)]; exact zs_hit ⟨rfl, rfl⟩
      · rw [hg9, zs_cell (by omega)]; exact zs_hit ⟨rfl, rfl⟩
      · have hi' : i < Q.1 := hi
        obtain ⟨q1, q2, q3, q4⟩ := b2.1 i hi'
        have t : ∀ s, s < 4 → g9 494 (461 + 4 * i + s) = g6 494 (1310 + 4 * i + s) := fun s hs => by
          rw [show 461 + 4 * i + s = 460 + (1 + 4 * i + s) from by omega, r460 _ (by omega) (by omega), show 1309 + (1 + 4 * i + s) = 1310 + 4 * i + s from by omega]
        exact ⟨(t 0 (by omega)).trans q1, (t 1 (by omega)).trans q2, (t 2 (by omega)).trans q3, (t 3 (by omega)).trans q4⟩
      · have hj' : j < Q.2.2.2.2.length := hj
        obtain ⟨q1, q2⟩ := b2.2.2 j hj'
        have t : ∀ s, s < 2 → g9 494 (509 + 2 * j + s) = g6 494 (1358 + 2 * j + s) := fun s hs => by
          rw [show 509 + 2 * j + s = 460 + (49 + 2 * j + s) from by omega, r460 _ (by omega) (by omega), show 1309 + (49 + 2 * j + s) = 1358 + 2 * j + s from by omega]
        exact ⟨(t 0 (by omega)).trans q1, (t 1 (by omega)).trans q2⟩
      · have hp' : p < S.2.2.2.1.2.2.2.1 := hp
        have h8' : S.2.2.2.1.2.2.2.1 ≤ 8 := h8
        rw [r494 _ (by omega) (by omega), r494 _ (by omega) (by omega)]; exact y5 p hp
