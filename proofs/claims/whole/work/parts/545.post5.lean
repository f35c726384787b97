/-! a line of a text of THE POST -/
theorem p_letter {n N k : Nat} {b : Nat → Nat} {D : zWd} (x : zTx n b N) (hV : zVW D) (hk : k < N) (hl : zso (b (zT b n k)) = 1) : zRd n b N k D fX5_readLetter fX12_readLetter := by
  have h8 := hV.1.1
  have cw : ∀ {g0 g j}, zPC g0 n b N D j g → g 397 1 = nI D.1.1 := fun e => e.2.1.1.1
  have rl : ∀ {g0 g}, zPT g0 n b N D k g → fX12_letters g = some (nI D.1.1) := fun e => by
    have h0 := e.2.1.1.1
    unfold fX12_letters
    simp (disch := omega) only [nL_lt, nL_gt, nL_le, nL_ge, nL_eq, nL_qe, nI_ltI, nI_leI, nI_eq, nL_add, nL_dda, nI_add, nL_sub, pk_sub, nL_mul, nL_clamp, nI_cl, zchk_n, zchk_l, zb_s, zb2_s, zb3_s, zb3_e, zput_e, zjoin_e, zs_hit, zs_miss, nle_t, nle_f, nlt_t, nlt_f, neq_t, neq_f, ↓reduceIte, and_self, and_true, true_and, and_false, false_and, not_true_eq_false, not_false_eq_true, Nat.add_zero, h0]
  by_cases hp : D.1.1 < 8
  case neg =>
    refine p_err (t := zT b n k) (fun g0 g e => ?_) (fun g0 g e => ?_)
    · refine ⟨_, ?_, zs_hit ⟨rfl, rfl⟩, e.er⟩
      unfold fX5_readLetter
      rw [cw e, if_neg (by rw [nL_lt (by omega) (by decide)]; exact hp), c_fail x e.1, zb2_s, zbo_0]
    · refine ⟨g, ?_, e.1.2.2.1, e.2.2⟩
      unfold fX12_readLetter
      rw [rl e, zb_s, if_pos (by rw [show D.1.1 = 8 from by omega]; rfl)]
  have n8 : ¬ nI D.1.1 = 8 := by rw [nL_eq (by omega) (by decide)]; omega
  have l8 : nI D.1.1 < 8 := by rw [nL_lt (by omega) (by decide)]; exact hp
  have m1 : ∀ c, c ≤ 999 → ¬ nI c = -1 := fun c hc => by rw [nI_m1 (by omega)]; exact id
  have p0 : ∀ c, c ≤ 999 → (0 : Int32) ≤ nI c := fun c hc => by rw [nL_ge (by omega) (by decide)]; omega
  by_cases q1 : zck b n (k + 1) = 1014 ∧ ztn 0 9 (zck b n (k + 1 + 1)) = true
  case neg =>
    refine p_err (t := zT b n (if zck b n (k + 1) = 1014 then k + 1 + 1 else k + 1)) (fun g0 g e => ?_) (fun g0 g e => ?_)
    · have e1 := e.go hV (show k + 1 ≤ N from hk)
      obtain ⟨g1, b1, b2, b3⟩ := (c_pn x hV e1 (c := 1014) (by omega) (by omega)).2 q1
      refine ⟨g1, ?_, b2, b3⟩
      unfold fX5_readLetter
      rw [cw e, if_pos l8, c_stp x e.1 hk, zb_s]
      refine (b1 _).trans ?_
      try dsimp only
      rw [if_pos rfl]
    · obtain ⟨g1, a1, a2, a3, a4⟩ := r_after x (e.1.rp x ⟨hk, hl⟩) s21 (v1 := 0) (v2 := 9)
      have hm : (if zck b n (k + 1) = 1000 + 14 then if ztn 0 9 (zck b n (k + 1 + 1)) = true then nI (zck b n (k + 1 + 1)) else -1 else -1) = -1 := by
        by_cases q2 : zck b n (k + 1) = 1000 + 14
        · rw [if_pos q2, if_neg (fun h => q1 ⟨q2, h⟩)]
        · rw [if_neg q2]
      rw [hm] at a1
      refine ⟨g1, ?_, a4, e.2.2.fp a2⟩
      unfold fX12_readLetter
      rw [rl e, zb_s, if_neg n8, a1, zb2_s, zjoin_e, if_neg (by decide)]
      try dsimp only
      rw [if_neg (by decide)]
  have k1 : k + 1 ≤ N := hk
  have k2 : k + 1 + 1 ≤ N := zck_lt x k1 (by rw [q1.1]; decide)
  have s1 := ztn_lt x k2 q1.2
  have k3 : k + 1 + 1 + 1 ≤ N := s1.1
  by_cases q2 : zck b n (k + 1 + 1 + 1) = 1003 ∧ ztn 0 9 (zck b n (k + 1 + 1 + 1 + 1)) = true
  case neg =>
    refine p_err (t := zT b n (if zck b n (k + 1 + 1 + 1) = 1003 then k + 1 + 1 + 1 + 1 else k + 1 + 1 + 1)) (fun g0 g e => ?_) (fun g0 g e => ?_)
    · have e1 := e.go hV k1
      have e3 := (e1.go hV k2).go hV k3
      have b1 := ((c_pn x hV e1 (c := 1014) (by omega) (by omega)).1 q1).2
      obtain ⟨g1, d1, d2, d3⟩ := (c_pn x hV e3 (c := 1003) (by omega) (by omega)).2 q2
      refine ⟨g1, ?_, d2, d3⟩
      unfold fX5_readLetter
      rw [cw e, if_pos l8, c_stp x e.1 hk, zb_s]
      refine (b1 _).trans ?_
      try dsimp only
      rw [if_neg (m1 _ s1.2)]
      refine (d1 _).trans ?_
      try dsimp only
      rw [if_pos rfl]
    · obtain ⟨g1, a1, a2, a3, a4⟩ := r_after x (e.1.rp x ⟨hk, hl⟩) s21 (v1 := 0) (v2 := 9)
      rw [if_pos q1.1, if_pos q1.2] at a1
      obtain ⟨g2, c1, c2, c3, c4⟩ := r_after x (a3 q1.1 q1.2) s22 (v1 := 0) (v2 := 9)
      have hm : (if zck b n (k + 1 + 1 + 1) = 1000 + 3 then if ztn 0 9 (zck b n (k + 1 + 1 + 1 + 1)) = true then nI (zck b n (k + 1 + 1 + 1 + 1)) else -1 else -1) = -1 := by
        by_cases q3 : zck b n (k + 1 + 1 + 1) = 1000 + 3
        · rw [if_pos q3, if_neg (fun h => q2 ⟨q3, h⟩)]
        · rw [if_neg q3]
      rw [show (k + 1 + 2 : Nat) = k + 1 + 1 + 1 from rfl, hm] at c1
      refine ⟨g2, ?_, c4, e.2.2.fp (a2.trans c2)⟩
      unfold fX12_readLetter
      rw [rl e, zb_s, if_neg n8, a1, zb2_s, zjoin_e, if_pos (p0 _ s1.2), c1, zb2_s]
      try dsimp only
      rw [if_neg (by decide)]
  have k4 : k + 1 + 1 + 1 + 1 ≤ N := zck_lt x k3 (by rw [q2.1]; decide)
  have t1 := ztn_lt x k4 q2.2
  have k5 : k + 1 + 1 + 1 + 1 + 1 ≤ N := t1.1
  have cg : ∀ {g0 g}, zPC g0 n b N D k g → ∃ g5, zPC g0 n b N D (k + 1 + 1 + 1 + 1 + 1) g5 ∧ fX5_readLetter g = zb (fX9_countKinds 391 g5) (fun r_9 => if r_9 = 0 then zb2 (fX9_fail 391 g5) (fun r_19 g19 => zbo r_19 (some (r_19, g19))) else zchk (g5 397 1) 8 (zb (fX3_begin (398 + 1 + 3 * (g5 397 1).toNatClampNeg) (nI (zck b n (k + 1 + 1))) (nI (zck b n (k + 1 + 1 + 1 + 1))) g5) (fun g12 => fX5_readLetter_L153 r_9 (398 + 1 + 3 * (g5 397 1).toNatClampNeg) (fun g16 => zput g16 397 1 ((g16 397 1) + 1) (fun g17 => zb (fX9_step 391 g17) (fun g18 => some (1, g18)))) zFU 0 g12))) := fun {g0 g} e => by
    have e1 := e.go hV k1
    have e3 := (e1.go hV k2).go hV k3
    have e5 := (e3.go hV k4).go hV k5
    have b1 := ((c_pn x hV e1 (c := 1014) (by omega) (by omega)).1 q1).2
    have d1 := ((c_pn x hV e3 (c := 1003) (by omega) (by omega)).1 q2).2
    refine ⟨_, e5, ?_⟩
    unfold fX5_readLetter
    rw [cw e, if_pos l8, c_stp x e.1 hk, zb_s]
    refine (b1 _).trans ?_
    try dsimp only
    rw [if_neg (m1 _ s1.2)]
    refine (d1 _).trans ?_
    try dsimp only
    rw [if_neg (m1 _ t1.2)]
  have rg : ∀ {g0 g}, zPT g0 n b N D k g → ∃ g5, zPR g0 n b N D (k + 1 + 1 + 1 + 1 + 1) g5 ∧ fX12_readLetter g = zb (fX12_lettersPass g5) (fun g6 => zb (fX12_in ((g6 493 10) - (g6 493 12)) 1 24 g6) (fun r_7 => if r_7 = 0 then some (0, g6) else zb2 (fX12_begins (nI (zck b n (k + 1 + 1))) (nI (zck b n (k + 1 + 1 + 1 + 1))) g6) (fun r_9 g9 => fX12_readLetter_L82 r_9 zFU (g9 493 12) g9))) := fun {g0 g} e => by
    obtain ⟨g1, a1, a2, a3, a4⟩ := r_after x (e.1.rp x ⟨hk, hl⟩) s21 (v1 := 0) (v2 := 9)
    rw [if_pos q1.1, if_pos q1.2] at a1
    obtain ⟨g2, c1, c2, c3, c4⟩ := r_after x (a3 q1.1 q1.2) s22 (v1 := 0) (v2 := 9)
    rw [if_pos q2.1, if_pos q2.2] at c1
    refine ⟨g2, ⟨c3 q2.1 q2.2, e.2.1.fp hV (a2.trans c2), e.2.2.fp (a2.trans c2)⟩, ?_⟩
    unfold fX12_readLetter
    rw [rl e, zb_s, if_neg n8, a1, zb2_s, zjoin_e, if_pos (p0 _ s1.2), c1, zb2_s]
    try dsimp only
    rw [if_pos (p0 _ t1.2)]
  by_cases q3 : zkq b n (k + 1 + 1 + 1 + 1 + 1) = 0
  · refine p_err (t := zT b n (k + 1 + 1 + 1 + 1 + 1)) (fun g0 g e => ?_) (fun g0 g e => ?_)
    · obtain ⟨g5, e5, h5⟩ := cg e
      refine ⟨_, ?_, zs_hit ⟨rfl, rfl⟩, e5.er⟩
      rw [h5, c_countKinds x e5.1, zb_s, q3, if_pos (by decide), c_fail x e5.1, zb2_s, zbo_0]
    · obtain ⟨g5, e5, h5⟩ := rg e
      obtain ⟨g1, a1, a2, a3, a4⟩ := r_letter x hV e5 hp (nI (zck b n (k + 1 + 1 + 1 + 1))) (nI (zck b n (k + 1 + 1)))
      rw [if_pos q3] at a1
      exact ⟨g1, h5.trans a1, a2, a3⟩
  · obtain ⟨z1, z2, z3, z4, z5⟩ := zkq_row x k5 q3
    refine ⟨.ok (k + 1 + 1 + 1 + 1 + 1 + 1, zDm D (zBadd D.1 (zWr (zkf b n (k + 1 + 1 + 1 + 1 + 1)) D.1.2.2.1 (nI (zck b n (k + 1 + 1 + 1 + 1))) (nI (zck b n (k + 1 + 1))) (zkq b n (k + 1 + 1 + 1 + 1 + 1))))), .ok ⟨zBadd_W hV.1 hp ⟨?_, z3, fun i hi => ?_⟩, hV.2⟩ (by omega) z1, fun g0 g e => ?_, fun g0 g e => ?_⟩
    · show 1 ≤ zkq b n (k + 1 + 1 + 1 + 1 + 1)
      omega
    · have := z5 i hi
      unfold zkd at this
      simp only [Bool.and_eq_true, decide_eq_true_eq] at this
      show b (zT b n (k + 1 + 1 + 1 + 1 + 1) + i) - 97 < 12
      omega
    · obtain ⟨g5, e5, h5⟩ := cg e
      obtain ⟨g1, a1, a2⟩ := c_letter x hV e5 hp q3 (nI (zck b n (k + 1 + 1 + 1 + 1))) (nI (zck b n (k + 1 + 1)))
      refine ⟨g1, ?_, a2⟩
      rw [h5, c_countKinds x e5.1, zb_s, if_neg (nI_ne0 (by omega) (by omega)), cw e5, zchk_n (by omega) (by omega), ← cw e5]
      exact a1
    · obtain ⟨g5, e5, h5⟩ := rg e
      obtain ⟨g1, a1, a2, a3, a4⟩ := r_letter x hV e5 hp (nI (zck b n (k + 1 + 1 + 1 + 1))) (nI (zck b n (k + 1 + 1)))
      rw [if_neg q3] at a1
      exact ⟨g1, h5.trans a1, a4 q3⟩
theorem zOC.zbo {g0 : zM} {n N : Nat} {b : Nat → Nat} {o : Except Nat (Nat × zWd)} {y : Option (Int32 × zM)} (h : zOC g0 n b N o y) : zOC g0 n b N o (zb2 y (fun r g => zbo r (some (r, g)))) := by
  cases o with
  | ok q =>
    obtain ⟨g1, rfl, h2⟩ := h
    exact ⟨g1, by rw [zb2_s, zbo_1], h2⟩
  | error t =>
    obtain ⟨g1, rfl, h2⟩ := h
    exact ⟨g1, by rw [zb2_s, zbo_0], h2⟩
theorem zOR.zbo {g0 : zM} {n N : Nat} {b : Nat → Nat} {o : Except Nat (Nat × zWd)} {y : Option (Int32 × zM)} (h : zOR g0 n b N o y) : zOR g0 n b N o (zb2 y (fun r g => zbo r (some (r, g)))) := by
  cases o with
  | ok q =>
    obtain ⟨g1, rfl, h2⟩ := h
    exact ⟨g1, by rw [zb2_s, zbo_1], h2⟩
  | error t =>
    obtain ⟨g1, rfl, h2⟩ := h
    exact ⟨g1, by rw [zb2_s, zbo_0], h2⟩
theorem zRd.of {n N k : Nat} {b : Nat → Nat} {D : zWd} {f fm f' fm' : zM → Option (Int32 × zM)} (h : zRd n b N k D f fm) (h1 : ∀ g0 g, zPC g0 n b N D k g → ∀ o, zOC g0 n b N o (f g) → zOC g0 n b N o (f' g)) (h2 : ∀ g0 g, zPT g0 n b N D k g → ∀ o, zOR g0 n b N o (fm g) → zOR g0 n b N o (fm' g)) : zRd n b N k D f' fm' := by
  obtain ⟨o, a1, a2, a3⟩ := h
  exact ⟨o, a1, fun g0 g e => h1 g0 g e o (a2 g0 g e), fun g0 g e => h2 g0 g e o (a3 g0 g e)⟩
theorem r_iw1 {g : zM} {n N k : Nat} {b : Nat → Nat} (x : zTx n b N) (e : zRt g n b N k) {s i : Nat} (hs : zWs s i) (h : zck b n k = 1000 + i) : fX12_isWord s g = some 1 := by rw [r_iw x e hs, if_pos h]
theorem r_iw0 {g : zM} {n N k : Nat} {b : Nat → Nat} (x : zTx n b N) (e : zRt g n b N k) {s i : Nat} (hs : zWs s i) (h : ¬ zck b n k = 1000 + i) : fX12_isWord s g = some 0 := by rw [r_iw x e hs, if_neg h]
theorem p_line {n N k : Nat} {b : Nat → Nat} {D : zWd} (x : zTx n b N) (hV : zVW D) (hk : k ≤ N) : zRd n b N k D fX5_readLine fX12_readPostLine := by
  have hb := zcd_big x hk
  have cl : ∀ i, i < 19 → zck b n k = 1000 + i → k < N ∧ zso (b (zT b n k)) = 1 := fun i hi h => zck_let x hk hi h
  by_cases h0 : zck b n k = 1000 + 0
  · obtain ⟨c1, c2⟩ := cl 0 (by omega) h0
    refine (p_state x hV c1 c2 true).of (fun g0 g e o h => ?_) (fun g0 g e o h => ?_)
    · unfold fX5_readLine
      rw [c_code x e.1, zb_s, h0, if_pos (by decide)]
      exact h.zbo
    · unfold fX12_readPostLine
      rw [r_iw0 x e.1 s20 (by omega), zb_s, if_pos rfl, r_iw0 x e.1 s23 (by omega), zb_s, if_pos rfl, r_iw0 x e.1 s24 (by omega), zb_s, if_pos rfl, r_iw0 x e.1 s25 (by omega), zb_s, if_pos rfl, r_iw1 x e.1 s26 (by omega), zb_s, if_neg (by decide)]
      exact h.zbo
  by_cases h5 : zck b n k = 1000 + 5
  · obtain ⟨c1, c2⟩ := cl 5 (by omega) h5
    refine (p_week x hV c1 c2).of (fun g0 g e o h => ?_) (fun g0 g e o h => ?_)
    · unfold fX5_readLine
      rw [c_code x e.1, zb_s, h5]
      repeat rw [if_neg (by decide)]
      rw [if_pos (by decide)]
      exact h.zbo
    · unfold fX12_readPostLine
      rw [r_iw0 x e.1 s20 (by omega), zb_s, if_pos rfl, r_iw0 x e.1 s23 (by omega), zb_s, if_pos rfl, r_iw0 x e.1 s24 (by omega), zb_s, if_pos rfl, r_iw0 x e.1 s25 (by omega), zb_s, if_pos rfl, r_iw0 x e.1 s26 (by omega), zb_s, if_pos rfl, r_iw0 x e.1 s27 (by omega), zb_s, if_pos rfl, r_iw1 x e.1 s28 (by omega), zb_s, if_neg (by decide)]
      exact h
  by_cases h13 : zck b n k = 1000 + 13
  · obtain ⟨c1, c2⟩ := cl 13 (by omega) h13
    refine (p_letter x hV c1 c2).of (fun g0 g e o h => ?_) (fun g0 g e o h => ?_)
    · unfold fX5_readLine
      rw [c_code x e.1, zb_s, h13]
      repeat rw [if_neg (by decide)]
      rw [if_pos (by decide)]
      exact h.zbo
    · unfold fX12_readPostLine
      rw [r_iw1 x e.1 s20 (by omega), zb_s, if_neg (by decide)]
      exact h.zbo
  by_cases h15 : zck b n k = 1000 + 15
  · obtain ⟨c1, c2⟩ := cl 15 (by omega) h15
    refine (p_words x hV c1 c2).of (fun g0 g e o h => ?_) (fun g0 g e o h => ?_)
    · unfold fX5_readLine
      rw [c_code x e.1, zb_s, h15]
      repeat rw [if_neg (by decide)]
      rw [if_pos (by decide)]
      exact h.zbo
    · unfold fX12_readPostLine
      rw [r_iw0 x e.1 s20 (by omega), zb_s, if_pos rfl, r_iw1 x e.1 s23 (by omega), zb_s, if_neg (by decide)]
      exact h.zbo
  by_cases h16 : zck b n k = 1000 + 16
  · obtain ⟨c1, c2⟩ := cl 16 (by omega) h16
    refine (p_promise x hV c1 c2).of (fun g0 g e o h => ?_) (fun g0 g e o h => ?_)
    · unfold fX5_readLine
      rw [c_code x e.1, zb_s, h16]
      repeat rw [if_neg (by decide)]
      rw [if_pos (by decide)]
      exact h.zbo
    · unfold fX12_readPostLine
      rw [r_iw0 x e.1 s20 (by omega), zb_s, if_pos rfl, r_iw0 x e.1 s23 (by omega), zb_s, if_pos rfl, r_iw1 x e.1 s24 (by omega), zb_s, if_neg (by decide)]
      exact h.zbo
  by_cases h17 : zck b n k = 1000 + 17
  · obtain ⟨c1, c2⟩ := cl 17 (by omega) h17
    refine (p_slip x hV c1 c2).of (fun g0 g e o h => ?_) (fun g0 g e o h => ?_)
    · unfold fX5_readLine
      rw [c_code x e.1, zb_s, h17]
      repeat rw [if_neg (by decide)]
      rw [if_pos (by decide)]
      exact h.zbo
    · unfold fX12_readPostLine
      rw [r_iw0 x e.1 s20 (by omega), zb_s, if_pos rfl, r_iw0 x e.1 s23 (by omega), zb_s, if_pos rfl, r_iw0 x e.1 s24 (by omega), zb_s, if_pos rfl, r_iw1 x e.1 s25 (by omega), zb_s, if_neg (by decide)]
      exact h.zbo
  by_cases h18 : zck b n k = 1000 + 18
  · obtain ⟨c1, c2⟩ := cl 18 (by omega) h18
    refine (p_state x hV c1 c2 false).of (fun g0 g e o h => ?_) (fun g0 g e o h => ?_)
    · unfold fX5_readLine
      rw [c_code x e.1, zb_s, h18]
      repeat rw [if_neg (by decide)]
      rw [if_pos (by decide)]
      exact h.zbo
    · unfold fX12_readPostLine
      rw [r_iw0 x e.1 s20 (by omega), zb_s, if_pos rfl, r_iw0 x e.1 s23 (by omega), zb_s, if_pos rfl, r_iw0 x e.1 s24 (by omega), zb_s, if_pos rfl, r_iw0 x e.1 s25 (by omega), zb_s, if_pos rfl, r_iw0 x e.1 s26 (by omega), zb_s, if_pos rfl, r_iw1 x e.1 s27 (by omega), zb_s, if_neg (by decide)]
      exact h.zbo
  refine p_err (t := zT b n k) (fun g0 g e => ?_) (fun g0 g e => ?_)
  · refine ⟨_, ?_, zs_hit ⟨rfl, rfl⟩, e.er⟩
    have F : zb2 (fX9_fail 391 g) (fun r_60 g60 => zbo r_60 (some (r_60, g60))) = some (0, zset g 391 7 (nI (zT b n k))) := by rw [c_fail x e.1, zb2_s, zbo_0]
    have n0 : (nI (zck b n k) = 1000) = False := eq_false (by rw [nL_eq (by omega) (by decide)]; exact h0)
    have n5 : (nI (zck b n k) = 1005) = False := eq_false (by rw [nL_eq (by omega) (by decide)]; exact h5)
    have n13 : (nI (zck b n k) = 1013) = False := eq_false (by rw [nL_eq (by omega) (by decide)]; exact h13)
    have n15 : (nI (zck b n k) = 1015) = False := eq_false (by rw [nL_eq (by omega) (by decide)]; exact h15)
    have n16 : (nI (zck b n k) = 1016) = False := eq_false (by rw [nL_eq (by omega) (by decide)]; exact h16)
    have n17 : (nI (zck b n k) = 1017) = False := eq_false (by rw [nL_eq (by omega) (by decide)]; exact h17)
    have n18 : (nI (zck b n k) = 1018) = False := eq_false (by rw [nL_eq (by omega) (by decide)]; exact h18)
    unfold fX5_readLine
    rw [c_code x e.1, zb_s]
    simp only [n0, n5, n13, n15, n16, n17, n18, if_false, F, ite_self]
  · refine ⟨g, ?_, e.1.2.2.1, e.2.2⟩
    unfold fX12_readPostLine
    rw [r_iw0 x e.1 s20 h13, zb_s, if_pos rfl, r_iw0 x e.1 s23 h15, zb_s, if_pos rfl, r_iw0 x e.1 s24 h16, zb_s, if_pos rfl, r_iw0 x e.1 s25 h17, zb_s, if_pos rfl, r_iw0 x e.1 s26 h0, zb_s, if_pos rfl, r_iw0 x e.1 s27 h18, zb_s, if_pos rfl, r_iw0 x e.1 s28 h5, zb_s, if_pos rfl]
