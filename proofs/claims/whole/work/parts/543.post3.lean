theorem p_words {n N k : Nat} {b : Nat → Nat} {D : zWd} (x : zTx n b N) (hV : zVW D) (hk : k < N) (hl : zso (b (zT b n k)) = 1) : zRd n b N k D fX5_readWords fX12_readWords := by
  cases qk : zkk b n (k + 1) with
  | none =>
    refine p_err (t := zT b n (k + 1)) (fun g0 g e => ?_) (fun g0 g e => ?_)
    · have e1 := e.go hV (show k + 1 ≤ N from hk)
      refine ⟨_, ?_, zs_hit ⟨rfl, rfl⟩, e1.er⟩
      unfold fX5_readWords
      rw [c_stp x e.1 hk, zb_s, c_takeKind x e1.1, qk]
      rfl
    · obtain ⟨g1, a1, a2, a3, a4⟩ := r_kindNext x (e.1.rp x ⟨hk, hl⟩)
      refine ⟨g1, ?_, a4, e.2.2.fp a2⟩
      unfold fX12_readWords
      rw [a1, qk]
      rfl
  | some v =>
    obtain ⟨v1, v2, v3⟩ := zkk_some x (show k + 1 ≤ N from hk) qk
    have v0 : ¬ nI v < 0 := nI_pos (by omega)
    have v12 : ¬ 12 ≤ nI v := by rw [nL_ge (by omega) (by decide)]; omega
    have vm : ¬ nI v = -1 := by rw [nI_m1 (by omega)]; exact id
    by_cases q : ztn 1 9 (zck b n (k + 1 + 1)) = true
    · have h9 := ztn_lt x (show k + 1 + 1 ≤ N from v1) q
      generalize hcc : zck b n (k + 1 + 1) = c at *
      refine ⟨.ok (k + 3, zDk D v (nI c)), .ok hV (by omega) (by omega), fun g0 g e => ?_, fun g0 g e => ?_⟩
      · have e1 := e.go hV (show k + 1 ≤ N from hk)
        have e2 := e1.go hV (show k + 1 + 1 ≤ N from v1)
        have e3 := e2.go hV (show k + 1 + 1 + 1 ≤ N from h9.1)
        refine ⟨_, ?_, e3.1.set (by omega), e3.2.1.word hV, e3.2.2.set (by omega) (by omega)⟩
        unfold fX5_readWords
        rw [c_stp x e.1 hk, zb_s, c_takeKind x e1.1, qk]
        show zb2 (some (nI v, zset (zset g 391 6 (nI (k + 1))) 391 6 (nI (k + 1 + 1)))) _ = _
        rw [zb2_s, zjoin_e, if_neg vm, c_takeNumber x e2.1, hcc, if_pos q, zb2_s]
        dsimp only
        rw [if_neg (by rw [nI_m1 (by omega)]; exact id)]
        unfold fX10_setWords
        rw [if_neg v0, if_neg v12, zchk_n (by omega) (by omega), nI_cl (by omega), zput_e, zb_s]
      · obtain ⟨g1, a1, a2, a3, a4⟩ := r_kindNext x (e.1.rp x ⟨hk, hl⟩)
        obtain ⟨g2, c1, c2, c3, c4⟩ := r_number x (a3 (by rw [qk]; exact Option.some_ne_none _)) (v1 := 1) (v2 := 9)
        rw [hcc] at c1 c3
        rw [if_pos q] at c1
        rw [qk] at a1
        have fp := a2.trans c2
        refine ⟨_, ?_, (c3 q).set, (e.2.1.fp hV fp).word hV v3, (e.2.2.fp fp).set⟩
        unfold fX12_readWords
        rw [a1]
        show zb2 (some (nI v, g1)) _ = _
        rw [zb2_s, zjoin_e, if_pos (by rw [nL_ge (by omega) (by decide)]; omega), c1, zb2_s]
        dsimp only
        rw [if_neg (nI_pos (by omega)), nL_dda, zchk_n (by omega) (by omega), nI_cl (by omega), zput_e, if_neg (nI_pos (by omega))]
    · refine p_err (t := zT b n (k + 1 + 1)) (fun g0 g e => ?_) (fun g0 g e => ?_)
      · have e1 := e.go hV (show k + 1 ≤ N from hk)
        have e2 := e1.go hV (show k + 1 + 1 ≤ N from v1)
        refine ⟨_, ?_, zs_hit ⟨rfl, rfl⟩, e2.er⟩
        unfold fX5_readWords
        rw [c_stp x e.1 hk, zb_s, c_takeKind x e1.1, qk]
        show zb2 (some (nI v, zset (zset g 391 6 (nI (k + 1))) 391 6 (nI (k + 1 + 1)))) _ = _
        rw [zb2_s, zjoin_e, if_neg vm, c_takeNumber x e2.1, if_neg q, zb2_s]
        dsimp only
        rw [if_pos rfl]
      · obtain ⟨g1, a1, a2, a3, a4⟩ := r_kindNext x (e.1.rp x ⟨hk, hl⟩)
        obtain ⟨g2, c1, c2, c3, c4⟩ := r_number x (a3 (by rw [qk]; exact Option.some_ne_none _)) (v1 := 1) (v2 := 9)
        rw [if_neg q] at c1
        rw [qk] at a1
        refine ⟨g2, ?_, c4, e.2.2.fp (a2.trans c2)⟩
        unfold fX12_readWords
        rw [a1]
        show zb2 (some (nI v, g1)) _ = _
        rw [zb2_s, zjoin_e, if_pos (by rw [nL_ge (by omega) (by decide)]; omega), c1, zb2_s]
        dsimp only
        rw [if_pos (by decide), if_pos (by decide)]
theorem zCW.prom {g : zM} {D : zWd} {a c : Int32} (e : zCW g 396 D) (hV : zVW D) : zCW (zset (zset (zset g (396 + 35) D.2.2.2.1 a) (396 + 36) D.2.2.2.1 c) 396 5 (nI (D.2.2.2.1 + 1))) 396 (zDp D a c) := by
  obtain ⟨e1, e2, e3, e4, e5, e6, e7⟩ := e
  have fr : ∀ d, d ≠ 396 → d ≠ 431 → d ≠ 432 → (zset (zset (zset g (396 + 35) D.2.2.2.1 a) (396 + 36) D.2.2.2.1 c) 396 5 (nI (D.2.2.2.1 + 1))) d = g d := fun d h1 h2 h3 => by rw [zs_cell h1, zs_cell h3, zs_cell h2]
  refine ⟨e1.fr hV.1.1 (fun c h1 h2 => fr c (by omega) (by omega) (by omega)), e2.fr (fun c h1 h2 => fr c (by omega) (by omega) (by omega)), fun k hk => by rw [fr (396 + 34) (by omega) (by omega) (by omega)]; exact e3 k hk, zs_hit ⟨rfl, rfl⟩, fun p hp => ?_, by rw [zs_miss (by omega), zs_miss (by omega), zs_miss (by omega)]; exact e6, by rw [zs_miss (by omega), zs_miss (by omega), zs_miss (by omega)]; exact e7⟩
  have hp' : p < D.2.2.2.1 + 1 := hp
  show _ = zup D.2.2.2.2.1 D.2.2.2.1 a p ∧ _ = zup D.2.2.2.2.2.1 D.2.2.2.1 c p
  by_cases q : p = D.2.2.2.1
  · rw [zup_hit q, zup_hit q]
    exact ⟨by rw [zs_miss (by omega), zs_miss (by omega), zs_hit ⟨rfl, q⟩], by rw [zs_miss (by omega), zs_hit ⟨rfl, q⟩]⟩
  · rw [zup_miss q, zup_miss q]
    exact ⟨by rw [zs_miss (by omega), zs_miss (by omega), zs_miss (by omega)]; exact (e5 p (by omega)).1, by rw [zs_miss (by omega), zs_miss (by omega), zs_miss (by omega)]; exact (e5 p (by omega)).2⟩
theorem zRW.prom {g : zM} {D : zWd} {a c : Int32} (e : zRW g 494 D) (hV : zVW D) (h8 : D.2.2.2.1 < 8) : zRW (zset (zset (zset g 494 (20 + 2 * D.2.2.2.1) a) 494 (20 + 2 * D.2.2.2.1 + 1) c) 494 1 (nI (D.2.2.2.1 + 1))) 494 (zDp D a c) := by
  obtain ⟨e1, e2, e3, e4, e5, e6, e7⟩ := e
  have fr : ∀ k, k ≠ 1 → (k < 20 ∨ 36 ≤ k) → (zset (zset (zset g 494 (20 + 2 * D.2.2.2.1) a) 494 (20 + 2 * D.2.2.2.1 + 1) c) 494 1 (nI (D.2.2.2.1 + 1))) 494 k = g 494 k := fun k h1 h2 => by rw [zs_miss (by omega), zs_miss (by omega), zs_miss (by omega)]
  refine ⟨e1.fr0 hV.1 (fun k h => fr k (by omega) (by omega)), e2.fr hV.2.1 (fun k h => fr k (by omega) (by omega)), fun k hk => by rw [fr _ (by omega) (by omega)]; exact e3 k hk, zs_hit ⟨rfl, rfl⟩, fun p hp => ?_, by rw [fr _ (by omega) (by omega)]; exact e6, by rw [fr _ (by omega) (by omega)]; exact e7⟩
  have hp' : p < D.2.2.2.1 + 1 := hp
  show _ = zup D.2.2.2.2.1 D.2.2.2.1 a p ∧ _ = zup D.2.2.2.2.2.1 D.2.2.2.1 c p
  by_cases q : p = D.2.2.2.1
  · rw [zup_hit q, zup_hit q]
    exact ⟨by rw [zs_miss (by omega), zs_miss (by omega), zs_hit ⟨rfl, by omega⟩], by rw [zs_miss (by omega), zs_hit ⟨rfl, by omega⟩]⟩
  · rw [zup_miss q, zup_miss q]
    exact ⟨by rw [zs_miss (by omega), zs_miss (by omega), zs_miss (by omega)]; exact (e5 p (by omega)).1, by rw [zs_miss (by omega), zs_miss (by omega), zs_miss (by omega)]; exact (e5 p (by omega)).2⟩
theorem p_promise {n N k : Nat} {b : Nat → Nat} {D : zWd} (x : zTx n b N) (hV : zVW D) (hk : k < N) (hl : zso (b (zT b n k)) = 1) : zRd n b N k D fX5_readPromise fX12_readPromise := by
  have h8 := hV.2.2.1
  have cw : ∀ {g0 g j}, zPC g0 n b N D j g → g 396 5 = nI D.2.2.2.1 := fun e => e.2.1.2.2.2.1
  have rl : ∀ {g0 g}, zPT g0 n b N D k g → fX12_promises g = some (nI D.2.2.2.1) := fun e => by
    have h0 := e.2.1.2.2.2.1
    unfold fX12_promises
    simp (disch := omega) only [nL_lt, nL_gt, nL_le, nL_ge, nL_eq, nL_qe, nI_ltI, nI_leI, nI_eq, nL_add, nL_dda, nI_add, nL_sub, pk_sub, nL_mul, nL_clamp, nI_cl, zchk_n, zchk_l, zb_s, zb2_s, zb3_s, zb3_e, zput_e, zjoin_e, zs_hit, zs_miss, nle_t, nle_f, nlt_t, nlt_f, neq_t, neq_f, ↓reduceIte, and_self, and_true, true_and, and_false, false_and, not_true_eq_false, not_false_eq_true, Nat.add_zero, h0]
  by_cases hp : D.2.2.2.1 < 8
  case neg =>
    refine p_err (t := zT b n k) (fun g0 g e => ?_) (fun g0 g e => ?_)
    · refine ⟨_, ?_, zs_hit ⟨rfl, rfl⟩, e.er⟩
      unfold fX5_readPromise
      rw [cw e, if_neg (by rw [nL_lt (by omega) (by decide)]; exact hp), c_fail x e.1, zb2_s, zbo_0]
    · refine ⟨g, ?_, e.1.2.2.1, e.2.2⟩
      unfold fX12_readPromise
      rw [rl e, zb_s, zb_s, if_pos (by rw [show D.2.2.2.1 = 8 from by omega]; rfl)]
  have n8 : ¬ nI D.2.2.2.1 = 8 := by rw [nL_eq (by omega) (by decide)]; omega
  have l8 : nI D.2.2.2.1 < 8 := by rw [nL_lt (by omega) (by decide)]; exact hp
  cases qk : zkk b n (k + 1) with
  | none =>
    refine p_err (t := zT b n (k + 1)) (fun g0 g e => ?_) (fun g0 g e => ?_)
    · have e1 := e.go hV (show k + 1 ≤ N from hk)
      refine ⟨_, ?_, zs_hit ⟨rfl, rfl⟩, e1.er⟩
      unfold fX5_readPromise
      rw [cw e, if_pos l8, c_stp x e.1 hk, zb_s, c_takeKind x e1.1, qk]
      rfl
    · obtain ⟨g1, a1, a2, a3, a4⟩ := r_kindNext x (e.1.rp x ⟨hk, hl⟩)
      refine ⟨g1, ?_, a4, e.2.2.fp a2⟩
      unfold fX12_readPromise
      rw [rl e, zb_s, zb_s, if_neg n8, a1, qk]
      rfl
  | some v =>
    obtain ⟨v1, v2, v3⟩ := zkk_some x (show k + 1 ≤ N from hk) qk
    have vm : ¬ nI v = -1 := by rw [nI_m1 (by omega)]; exact id
    have v0 : (0 : Int32) ≤ nI v := by rw [nL_ge (by omega) (by decide)]; omega
    cases qu : zkk b n (k + 1 + 1) with
    | none =>
      refine p_err (t := zT b n (k + 1 + 1)) (fun g0 g e => ?_) (fun g0 g e => ?_)
      · have e1 := e.go hV (show k + 1 ≤ N from hk)
        have e2 := e1.go hV (show k + 1 + 1 ≤ N from v1)
        refine ⟨_, ?_, zs_hit ⟨rfl, rfl⟩, e2.er⟩
        unfold fX5_readPromise
        rw [cw e, if_pos l8, c_stp x e.1 hk, zb_s, c_takeKind x e1.1, qk]
        show zb2 (some (nI v, zset (zset g 391 6 (nI (k + 1))) 391 6 (nI (k + 1 + 1)))) _ = _
        rw [zb2_s, zjoin_e, if_neg vm, c_takeKind x e2.1, qu]
        rfl
      · obtain ⟨g1, a1, a2, a3, a4⟩ := r_kindNext x (e.1.rp x ⟨hk, hl⟩)
        obtain ⟨g2, c1, c2, c3, c4⟩ := r_kindNext x (a3 (by rw [qk]; exact Option.some_ne_none _))
        rw [qk] at a1
        rw [qu] at c1
        refine ⟨g2, ?_, c4, e.2.2.fp (a2.trans c2)⟩
        unfold fX12_readPromise
        rw [rl e, zb_s, zb_s, if_neg n8, a1]
        show zb2 (some (nI v, g1)) _ = _
        rw [zb2_s, zjoin_e, if_pos v0, c1]
        rfl
    | some u =>
      obtain ⟨u1, u2, u3⟩ := zkk_some x (show k + 1 + 1 ≤ N from v1) qu
      have um : ¬ nI u = -1 := by rw [nI_m1 (by omega)]; exact id
      have u0 : (0 : Int32) ≤ nI u := by rw [nL_ge (by omega) (by decide)]; omega
      refine ⟨.ok (k + 3, zDp D (nI v) (nI u)), .ok ⟨hV.1, hV.2.1, by show D.2.2.2.1 + 1 ≤ 8; omega, hV.2.2.2⟩ (by omega) (by omega), fun g0 g e => ?_, fun g0 g e => ?_⟩
      · have e1 := e.go hV (show k + 1 ≤ N from hk)
        have e2 := e1.go hV (show k + 1 + 1 ≤ N from v1)
        have e3 := e2.go hV (show k + 1 + 1 + 1 ≤ N from u1)
        refine ⟨_, ?_, ((e3.1.set (by omega)).set (by omega)).set (by omega), e3.2.1.prom hV, ((e3.2.2.set (by omega) (by omega)).set (by omega) (by omega)).set (by omega) (by omega)⟩
        unfold fX5_readPromise
        rw [cw e, if_pos l8, c_stp x e.1 hk, zb_s, c_takeKind x e1.1, qk]
        show zb2 (some (nI v, zset (zset g 391 6 (nI (k + 1))) 391 6 (nI (k + 1 + 1)))) _ = _
        rw [zb2_s, zjoin_e, if_neg vm, c_takeKind x e2.1, qu]
        show zb2 (some (nI u, zset (zset (zset g 391 6 (nI (k + 1))) 391 6 (nI (k + 1 + 1))) 391 6 (nI (k + 1 + 1 + 1)))) _ = _
        have c5 := cw e3
        rw [zb2_s]
        dsimp only
        rw [if_neg um]
        unfold fX10_addPromise
        rw [c5, if_neg (by rw [nL_ge (by omega) (by decide)]; omega), zchk_n (by omega) (by omega), nI_cl (by omega), zput_e, zs_miss (by omega), c5, zchk_n (by omega) (by omega), nI_cl (by omega), zput_e, zput_e, zs_miss (by omega), zs_miss (by omega), c5, nI_1, zb_s]
      · obtain ⟨g1, a1, a2, a3, a4⟩ := r_kindNext x (e.1.rp x ⟨hk, hl⟩)
        obtain ⟨g2, c1, c2, c3, c4⟩ := r_kindNext x (a3 (by rw [qk]; exact Option.some_ne_none _))
        have d3 := c3 (by rw [qu]; exact Option.some_ne_none _)
        rw [qk] at a1
        rw [qu] at c1
        have fp := a2.trans c2
        have ew := e.2.1.fp hV fp
        refine ⟨_, ?_, d3.set.set.set, ew.prom hV hp, (e.2.2.fp fp).set.set.set⟩
        have h1 := ew.2.2.2.1
        unfold fX12_readPromise
        rw [rl e, zb_s, zb_s, if_neg n8, a1]
        show zb2 (some (nI v, g1)) _ = _
        rw [zb2_s, zjoin_e, if_pos v0, c1]
        show zb2 (some (nI u, g2)) _ = _
        rw [zb2_s]
        dsimp only
        rw [if_pos u0]
        simp (disch := omega) only [nL_lt, nL_gt, nL_le, nL_ge, nL_eq, nL_qe, nI_ltI, nI_leI, nI_eq, nL_add, nL_dda, nI_add, nL_sub, pk_sub, nL_mul, nL_clamp, nI_cl, zchk_n, zchk_l, zb_s, zb2_s, zb3_s, zb3_e, zput_e, zjoin_e, zs_hit, zs_miss, nle_t, nle_f, nlt_t, nlt_f, neq_t, neq_f, ↓reduceIte, and_self, and_true, true_and, and_false, false_and, not_true_eq_false, not_false_eq_true, Nat.add_zero, h1, nI_1]
