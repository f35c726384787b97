/-! what stands between and/or in a text of THE LAW -/
theorem zKR.dep {g0 g : zM} {n N d k : Nat} {v : Nat} {b : Nat → Nat} {C : List Nat} (e : zKR g0 n b N C d k g) : zKR g0 n b N C v k (zset g 493 13 (nI v)) := ⟨e.1.fr (zs_miss (by omega)) (zs_miss (by omega)) (zs_cell (by omega)), e.2.1.fr (zs_miss (by omega)) (zs_cell (by omega)), zs_hit ⟨rfl, rfl⟩, fun c h1 h2 => by rw [zs_cell h1]; exact e.2.2.2.1 c h1 h2, fun j h1 h2 h3 h4 => by rw [zs_miss (by omega)]; exact e.2.2.2.2.1 j h1 h2 h3 h4, fun j h => by rw [zs_cell (by omega)]; exact e.2.2.2.2.2 j h⟩
/-- hot, winter -/
theorem r_tag {g0 g : zM} {n N d k : Nat} {b : Nat → Nat} {C : List Nat} (x : zTx n b N) (e : zKR g0 n b N C d k g) (hC : C.length < k) : (zck b n k = 1000 ∨ zck b n k = 1001 → ∃ g1, fX12_readTag g = some (1, g1) ∧ zKR g0 n b N (C ++ [zck b n k]) d (k + 1) g1) ∧ (¬ (zck b n k = 1000 ∨ zck b n k = 1001) → ∃ g1, fX12_readTag g = some (0, g1) ∧ zKR g0 n b N C d k g1) := by
  have hk := e.1.2.1
  have hN := x.le
  have h4 := x.b400
  obtain ⟨g1, a1, a2, a3⟩ := r_lp x e.1
  have e1 : ∀ {k'}, zRP g1 n b N k' → zKR g0 n b N C d k' g1 := fun h => e.fp a2 h
  unfold fX12_readTag
  rw [a1, zb_s, r_iw x a3 s26, zb_s, zjoin_e]
  by_cases h0 : zck b n k = 1000 + 0
  · obtain ⟨g2, c1, c2⟩ := r_emit (e1 (a3.rp x (zck_let x hk (by omega) h0))) (by omega) (zck b n k)
    rw [if_pos h0, if_neg (by decide)]
    refine ⟨fun _ => ⟨g2, ?_, c2⟩, fun h => absurd (Or.inl (by omega)) h⟩
    rw [h0] at c1
    dsimp only
    rw [if_neg (by decide), show fX12_emits 6 0 g1 = some g2 from c1, zb_s, if_neg (by decide)]
  rw [if_neg h0, if_pos rfl, r_iw x a3 s32, zb_s]
  by_cases h1 : zck b n k = 1000 + 1
  · obtain ⟨g2, c1, c2⟩ := r_emit (e1 (a3.rp x (zck_let x hk (by omega) h1))) (by omega) (zck b n k)
    rw [if_pos h1, if_neg (by decide)]
    refine ⟨fun _ => ⟨g2, ?_, c2⟩, fun h => absurd (Or.inr (by omega)) h⟩
    rw [h1] at c1
    dsimp only
    rw [if_neg (by decide), show fX12_emits 7 0 g1 = some g2 from c1, zb_s, if_neg (by decide)]
  rw [if_neg h1, if_pos rfl]
  refine ⟨fun h => by omega, fun _ => ⟨zset g1 493 10 (nI (zT b n k)), ?_, ?_⟩⟩
  · dsimp only
    rw [if_pos (by decide), zput_e, if_pos (by decide), a3.2.2.1]
  · exact e.fp (a2.trans .set) (.at x (a3.1.fp .set) hk (zs_hit ⟨rfl, rfl⟩))
theorem zcmp {c : Nat} (h : c = 1160 ∨ c = 1162) (s : List Bool) : ztc1 c (false :: false :: s) = some (true :: s) := by
  rcases h with rfl | rfl <;> rfl
/-- a comparison -/
theorem p_cmp {n N k d : Nat} {b : Nat → Nat} {C : List Nat} (x : zTx n b N) (hk : k ≤ N) (hC : C.length < k) : zKs n b N k C d zPt (fun g => zb2 (fX2_readSum g) (fun r_14 g14 => if r_14 = 0 then some (0, g14) else zb (fX9_code 434 g14) (fun r_16 => zjoin (zb (fX9_step 434 g14) (fun g18 => zb2 (fX2_readSum g18) (fun r_19 g19 => if r_19 = 0 then some (0, g19) else zb (fX1_addCode 439 r_16 g19) (fun g21 => some (1, g21)))) : Option (Int32 × zM)) (fun k117 => if r_16 = 1160 then k117 else if r_16 = 1162 then k117 else zb2 (fX9_fail 434 g14) (fun r_24 g24 => zbo r_24 (some (r_24, g24))))))) (fun g => zb2 (fX12_readSum g) (fun r_7 g7 => if r_7 = 0 then some (0, g7) else zb2 (fX12_sign 60 g7) (fun r_9 g9 => zjoin (fun g10 => zb2 (fX12_readSum g10) (fun r_11 g11 => if r_11 = 0 then some (0, g11) else if r_9 = 0 then zb (fX12_emits 11 0 g11) (fun g14 => some (1, g14)) else zb (fX12_emits 10 0 g11) (fun g15 => some (1, g15))) : zM → Option (Int32 × zM)) (fun k152 => if r_9 = 0 then zb2 (fX12_sign 62 g9) (fun r_17 g17 => if r_17 = 0 then some (0, g17) else k152 g17) else k152 g9)))) := by
  have h4 := x.b400
  have hN := x.le
  obtain ⟨o, l1, l2, l3⟩ := p_sum x hk hC (d := d)
  cases o with
  | error t =>
    refine ⟨.error t, .err, fun g0 g e => ?_, fun g0 g e => ?_⟩
    · obtain ⟨g1, b1, b2, b3⟩ := l2 g0 g e
      refine ⟨g1, ?_, b2, b3⟩
      dsimp only
      rw [b1, zb2_s, if_pos rfl]
    · obtain ⟨g1, b1, b2, b3⟩ := l3 g0 g e
      refine ⟨g1, ?_, b2, b3⟩
      dsimp only
      rw [b1, zb2_s, if_pos rfl]
  | ok q =>
    obtain ⟨k1, l⟩ := q
    obtain ⟨w1, w2, w3⟩ := l1 (k1, l) rfl
    have w1 : k1 ≤ N := w1
    have w2 : l.length + k ≤ k1 := w2
    have w3 : ∀ s, ztc l s = some (false :: s) := w3
    have hb := zcd_big x w1
    by_cases hc : zck b n k1 = 1160 ∨ zck b n k1 = 1162
    case neg =>
      refine ⟨.error (zT b n k1), .err, fun g0 g e => ?_, fun g0 g e => ?_⟩
      · obtain ⟨g1, b1, b2⟩ := l2 g0 g e
        have b2 : zKC g0 n b N (C ++ l) k1 g1 := b2
        refine ⟨_, ?_, zs_hit ⟨rfl, rfl⟩, b2.er⟩
        dsimp only
        rw [b1, zb2_s, if_neg (by decide), c_code x b2.1, zb_s, zjoin_e, if_neg (by rw [nL_eq (by omega) (by decide)]; exact fun h => hc (Or.inl h)), if_neg (by rw [nL_eq (by omega) (by decide)]; exact fun h => hc (Or.inr h)), c_fail x b2.1, zb2_s, zbo_0]
      · obtain ⟨g1, b1, b2⟩ := l3 g0 g e
        have b2 : zKR g0 n b N (C ++ l) d k1 g1 := b2
        obtain ⟨g2, c1, c2, c3, c4, c5⟩ := r_sign x b2.1 (c := 60) (by decide) (by omega)
        have n1 : ¬ zck b n k1 = 1100 + 60 := fun h => hc (Or.inl h)
        have n2 : ¬ zck b n k1 = 1100 + 62 := fun h => hc (Or.inr h)
        obtain ⟨g3, d1, d2, d3, d4, d5⟩ := r_sign x (c4 n1) (c := 62) (by decide) (by omega)
        rw [if_neg n1] at c1
        rw [if_neg n2] at d1
        refine ⟨g3, ?_, d5, (b2.2.2.2.fp c2).fp d2⟩
        dsimp only
        rw [b1, zb2_s, if_neg (by decide), show fX12_sign 60 g1 = _ from c1, zb2_s, zjoin_e, if_pos rfl, show fX12_sign 62 g2 = _ from d1, zb2_s, if_pos rfl]
    have hk1 : k1 < N := zck_lt x w1 (by omega)
    obtain ⟨o2, m1, m2, m3⟩ := p_sum (d := d) x (show k1 + 1 ≤ N from hk1) (C := C ++ l) (by rw [List.length_append]; omega)
    have goC : ∀ g0 g, zKC g0 n b N C k g → ∃ g1, zKC g0 n b N (C ++ l) (k1 + 1) g1 ∧ zb2 (fX2_readSum g) (fun r_14 g14 => if r_14 = 0 then some (0, g14) else zb (fX9_code 434 g14) (fun r_16 => zjoin (zb (fX9_step 434 g14) (fun g18 => zb2 (fX2_readSum g18) (fun r_19 g19 => if r_19 = 0 then some (0, g19) else zb (fX1_addCode 439 r_16 g19) (fun g21 => some (1, g21)))) : Option (Int32 × zM)) (fun k117 => if r_16 = 1160 then k117 else if r_16 = 1162 then k117 else zb2 (fX9_fail 434 g14) (fun r_24 g24 => zbo r_24 (some (r_24, g24)))))) = zb2 (fX2_readSum g1) (fun r_19 g19 => if r_19 = 0 then some (0, g19) else zb (fX1_addCode 439 (nI (zck b n k1)) g19) (fun g21 => some (1, g21))) := by
      intro g0 g e
      obtain ⟨g1, b1, b2⟩ := l2 g0 g e
      have b2 : zKC g0 n b N (C ++ l) k1 g1 := b2
      refine ⟨_, b2.go hk1, ?_⟩
      rw [b1, zb2_s, if_neg (by decide), c_code x b2.1, zb_s, zjoin_e, c_stp x b2.1 hk1, zb_s]
      rcases hc with h | h
      · rw [if_pos (by rw [h]; rfl)]
      · rw [if_neg (by rw [h]; decide), if_pos (by rw [h]; rfl)]
    have goR : ∀ g0 g, zKR g0 n b N C d k g → ∃ g1, zKR g0 n b N (C ++ l) d (k1 + 1) g1 ∧ zb2 (fX12_readSum g) (fun r_7 g7 => if r_7 = 0 then some (0, g7) else zb2 (fX12_sign 60 g7) (fun r_9 g9 => zjoin (fun g10 => zb2 (fX12_readSum g10) (fun r_11 g11 => if r_11 = 0 then some (0, g11) else if r_9 = 0 then zb (fX12_emits 11 0 g11) (fun g14 => some (1, g14)) else zb (fX12_emits 10 0 g11) (fun g15 => some (1, g15))) : zM → Option (Int32 × zM)) (fun k152 => if r_9 = 0 then zb2 (fX12_sign 62 g9) (fun r_17 g17 => if r_17 = 0 then some (0, g17) else k152 g17) else k152 g9))) = zb2 (fX12_readSum g1) (fun r_11 g11 => if r_11 = 0 then some (0, g11) else zb (fX12_emits (nI (zen (zck b n k1))) (nI (zem (zck b n k1))) g11) (fun g14 => some (1, g14))) := by
      intro g0 g e
      obtain ⟨g1, b1, b2⟩ := l3 g0 g e
      have b2 : zKR g0 n b N (C ++ l) d k1 g1 := b2
      obtain ⟨g2, c1, c2, c3, c4, c5⟩ := r_sign x b2.1 (c := 60) (by decide) (by omega)
      rw [b1, zb2_s, if_neg (by decide), show fX12_sign 60 g1 = _ from c1, zb2_s, zjoin_e]
      rcases hc with h | h
      · have n1 : zck b n k1 = 1100 + 60 := h
        refine ⟨g2, b2.fp c2 (c3 n1), ?_⟩
        rw [if_pos n1, if_neg (by decide), h]
        rfl
      · have n1 : ¬ zck b n k1 = 1100 + 60 := by omega
        have n2 : zck b n k1 = 1100 + 62 := h
        obtain ⟨g3, d1, d2, d3, d4, d5⟩ := r_sign x (c4 n1) (c := 62) (by decide) (by omega)
        refine ⟨g3, b2.fp (c2.trans d2) (d3 n2), ?_⟩
        rw [if_neg n1, if_pos rfl, show fX12_sign 62 g2 = _ from d1, if_pos n2, zb2_s, if_neg (by decide), h]
        rfl
    cases o2 with
    | error t =>
      refine ⟨.error t, .err, fun g0 g e => ?_, fun g0 g e => ?_⟩
      · obtain ⟨g1, b1, b2⟩ := goC g0 g e
        obtain ⟨g2, c1, c2, c3⟩ := m2 g0 g1 b1
        refine ⟨g2, ?_, c2, c3⟩
        dsimp only
        rw [b2, c1, zb2_s, if_pos rfl]
      · obtain ⟨g1, b1, b2⟩ := goR g0 g e
        obtain ⟨g2, c1, c2, c3⟩ := m3 g0 g1 b1
        refine ⟨g2, ?_, c2, c3⟩
        dsimp only
        rw [b2, c1, zb2_s, if_pos rfl]
    | ok q =>
      obtain ⟨k2, r⟩ := q
      obtain ⟨v1, v2, v3⟩ := m1 (k2, r) rfl
      have v1 : k2 ≤ N := v1
      have v2 : r.length + (k1 + 1) ≤ k2 := v2
      have v3 : ∀ s, ztc r s = some (false :: s) := v3
      have hl : (C ++ l ++ r).length < 400 := by rw [List.length_append, List.length_append]; omega
      refine ⟨.ok (k2, l ++ r ++ [zck b n k1]), .ok v1 (by rw [List.length_append, List.length_append]; show l.length + r.length + 1 + k ≤ k2; omega) (fun s => ?_), fun g0 g e => ?_, fun g0 g e => ?_⟩
      · rw [List.append_assoc, ztc_app _ _ _ _ (w3 s), ztc_app _ _ _ _ (v3 _)]
        exact ztc_one (zcmp hc s)
      · obtain ⟨g1, b1, b2⟩ := goC g0 g e
        obtain ⟨g2, c1, c2⟩ := m2 g0 g1 b1
        have c2 : zKC g0 n b N (C ++ l ++ r) k2 g2 := c2
        obtain ⟨g3, d1, d2⟩ := c_emit c2 hl (zck b n k1)
        refine ⟨g3, ?_, ?_⟩
        · dsimp only
          rw [b2, c1, zb2_s, if_neg (by decide), d1, zb_s]
        · show zKC g0 n b N (C ++ (l ++ r ++ [zck b n k1])) k2 g3
          rw [← List.append_assoc, ← List.append_assoc]
          exact d2
      · obtain ⟨g1, b1, b2⟩ := goR g0 g e
        obtain ⟨g2, c1, c2⟩ := m3 g0 g1 b1
        have c2 : zKR g0 n b N (C ++ l ++ r) d k2 g2 := c2
        obtain ⟨g3, d1, d2⟩ := r_emit c2 hl (zck b n k1)
        refine ⟨g3, ?_, ?_⟩
        · dsimp only
          rw [b2, c1, zb2_s, if_neg (by decide), d1, zb_s]
        · show zKR g0 n b N (C ++ (l ++ r ++ [zck b n k1])) d k2 g3
          rw [← List.append_assoc, ← List.append_assoc]
          exact d2
