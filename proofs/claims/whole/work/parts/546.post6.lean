/-! the text of THE POST -/
def zLC (g0 : zM) : Except Nat (Nat × zWd) → Option (Int32 × zM) → Prop
  | .ok q, x => ∃ g1, x = some (1, g1) ∧ zCW g1 396 q.2 ∧ g1 391 7 = -1 ∧ zPcf g0 g1
  | .error t, x => ∃ g1, x = some (0, g1) ∧ g1 391 7 = nI t ∧ zPcf g0 g1
def zLR (g0 : zM) : Except Nat (Nat × zWd) → Option (Int32 × zM) → Prop
  | .ok q, x => ∃ g1, x = some (nI q.1, g1) ∧ zRW g1 494 q.2 ∧ zPrf g0 g1
  | .error t, x => ∃ g1, x = some (-1, g1) ∧ g1 493 12 = nI t ∧ zPrf g0 g1
def zLG (D : zWd) (o : Except Nat (Nat × zWd)) : Prop := ∀ q, o = .ok q → zVW q.2 ∧ q.1 ≤ 14 ∧ q.2.2.2.2.2.2.2.2 = D.2.2.2.2.2.2.2
/-- the reference's line: letters passed, then read -/
theorem r_line {g0 g : zM} {n N k : Nat} {b : Nat → Nat} {D : zWd} (x : zTx n b N) (hV : zVW D) (e : zPR g0 n b N D k g) {v : Nat} (hv : v ≤ 14) : ∃ g1, zPT g0 n b N D k g1 ∧ fX12_readLine 1 (nI v) g = if v = 14 then some (0, g1) else zb2 (fX12_readPostLine g1) (fun r_7 g7 => if r_7 = 0 then some (0, g7) else some (1, g7)) := by
  obtain ⟨g1, a1, a2, a3⟩ := r_lp x e.1
  refine ⟨g1, ⟨a3, e.2.1.fp hV a2, e.2.2.fp a2⟩, ?_⟩
  unfold fX12_readLine
  rw [a1, zb_s, zjoin_e, if_neg (by decide)]
  dsimp only
  by_cases q : v = 14
  · rw [if_pos q, if_pos (by rw [nL_ge (by omega) (by decide)]; omega)]
  · rw [if_neg q, if_neg (by rw [nL_ge (by omega) (by decide)]; omega), if_neg (by decide)]
theorem p_loop {n N : Nat} {b : Nat → Nat} (x : zTx n b N) : ∀ d v k D, v + d = 14 → zVW D → k ≤ N → ∃ o, zLG D o ∧ (∀ g0 g m, d < m → zPC g0 n b N D k g → zLC g0 o (fX8_readText_PostReader_L27 14 (fun g11 => zb2 (fX9_fail 391 g11) (fun r_12 g12 => zbo r_12 (some (r_12, g12)))) m (nI v) g)) ∧ ∀ g0 g m, d < m → zPR g0 n b N D k g → zLR g0 o (fX12_readAll_L28 1 (fun v2_12 g12 => some (v2_12 + 1, g12)) m (nI v) g) := by
  intro d
  induction d with
  | zero =>
    intro v k D hv hV hk
    obtain rfl : v = 14 := hv
    refine ⟨.error (zT b n k), fun q h => (nomatch h), fun g0 g m hm e => ?_, fun g0 g m hm e => ?_⟩
    · obtain ⟨m, rfl⟩ : ∃ j, m = j + 1 := ⟨m - 1, by omega⟩
      refine ⟨_, ?_, zs_hit ⟨rfl, rfl⟩, e.er⟩
      rw [fX8_readText_PostReader_L27, if_pos (by decide), c_fail x e.1, zb2_s, zbo_0]
    · obtain ⟨m, rfl⟩ : ∃ j, m = j + 1 := ⟨m - 1, by omega⟩
      obtain ⟨g1, a1, a2⟩ := r_line x hV e (v := 14) (Nat.le_refl _)
      refine ⟨g1, ?_, a1.1.2.2.1, a1.2.2⟩
      rw [fX12_readAll_L28, a2, if_pos rfl, zb2_s, if_pos rfl]
  | succ d ih =>
    intro v k D hv hV hk
    have hv14 : ¬ v = 14 := by omega
    have hcv : ¬ (14 : Int32) ≤ nI v := by rw [nL_ge (by omega) (by decide)]; omega
    obtain ⟨o, l1, l2, l3⟩ := p_line x hV hk (D := D)
    cases o with
    | error t =>
      refine ⟨.error t, fun q h => (nomatch h), fun g0 g m hm e => ?_, fun g0 g m hm e => ?_⟩
      · obtain ⟨m, rfl⟩ : ∃ j, m = j + 1 := ⟨m - 1, by omega⟩
        obtain ⟨g1, b1, b2, b3⟩ := l2 g0 g e
        refine ⟨g1, ?_, b2, b3⟩
        rw [fX8_readText_PostReader_L27, if_neg hcv, b1, zb2_s, if_pos rfl]
      · obtain ⟨m, rfl⟩ : ∃ j, m = j + 1 := ⟨m - 1, by omega⟩
        obtain ⟨g1, a1, a2⟩ := r_line x hV e (v := v) (by omega)
        obtain ⟨g2, b1, b2, b3⟩ := l3 g0 g1 a1
        refine ⟨g2, ?_, b2, b3⟩
        rw [fX12_readAll_L28, a2, if_neg hv14, b1, zb2_s, if_pos rfl, zb2_s, if_pos rfl]
    | ok q =>
      obtain ⟨k', D'⟩ := q
      obtain ⟨w1, w2, w3, w4⟩ := l1 (k', D') rfl
      have w1 : zVW D' := w1
      have w2 : k < k' := w2
      have w3 : k' ≤ N := w3
      have hb := zcd_big x w3
      have cls : ∀ g0 g m, d + 1 < m → zPC g0 n b N D k g → ∃ g1, zPC g0 n b N D' k' g1 ∧ fX8_readText_PostReader_L27 14 (fun g11 => zb2 (fX9_fail 391 g11) (fun r_12 g12 => zbo r_12 (some (r_12, g12)))) m (nI v) g = if zck b n k' = 1021 then some (1, g1) else if zck b n k' = 1159 then fX8_readText_PostReader_L27 14 (fun g11 => zb2 (fX9_fail 391 g11) (fun r_12 g12 => zbo r_12 (some (r_12, g12)))) (m - 1) (nI (v + 1)) (zset g1 391 6 (nI (k' + 1))) else some (0, zset g1 391 7 (nI (zT b n k'))) := by
        intro g0 g m hm e
        obtain ⟨m, rfl⟩ : ∃ j, m = j + 1 := ⟨m - 1, by omega⟩
        obtain ⟨g1, b1, b2⟩ := l2 g0 g e
        refine ⟨g1, b2, ?_⟩
        have cp : fX9_pass 391 1159 g1 = _ := c_pass x b2.1 (c := 1159) (by omega) (by omega)
        rw [fX8_readText_PostReader_L27, if_neg hcv, b1, zb2_s, if_neg (by decide), c_code x b2.1, zb_s, cp]
        by_cases q : zck b n k' = 1021
        · rw [if_pos (by rw [show zck b n (k', D').1 = 1021 from q]; rfl), if_pos q]
        · rw [if_neg (by rw [nL_eq (by show zck b n k' < _; omega) (by decide)]; exact q), if_neg q]
          by_cases q2 : zck b n k' = 1159
          · rw [if_pos q2, zb2_s, if_neg (by decide), if_pos q2, nI_1]
            rfl
          · rw [if_neg q2, zb2_s, if_pos rfl, if_neg q2]
      have rls : ∀ g0 g m, d + 1 < m → zPR g0 n b N D k g → ∃ g1, zPR g0 n b N D' k' g1 ∧ g1 493 12 = nI (zT b n k') ∧ g1 493 10 = nI (zT b n k') ∧ fX12_readAll_L28 1 (fun v2_12 g12 => some (v2_12 + 1, g12)) m (nI v) g = if k' = N then some (nI (v + 1), g1) else if zck b n k' = 1159 then fX12_readAll_L28 1 (fun v2_12 g12 => some (v2_12 + 1, g12)) (m - 1) (nI (v + 1)) (zset g1 493 10 (nI (zT b n k' + 1))) else some (-1, g1) := by
        intro g0 g m hm e
        obtain ⟨m, rfl⟩ : ∃ j, m = j + 1 := ⟨m - 1, by omega⟩
        obtain ⟨g1, a1, a2⟩ := r_line x hV e (v := v) (by omega)
        obtain ⟨g2, b1, b2⟩ := l3 g0 g1 a1
        obtain ⟨g3, c1, c2, c3, c4, c5⟩ := r_bl x b2.1
        have h4 := x.b400
        have hT := x.le_n w3
        refine ⟨g3, ⟨.at x c3 w3 c4, b2.2.1.fp w1 c2, b2.2.2.fp c2⟩, c5, c4, ?_⟩
        have sg : fX12_isAt 59 59 g3 = _ := r_at x w3 c3 c4 (c := 59) (by decide) (by omega)
        rw [fX12_readAll_L28, a2, if_neg hv14, b1, zb2_s, if_neg (by decide), zb2_s, if_neg (by decide), c1, zb_s, c4, c3.1, sg]
        by_cases q : k' = N
        · rw [if_pos (by rw [show (k', D').1 = N from q, x.e]), if_pos q, nI_1]
        · have hT2 := x.lt k' (by omega)
          rw [if_neg (by rw [nI_eq (by show zT b n k' < _; omega) (by omega)]; show ¬ zT b n k' = n; omega), if_neg q, zb_s]
          by_cases q2 : zck b n k' = 1159
          · rw [if_pos q2, if_neg (by decide), zput_e, if_pos q2, nI_1, nI_1]
            rfl
          · rw [if_neg q2, if_pos rfl, if_neg q2]
      by_cases q : k' = N
      · have q1 : zck b n k' = 1021 := by rw [q]; exact zck_N x
        refine ⟨.ok (v + 1, D'), fun q h => ?_, fun g0 g m hm e => ?_, fun g0 g m hm e => ?_⟩
        · injection h with h
          subst h
          exact ⟨w1, by show v + 1 ≤ 14; omega, w4⟩
        · obtain ⟨g1, b1, b2⟩ := cls g0 g m hm e
          exact ⟨g1, b2.trans (if_pos q1), b1.2.1, b1.1.1.2.1.2, b1.2.2⟩
        · obtain ⟨g1, b1, b2, b3, b4⟩ := rls g0 g m hm e
          exact ⟨g1, b4.trans (if_pos q), b1.2.1, b1.2.2⟩
      have q1 : zck b n k' ≠ 1021 := zcd_lt x (by omega)
      by_cases q2 : zck b n k' = 1159
      · have hs := (zck_sign x w3 (c := 59) (by decide)).mp q2
        obtain ⟨o, i1, i2, i3⟩ := ih (v + 1) (k' + 1) D' (by omega) w1 hs.1
        refine ⟨o, fun q h => ?_, fun g0 g m hm e => ?_, fun g0 g m hm e => ?_⟩
        · obtain ⟨j1, j2, j3⟩ := i1 q h
          exact ⟨j1, j2, j3.trans w4⟩
        · obtain ⟨g1, b1, b2⟩ := cls g0 g m hm e
          rw [if_neg q1, if_pos q2] at b2
          rw [b2]
          exact i2 g0 _ (m - 1) (by omega) (b1.go w1 hs.1)
        · obtain ⟨g1, b1, b2, b3, b4⟩ := rls g0 g m hm e
          rw [if_neg q, if_pos q2] at b4
          rw [b4]
          have fp : zFP g1 (zset g1 493 10 (nI (zT b n k' + 1))) := .set
          refine i3 g0 _ (m - 1) (by omega) ⟨.nx x (b1.1.1.fp fp) hs.1 ?_, b1.2.1.fp w1 fp, b1.2.2.fp fp⟩
          rw [zs_hit ⟨rfl, rfl⟩]
          unfold zte
          rw [if_pos (by rw [hs.2]; decide)]
      · refine ⟨.error (zT b n k'), fun q h => (nomatch h), fun g0 g m hm e => ?_, fun g0 g m hm e => ?_⟩
        · obtain ⟨g1, b1, b2⟩ := cls g0 g m hm e
          rw [if_neg q1, if_neg q2] at b2
          exact ⟨_, b2, zs_hit ⟨rfl, rfl⟩, b1.er⟩
        · obtain ⟨g1, b1, b2, b3, b4⟩ := rls g0 g m hm e
          rw [if_neg q, if_neg q2] at b4
          exact ⟨g1, b4, b2, b1.2.2⟩
