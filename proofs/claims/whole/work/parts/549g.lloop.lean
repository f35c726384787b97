/-! the text of THE LAW -/
def zMC (g0 : zM) : Except Nat yQ → Option (Int32 × zM) → Prop
  | .ok q, x => ∃ g1, x = some (1, g1) ∧ yQc g1 q ∧ g1 434 7 = -1 ∧ zQf g0 g1
  | .error t, x => ∃ g1, x = some (0, g1) ∧ g1 434 7 = nI t ∧ zQf g0 g1
def zMR (g0 : zM) : Except Nat yQ → Option (Int32 × zM) → Prop
  | .ok q, x => ∃ g1, x = some (nI q.1, g1) ∧ zQr g1 q ∧ zQrf g0 g1
  | .error t, x => ∃ g1, x = some (-1, g1) ∧ g1 493 12 = nI t ∧ zQrf g0 g1
theorem r_lline {g0 g : zM} {n N k : Nat} {b : Nat → Nat} {Q : yQ} (x : zTx n b N) (e : zQR g0 n b N Q k g) {v : Nat} (hv : v ≤ 12) : ∃ g1, zQT g0 n b N Q k g1 ∧ fX12_readLine 0 (nI v) g = if v = 12 then some (0, g1) else zb2 (fX12_readLawLine (nI v) g1) (fun r_5 g5 => if r_5 = 0 then some (0, g5) else some (1, g5)) := by
  obtain ⟨g1, a1, a2, a3⟩ := r_lp x e.1
  refine ⟨g1, ⟨a3, e.2.1.fp a2, e.2.2.fp a2⟩, ?_⟩
  unfold fX12_readLine
  rw [a1, zb_s, zjoin_e, if_pos rfl]
  dsimp only
  by_cases q : v = 12
  · rw [if_pos q, if_pos (by rw [nL_ge (by omega) (by decide)]; omega)]
  · rw [if_neg q, if_neg (by rw [nL_ge (by omega) (by decide)]; omega), if_pos rfl]
theorem q_loop {n N : Nat} {b : Nat → Nat} (x : zTx n b N) : ∀ d k (Q : yQ), Q.1 + d = 12 → zQok Q → k ≤ N → Q.2.2.2.2.length ≤ k → ∃ o, (∀ q, o = .ok q → zQok q) ∧ (∀ g0 g m, d < m → zQC g0 n b N Q k g → zMC g0 o (fX8_readText_LawReader_L27 12 (fun g11 => zb2 (fX9_fail 434 g11) (fun r_12 g12 => zbo r_12 (some (r_12, g12)))) m (nI Q.1) g)) ∧ ∀ g0 g m, d < m → zQR g0 n b N Q k g → zMR g0 o (fX12_readAll_L28 0 (fun v2_12 g12 => some (v2_12 + 1, g12)) m (nI Q.1) g) := by
  intro d
  induction d with
  | zero =>
    intro k Q hv hQ hk hC
    have hv : Q.1 = 12 := hv
    refine ⟨.error (zT b n k), fun q h => (nomatch h), fun g0 g m hm e => ?_, fun g0 g m hm e => ?_⟩
    · obtain ⟨m, rfl⟩ : ∃ j, m = j + 1 := ⟨m - 1, by omega⟩
      refine ⟨_, ?_, zs_hit ⟨rfl, rfl⟩, e.2.2.set (by omega) (by omega) (by omega)⟩
      rw [fX8_readText_LawReader_L27, hv, if_pos (by decide), c_fail x e.1, zb2_s, zbo_0]
    · obtain ⟨m, rfl⟩ : ∃ j, m = j + 1 := ⟨m - 1, by omega⟩
      obtain ⟨g1, a1, a2⟩ := r_lline x e (v := Q.1) (by omega)
      refine ⟨g1, ?_, a1.1.2.2.1, a1.2.2⟩
      rw [fX12_readAll_L28, a2, if_pos hv, zb2_s, if_pos rfl]
  | succ d ih =>
    intro k Q hv hQ hk hC
    have hv12 : ¬ Q.1 = 12 := by omega
    have hcv : ¬ (12 : Int32) ≤ nI Q.1 := by rw [nL_ge (by omega) (by decide)]; omega
    obtain ⟨o, l1, l2, l3⟩ := q_line x hQ (by omega) hk hC
    cases o with
    | error t =>
      refine ⟨.error t, fun q h => (nomatch h), fun g0 g m hm e => ?_, fun g0 g m hm e => ?_⟩
      · obtain ⟨m, rfl⟩ : ∃ j, m = j + 1 := ⟨m - 1, by omega⟩
        obtain ⟨g1, b1, b2, b3⟩ := l2 g0 g e
        refine ⟨g1, ?_, b2, b3⟩
        rw [fX8_readText_LawReader_L27, if_neg hcv, b1, zb2_s, if_pos rfl]
      · obtain ⟨m, rfl⟩ : ∃ j, m = j + 1 := ⟨m - 1, by omega⟩
        obtain ⟨g1, a1, a2⟩ := r_lline x e (v := Q.1) (by omega)
        obtain ⟨g2, b1, b2, b3⟩ := l3 g0 g1 a1
        refine ⟨g2, ?_, b2, b3⟩
        rw [fX12_readAll_L28, a2, if_neg hv12, b1, zb2_s, if_pos rfl, zb2_s, if_pos rfl]
    | ok q =>
      obtain ⟨k', D'⟩ := q
      obtain ⟨w1, w2, w3, w4, w5⟩ := l1 (k', D') rfl
      have w1 : zQok D' := w1
      have w2 : k < k' := w2
      have w3 : k' ≤ N := w3
      have w4 : D'.2.2.2.2.length ≤ k' := w4
      have w5 : D'.1 = Q.1 + 1 := w5
      have hb := zcd_big x w3
      have cls : ∀ g0 g m, d + 1 < m → zQC g0 n b N Q k g → ∃ g1, zQC g0 n b N D' k' g1 ∧ fX8_readText_LawReader_L27 12 (fun g11 => zb2 (fX9_fail 434 g11) (fun r_12 g12 => zbo r_12 (some (r_12, g12)))) m (nI Q.1) g = if zck b n k' = 1021 then some (1, g1) else if zck b n k' = 1159 then fX8_readText_LawReader_L27 12 (fun g11 => zb2 (fX9_fail 434 g11) (fun r_12 g12 => zbo r_12 (some (r_12, g12)))) (m - 1) (nI D'.1) (zset g1 434 6 (nI (k' + 1))) else some (0, zset g1 434 7 (nI (zT b n k'))) := by
        intro g0 g m hm e
        obtain ⟨m, rfl⟩ : ∃ j, m = j + 1 := ⟨m - 1, by omega⟩
        obtain ⟨g1, b1, b2⟩ := l2 g0 g e
        refine ⟨g1, b2, ?_⟩
        have cp : fX9_pass 434 1159 g1 = _ := c_pass x b2.1 (c := 1159) (by omega) (by omega)
        rw [fX8_readText_LawReader_L27, if_neg hcv, b1, zb2_s, if_neg (by decide), c_code x b2.1, zb_s, cp]
        by_cases q : zck b n k' = 1021
        · rw [if_pos (by rw [show zck b n (k', D').1 = 1021 from q]; rfl), if_pos q]
        · rw [if_neg (by rw [nL_eq (by show zck b n k' < _; omega) (by decide)]; exact q), if_neg q]
          by_cases q2 : zck b n k' = 1159
          · rw [if_pos q2, zb2_s, if_neg (by decide), if_pos q2, nI_1, w5]
            rfl
          · rw [if_neg q2, zb2_s, if_pos rfl, if_neg q2]
      have rls : ∀ g0 g m, d + 1 < m → zQR g0 n b N Q k g → ∃ g1, zQR g0 n b N D' k' g1 ∧ g1 493 12 = nI (zT b n k') ∧ g1 493 10 = nI (zT b n k') ∧ fX12_readAll_L28 0 (fun v2_12 g12 => some (v2_12 + 1, g12)) m (nI Q.1) g = if k' = N then some (nI D'.1, g1) else if zck b n k' = 1159 then fX12_readAll_L28 0 (fun v2_12 g12 => some (v2_12 + 1, g12)) (m - 1) (nI D'.1) (zset g1 493 10 (nI (zT b n k' + 1))) else some (-1, g1) := by
        intro g0 g m hm e
        obtain ⟨m, rfl⟩ : ∃ j, m = j + 1 := ⟨m - 1, by omega⟩
        obtain ⟨g1, a1, a2⟩ := r_lline x e (v := Q.1) (by omega)
        obtain ⟨g2, b1, b2⟩ := l3 g0 g1 a1
        obtain ⟨g3, c1, c2, c3, c4, c5⟩ := r_bl x b2.1
        have h4 := x.b400
        have hT := x.le_n w3
        refine ⟨g3, ⟨.at x c3 w3 c4, b2.2.1.fp c2, b2.2.2.fp c2⟩, c5, c4, ?_⟩
        have sg : fX12_isAt 59 59 g3 = _ := r_at x w3 c3 c4 (c := 59) (by decide) (by omega)
        rw [fX12_readAll_L28, a2, if_neg hv12, b1, zb2_s, if_neg (by decide), zb2_s, if_neg (by decide), c1, zb_s, c4, c3.1, sg]
        by_cases q : k' = N
        · rw [if_pos (by rw [show (k', D').1 = N from q, x.e]), if_pos q, nI_1, w5]
        · have hT2 := x.lt k' (by omega)
          rw [if_neg (by rw [nI_eq (by show zT b n k' < _; omega) (by omega)]; show ¬ zT b n k' = n; omega), if_neg q, zb_s]
          by_cases q2 : zck b n k' = 1159
          · rw [if_pos q2, if_neg (by decide), zput_e, if_pos q2, nI_1, nI_1, w5]
            rfl
          · rw [if_neg q2, if_pos rfl, if_neg q2]
      by_cases q : k' = N
      · have q1 : zck b n k' = 1021 := by rw [q]; exact zck_N x
        refine ⟨.ok D', fun q h => ?_, fun g0 g m hm e => ?_, fun g0 g m hm e => ?_⟩
        · injection h with h
          subst h
          exact w1
        · obtain ⟨g1, b1, b2⟩ := cls g0 g m hm e
          exact ⟨g1, b2.trans (if_pos q1), b1.2.1, b1.1.1.2.1.2, b1.2.2⟩
        · obtain ⟨g1, b1, b2, b3, b4⟩ := rls g0 g m hm e
          exact ⟨g1, b4.trans (if_pos q), b1.2.1, b1.2.2⟩
      have q1 : zck b n k' ≠ 1021 := zcd_lt x (by omega)
      by_cases q2 : zck b n k' = 1159
      · have hs := (zck_sign x w3 (c := 59) (by decide)).mp q2
        obtain ⟨o, i1, i2, i3⟩ := ih (k' + 1) D' (by omega) w1 hs.1 (by omega)
        refine ⟨o, i1, fun g0 g m hm e => ?_, fun g0 g m hm e => ?_⟩
        · obtain ⟨g1, b1, b2⟩ := cls g0 g m hm e
          rw [if_neg q1, if_pos q2] at b2
          rw [b2]
          exact i2 g0 _ (m - 1) (by omega) (b1.go hs.1)
        · obtain ⟨g1, b1, b2, b3, b4⟩ := rls g0 g m hm e
          rw [if_neg q, if_pos q2] at b4
          rw [b4]
          have fp : zFP g1 (zset g1 493 10 (nI (zT b n k' + 1))) := .set
          refine i3 g0 _ (m - 1) (by omega) ⟨.nx x (b1.1.1.fp fp) hs.1 ?_, b1.2.1.fp fp, b1.2.2.fp fp⟩
          rw [zs_hit ⟨rfl, rfl⟩]
          unfold zte
          rw [if_pos (by rw [hs.2]; decide)]
      · refine ⟨.error (zT b n k'), fun q h => (nomatch h), fun g0 g m hm e => ?_, fun g0 g m hm e => ?_⟩
        · obtain ⟨g1, b1, b2⟩ := cls g0 g m hm e
          rw [if_neg q1, if_neg q2] at b2
          exact ⟨_, b2, zs_hit ⟨rfl, rfl⟩, b1.2.2.set (by omega) (by omega) (by omega)⟩
        · obtain ⟨g1, b1, b2, b3, b4⟩ := rls g0 g m hm e
          rw [if_neg q, if_neg q2] at b4
          exact ⟨g1, b4, b2, b1.2.2⟩
def zQ0 : yQ := (0, (fun _ => 0), (fun _ => 0), (fun _ => 0), [])
theorem zQ0_ok : zQok zQ0 := ⟨⟨Nat.zero_le _, Nat.zero_le _, fun i hi => absurd hi (Nat.not_lt_zero _), fun q => nomatch q⟩, rfl⟩
theorem q_text {n N : Nat} {b : Nat → Nat} (x : zTx n b N) : ∃ o, (∀ q, o = .ok q → zQok q) ∧ (∀ g0 g, zQC g0 n b N zQ0 0 g → zMC g0 o (zb (fX9_code 434 g) (fun r_2 => if r_2 = 1021 then some (1, g) else fX8_readText_LawReader_L27 12 (fun g11 => zb2 (fX9_fail 434 g11) (fun r_12 g12 => zbo r_12 (some (r_12, g12)))) zFU 0 g))) ∧ ∀ g0 g, zQR g0 n b N zQ0 0 g → zMR g0 o (zb (fX12_blanks g) (fun g3 => if (g3 493 10) = (g3 493 11) then some (0, g3) else fX12_readAll_L28 0 (fun v2_12 g12 => some (v2_12 + 1, g12)) zFU 0 g3)) := by
  have h4 := x.b400
  have hb := zcd_big x (Nat.zero_le N)
  by_cases q : N = 0
  · have q1 : zck b n 0 = 1021 := by
      have := zck_N x
      rw [q] at this
      exact this
    have qT : zT b n 0 = n := by
      have := x.e
      rw [q] at this
      exact this
    refine ⟨.ok zQ0, fun q h => ?_, fun g0 g e => ?_, fun g0 g e => ?_⟩
    · injection h with h
      subst h
      exact zQ0_ok
    · refine ⟨g, ?_, e.2.1, e.1.1.2.1.2, e.2.2⟩
      rw [c_code x e.1, zb_s, q1, if_pos (by decide)]
    · obtain ⟨g3, c1, c2, c3, c4, c5⟩ := r_bl x e.1
      refine ⟨g3, ?_, e.2.1.fp c2, e.2.2.fp c2⟩
      rw [c1, zb_s, c4, c3.1, qT, if_pos rfl]
      rfl
  · have q1 : zck b n 0 ≠ 1021 := zcd_lt x (by omega)
    have hT := x.lt 0 (by omega)
    obtain ⟨o, l1, l2, l3⟩ := q_loop x 12 0 zQ0 rfl zQ0_ok (Nat.zero_le _) (Nat.le_refl _)
    refine ⟨o, l1, fun g0 g e => ?_, fun g0 g e => ?_⟩
    · rw [c_code x e.1, zb_s, if_neg (by rw [nL_eq (by omega) (by decide)]; exact q1)]
      exact l2 g0 g zFU (by unfold zFU; omega) e
    · obtain ⟨g3, c1, c2, c3, c4, c5⟩ := r_bl x e.1
      rw [c1, zb_s, c4, c3.1, if_neg (by rw [nI_eq (by omega) (by omega)]; omega)]
      exact l3 g0 g3 zFU (by unfold zFU; omega) ⟨.at x c3 (Nat.zero_le _) c4, e.2.1.fp c2, e.2.2.fp c2⟩
