/-! SPAN -/
theorem zsum_N {B : zB'} (h : zBW B) : ∃ N, N ≤ 192 ∧ zsum B = nI N := by
  have key : ∀ d, d ≤ B.1 → ∃ N, N ≤ 24 * d ∧ zfo (fun l a => a + nI (B.2.1 l).1) d 0 (0 : Int32) = nI N := by
    intro d
    induction d with
    | zero => intro _; exact ⟨0, Nat.le_refl _, rfl⟩
    | succ d ih =>
      intro hd
      obtain ⟨N, h1, h2⟩ := ih (by omega)
      have h3 := (h.2 d (by omega)).2.1
      refine ⟨N + (B.2.1 d).1, by omega, ?_⟩
      rw [zfo_s, h2]
      exact nI_add _ _
  obtain ⟨N, h1, h2⟩ := key B.1 (Nat.le_refl _)
  have h8 := h.1
  exact ⟨N, by omega, h2⟩
/-- the LINES of all after n weeks from a seed -/
def zspq (S : zS) (n i : Nat) : Int32 := zsum (zPn (zSL S) (zSslip S) n (zBseed (zSB S) (nI i))).1
def zspN (S : zS) (n : Nat) : Nat → Int32
  | 0 => 192
  | i + 1 => if zspq S n (i + 1) < zspN S n i then zspq S n (i + 1) else zspN S n i
def zspX (S : zS) (n : Nat) : Nat → Int32
  | 0 => 0
  | i + 1 => if zspX S n i < zspq S n (i + 1) then zspq S n (i + 1) else zspX S n i
theorem zspN_s {S : zS} {n i : Nat} : zspN S n (i + 1) = if zspq S n (i + 1) < zspN S n i then zspq S n (i + 1) else zspN S n i := rfl
theorem zspX_s {S : zS} {n i : Nat} : zspX S n (i + 1) = if zspX S n i < zspq S n (i + 1) then zspq S n (i + 1) else zspX S n i := rfl
theorem zspq_N {S : zS} (hS : zSW S) (n i : Nat) : ∃ N, N ≤ 192 ∧ zspq S n i = nI N := zsum_N (zPn_W hS.law (slip := zSslip S) (B := zBseed (zSB S) (nI i)) hS.2.2.1.1 n).1
theorem zspN_N {S : zS} (hS : zSW S) (n : Nat) : ∀ i, ∃ N, N ≤ 192 ∧ zspN S n i = nI N
  | 0 => ⟨192, Nat.le_refl _, rfl⟩
  | i + 1 => by
    rw [zspN_s]
    split
    · exact zspq_N hS n (i + 1)
    · exact zspN_N hS n i
theorem zspX_N {S : zS} (hS : zSW S) (n : Nat) : ∀ i, ∃ N, N ≤ 192 ∧ zspX S n i = nI N
  | 0 => ⟨0, by omega, rfl⟩
  | i + 1 => by
    rw [zspX_s]
    split
    · exact zspq_N hS n (i + 1)
    · exact zspX_N hS n i
theorem zspN_1 {S : zS} (hS : zSW S) (n : Nat) : zspN S n (0 + 1) = zspq S n (0 + 1) := by
  obtain ⟨N, h1, h2⟩ := zspq_N hS n (0 + 1)
  rw [zspN_s, h2]
  show (if nI N < 192 then nI N else 192) = nI N
  by_cases q : N = 192
  · subst q; decide
  · rw [if_pos (by rw [nL_lt (by omega) (by decide)]; omega)]
theorem zspX_1 {S : zS} (hS : zSW S) (n : Nat) : zspX S n (0 + 1) = zspq S n (0 + 1) := by
  obtain ⟨N, h1, h2⟩ := zspq_N hS n (0 + 1)
  rw [zspX_s, h2]
  show (if 0 < nI N then nI N else 0) = nI N
  by_cases q : N = 0
  · subst q; decide
  · rw [if_pos (by rw [nL_gt (by omega) (by decide)]; omega)]
theorem r_spanWeeks {S : zS} {G s : zM} {v2 b w : Int32} {K : zM → Option (Int32 × zM)} (hS : zSW S) (e : zRI S s) (f : zFT G s) {n : Nat} (hn : n < 100000) : ∃ s2, fX12_span_L47 (nI n) v2 b w K zFU 0 s = K s2 ∧ zRI (zSn S n) s2 ∧ zFT G s2 := by
  refine zL_I (fun m i (s : zM) => fX12_span_L47 (nI n) v2 b w K m (nI i) s) (fun i s => zRI (zSn S i) s ∧ zFT G s) n (fun x => ∃ s2, x = K s2 ∧ zRI (zSn S n) s2 ∧ zFT G s2) s hn ⟨by rw [zSn_0]; exact e, f⟩ (fun m i s hi hh => ?_) (fun m s hh => ?_)
  · obtain ⟨b1, b2⟩ := hh
    obtain ⟨s1, c1, c2, c3⟩ := r_nWeek hS b1
    refine ⟨s1, ⟨c2, b2.fo c3⟩, ?_⟩
    simp only [fX12_span_L47, c1]
    simp (disch := omega) only [nL_lt, nL_gt, nL_le, nL_ge, nL_eq, nL_qe, nI_ltI, nI_leI, nI_eq, nL_add, nL_dda, nI_add, nL_sub, pk_sub, nL_mul, nL_clamp, nI_cl, zchk_n, zchk_l, zb_s, zb2_s, zb3_s, zb3_e, zput_e, zjoin_e, zs_hit, zs_miss, nle_t, nle_f, nlt_t, nlt_f, neq_t, neq_f, ↓reduceIte, and_self, and_true, true_and, and_false, false_and, not_true_eq_false, not_false_eq_true, Nat.add_zero]
  · obtain ⟨b1, b2⟩ := hh
    refine ⟨s, ?_, b1, b2⟩
    simp only [fX12_span_L47]
    rw [if_pos (Int32.le_refl _)]
theorem m_span {S : zS} (hS : zSW S) (nv v2 : Int32) : zAsk [2] S (fX11_span nv v2) (fX12_span nv v2) := by
  rcases zix nv (n := 41) (by omega) with h | ⟨n, hn, rfl⟩
  · refine ⟨.error 2, fun g e => ⟨g, ?_, .refl⟩, fun g e => zRa_err2 (t := 1) (b := 0) ?_ (by decide)⟩
    · unfold fX11_span
      rw [show fX11_needAhead nv 0 g = _ from c_needAhead_no h (m := 0) (by omega), zb3_e]
    · unfold fX12_span
      simp only [zb_s, zb2_s, zb3_s, zb3_e, zjoin_e, zput_e, r_thr0, r_thr1, zi10, zi01, if_true, if_false, r_noAhead_no h]
  have h8 := hS.eight
  refine ⟨.ok (if v2 = 0 then zspN S n 6 else zspX S n 6), fun g e => ?_, fun g e => ?_⟩
  · have loop : ∃ g1, fX11_span_L15 (nI n) v2 (fun v3_5 v4_5 g5 => if v2 = 0 then some (.ok v3_5, g5) else some (.ok v4_5, g5)) zFU 192 0 1 g = some (.ok (if v2 = 0 then zspN S n 6 else zspX S n 6), g1) ∧ zFB 454 g g1 := by
      refine zL_I (fun m i (st : Int32 × Int32 × zM) => fX11_span_L15 (nI n) v2 (fun v3_5 v4_5 g5 => if v2 = 0 then some (.ok v3_5, g5) else some (.ok v4_5, g5)) m st.1 st.2.1 (nI (i + 1)) st.2.2) (fun i st => st.1 = zspN S n i ∧ st.2.1 = zspX S n i ∧ zFB 454 g st.2.2) 6 (fun x => ∃ g1, x = some (.ok (if v2 = 0 then zspN S n 6 else zspX S n 6), g1) ∧ zFB 454 g g1) (192, 0, g) (by omega) ⟨rfl, rfl, fun _ _ _ _ => rfl⟩ (fun m i st hi hh => ?_) (fun m st hh => ?_)
      · obtain ⟨x, y, s⟩ := st
        obtain ⟨b1, b2, b3⟩ := hh
        have b1 : x = zspN S n i := b1
        have b2 : y = zspX S n i := b2
        have b3' : zFB 454 g s := b3
        subst b1 b2
        clear b3
        have b3 : zFB 454 g s := b3'
        have eS : zCI S s := e.fr' hS (fun c h1 h2 h3 => b3 c h1 h2 (by omega)) (by rw [b3 481 (by omega) (by omega) (by omega)]) (by rw [b3 482 (by omega) (by omega) (by omega)])
        obtain ⟨s1, c1, c2, c3⟩ := c_tryWeeks hS eS (n := n) (by omega) (nI (i + 1))
        have hPn := zPn_W (slip := zSslip S) (B := zBseed (zSB S) (nI (i + 1))) hS.law hS.2.2.1.1 n
        have c4 : fX0_linesInAll 454 s1 = some (zspq S n (i + 1)) := c_linesInAll c2 hPn.1.1
        refine ⟨(zspN S n (i + 1), zspX S n (i + 1), s1), ⟨rfl, rfl, b3.trans c3⟩, ?_⟩
        simp only [fX11_span_L15, c1]
        simp (disch := omega) only [nL_lt, nL_gt, nL_le, nL_ge, nL_eq, nL_qe, nI_ltI, nI_leI, nI_eq, nL_add, nL_dda, nI_add, nL_sub, pk_sub, nL_mul, nL_clamp, nI_cl, zchk_n, zchk_l, zb_s, zb2_s, zb3_s, zb3_e, zput_e, zjoin_e, zs_hit, zs_miss, nle_t, nle_f, nlt_t, nlt_f, neq_t, neq_f, ↓reduceIte, and_self, and_true, true_and, and_false, false_and, not_true_eq_false, not_false_eq_true, Nat.add_zero, c4]
        rw [zspN_s, zspX_s]
      · obtain ⟨x, y, s⟩ := st
        obtain ⟨b1, b2, b3⟩ := hh
        have b1 : x = zspN S n 6 := b1
        have b2 : y = zspX S n 6 := b2
        have b3 : zFB 454 g s := b3
        refine ⟨s, ?_, b3⟩
        simp only [fX11_span_L15, b1, b2]
        simp (disch := omega) only [nL_lt, nL_gt, nL_le, nL_ge, nL_eq, nL_qe, nI_ltI, nI_leI, nI_eq, nL_add, nL_dda, nI_add, nL_sub, pk_sub, nL_mul, nL_clamp, nI_cl, zchk_n, zchk_l, zb_s, zb2_s, zb3_s, zb3_e, zput_e, zjoin_e, zs_hit, zs_miss, nle_t, nle_f, nlt_t, nlt_f, neq_t, neq_f, ↓reduceIte, and_self, and_true, true_and, and_false, false_and, not_true_eq_false, not_false_eq_true, Nat.add_zero]
        by_cases q : v2 = 0
        · rw [if_pos q, if_pos q]
        · rw [if_neg q, if_neg q]
    obtain ⟨g1, a1, a3⟩ := loop
    refine ⟨g1, ?_, fun c h1 h2 h3 => a3 c h1 h2 (by omega), by rw [a3 481 (by omega) (by omega) (by omega)], by rw [a3 482 (by omega) (by omega) (by omega)]⟩
    unfold fX11_span
    rw [show fX11_needAhead (nI n) 0 g = _ from c_needAhead (m := 0) hn (by omega), zb3_s]
    exact a1
  · have e0 := e.thr hS 0
    obtain ⟨g1, a1, a2, a3⟩ := r_keepsAll (g := zset g 493 0 0)
    have main : ∃ g2, fX12_span_L28 (nI n) v2 zFU (-1) 1 g1 = some (if v2 = 0 then zspN S n 6 else zspX S n 6, g2) ∧ zFT (zset g 493 0 0) g2 ∧ ∀ k, g2 494 k = (zset g 493 0 0) 494 k := by
      refine zL_I (fun m i (st : Int32 × zM) => fX12_span_L28 (nI n) v2 m st.1 (nI (i + 1)) st.2) (fun i st => st.1 = (if i = 0 then -1 else if v2 = 0 then zspN S n i else zspX S n i) ∧ zFT (zset g 493 0 0) st.2 ∧ ∀ k, st.2 494 k = (zset g 493 0 0) 494 k) 6 (fun x => ∃ g2, x = some (if v2 = 0 then zspN S n 6 else zspX S n 6, g2) ∧ zFT (zset g 493 0 0) g2 ∧ ∀ k, g2 494 k = (zset g 493 0 0) 494 k) (-1, g1) (by omega) ⟨(if_pos rfl).symm, a2, fun k => by show g1 494 k = _; rw [a3 494 (by omega)]⟩ (fun m i st hi hh => ?_) (fun m st hh => ?_)
      · obtain ⟨x, s⟩ := st
        obtain ⟨b1, b2, b3⟩ := hh
        have b1 : x = (if i = 0 then -1 else if v2 = 0 then zspN S n i else zspX S n i) := b1
        have b2 : zFT (zset g 493 0 0) s := b2
        have b3 : ∀ k, s 494 k = (zset g 493 0 0) 494 k := b3
        have eS : zRI S s := e0.fr hS (b2.fr b3)
        have hSs : zSW (zSset S (zBseed (zSB S) (nI (i + 1)))) := zSset_W hS hS.2.2.1.1
        have fO : zFO s (zset s 494 7 (nI (i + 1))) := ⟨fun c _ h _ _ => zs_cell h, fun k _ => by rw [zs_cell (by omega)], fun k hk => zs_miss (by omega), fun k _ _ _ _ h => zs_miss (by omega)⟩
        have e1 : zRI (zSset S (zBseed (zSB S) (nI (i + 1)))) (zset s 494 7 (nI (i + 1))) := eS.bag hS fO (zRB.seed eS.2.2.2.1.1 _)
        have hPn := zPn_W (slip := zSslip S) (B := zBseed (zSB S) (nI (i + 1))) hS.law hS.2.2.1.1 n
        have step : ∃ s3, fX12_span_L28 (nI n) v2 (m + 1) x (nI (i + 1)) s = fX12_span_L28 (nI n) v2 m (if v2 = 0 then zspN S n (i + 1) else zspX S n (i + 1)) (nI (i + 1 + 1)) s3 ∧ zFT (zset g 493 0 0) s3 ∧ ∀ k, s3 494 k = (zset g 493 0 0) 494 k := by
          rw [fX12_span_L28]
          obtain ⟨s2, c1, c2, c3⟩ := r_spanWeeks (v2 := v2) (b := x) (w := nI (i + 1)) (K := fun g11 => zb (fX12_allLines g11) (fun r_12 => zb (fX12_bringsBack g11) (fun g13 => if 0 ≤ x then if v2 = 0 then fX12_span_L28 (nI n) v2 m (if r_12 < x then r_12 else x) (nI (i + 1) + 1) g13 else fX12_span_L28 (nI n) v2 m (if x < r_12 then r_12 else x) (nI (i + 1) + 1) g13 else fX12_span_L28 (nI n) v2 m r_12 (nI (i + 1) + 1) g13))) hSs e1 (b2.fo fO) (n := n) (by omega)
          obtain ⟨s3, d1, d2, d3, d4⟩ := r_bringsBack c3
          have al : fX12_allLines s2 = some (zspq S n (i + 1)) := (r_allLines (B := zSB (zSn (zSset S (zBseed (zSB S) (nI (i + 1)))) n)) c2.2.2.2.1.1 hPn.1.1).trans rfl
          refine ⟨s3, ?_, d2, d3⟩
          rw [if_neg (by rw [nL_gt (by omega) (by decide)]; omega), zchk_l (by decide) (by decide), zput_e, nL_clamp (by decide)]
          refine c1.trans ?_
          simp only [al, d1, zb_s, nL_add]
          by_cases q : i = 0
          · subst q
            rw [if_pos rfl] at b1
            rw [b1, if_neg (by decide), zspN_1 hS, zspX_1 hS]
            by_cases q2 : v2 = 0
            · rw [if_pos q2]
            · rw [if_neg q2]
          · rw [if_neg q] at b1
            by_cases q2 : v2 = 0
            · rw [if_pos q2] at b1
              obtain ⟨M, m1, m2⟩ := zspN_N hS n i
              rw [b1, if_pos (by rw [m2, nL_ge (by omega) (by decide)]; omega), if_pos q2, if_pos q2, ← zspN_s]
            · rw [if_neg q2] at b1
              obtain ⟨M, m1, m2⟩ := zspX_N hS n i
              rw [b1, if_pos (by rw [m2, nL_ge (by omega) (by decide)]; omega), if_neg q2, if_neg q2, ← zspX_s]
        obtain ⟨s3, c1, c2, c3⟩ := step
        exact ⟨(if v2 = 0 then zspN S n (i + 1) else zspX S n (i + 1), s3), ⟨(if_neg (by omega)).symm, c2, c3⟩, c1⟩
      · obtain ⟨x, s⟩ := st
        obtain ⟨b1, b2, b3⟩ := hh
        have b1 : x = (if v2 = 0 then zspN S n 6 else zspX S n 6) := b1.trans (if_neg (by omega))
        refine ⟨s, ?_, b2, b3⟩
        simp only [fX12_span_L28]
        rw [if_pos (by rw [nL_gt (by omega) (by decide)]; omega), b1]
    obtain ⟨g2, b1, b2, b3⟩ := main
    refine ⟨_, g2, ?_, zFR.thr.trans (b2.fr b3), by rw [b2.2.1 0 (by omega)]; simp (disch := omega) only [nL_lt, nL_gt, nL_le, nL_ge, nL_eq, nL_qe, nI_ltI, nI_leI, nI_eq, nL_add, nL_dda, nI_add, nL_sub, pk_sub, nL_mul, nL_clamp, nI_cl, zchk_n, zchk_l, zb_s, zb2_s, zb3_s, zb3_e, zput_e, zjoin_e, zs_hit, zs_miss, nle_t, nle_f, nlt_t, nlt_f, neq_t, neq_f, ↓reduceIte, and_self, and_true, true_and, and_false, false_and, not_true_eq_false, not_false_eq_true, Nat.add_zero], rfl⟩
    unfold fX12_span
    simp only [zb_s, zb2_s, zb3_s, zb3_e, zjoin_e, zput_e, r_thr0, r_thr1, zi10, zi01, if_true, if_false, r_noAhead hn, a1]
    exact b1
