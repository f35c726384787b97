/-! PRUNED, one LINE out, UNDONE -/
theorem zRM.setn {g : zM} {l : Nat} {L : zL} (e : zRM g 494 (36 + 53 * l) L) (hL : L.1 ≤ 24) (n : Nat) : zRM (zset g 494 (36 + 53 * l) (nI (L.1 - n))) 494 (36 + 53 * l) (zLsh L n) := by
  obtain ⟨m1, m2, m3, m4, m5, m6, m7⟩ := e
  refine ⟨zs_hit ⟨rfl, rfl⟩, fun i hi => ?_, fun i hi => ?_, ?_, ?_, ?_, ?_⟩
  · have hi' : i < L.1 - n := hi
    rw [zs_miss (by omega)]; exact m2 i (by omega)
  · have hi' : i < L.1 - n := hi
    rw [zs_miss (by omega)]; exact m3 i (by omega)
  · rw [zs_miss (by omega)]; exact m4
  · rw [zs_miss (by omega)]; exact m5
  · rw [zs_miss (by omega)]; exact m6
  · rw [zs_miss (by omega)]; exact m7
theorem m_prune {S : zS} (hS : zSW S) (v w : Int32) : zDo [1, 2] S (fX11_prune v w) (fX12_prune v w) := by
  have h8 := hS.eight
  rcases zix v (zsz hS) with h | ⟨l, hl, rfl⟩
  · refine zDo.err hS (c := 1) (t := 1) (b := 0) (by decide) (fun g e => ?_) (fun g e => ?_)
    · unfold fX11_prune; rw [c_mailOf_no e h, zb3_e]
    · unfold fX12_prune; simp only [zb_s, zb2_s, zb3_s, zb3_e, zjoin_e, zput_e, r_thr0, r_thr1, zi10, zi01, if_true, if_false, r_noLetter_no hS (e.thr hS 0) h]
  have hL := hS.letter hl
  have h24 := hL.2.1
  have hw : (w < 1 ∨ (¬ w < 1 ∧ ¬ w < nI ((zSB S).2.1 l).1)) ∨ ∃ n, 1 ≤ n ∧ n < ((zSB S).2.1 l).1 ∧ w = nI n := by
    by_cases h1 : w < 1
    · exact Or.inl (Or.inl h1)
    · by_cases h2 : w < nI ((zSB S).2.1 l).1
      · right
        have h0 : ¬ w < 0 := fun q => h1 (by
          rw [Int32.lt_iff_toInt_lt] at q ⊢
          have : (0 : Int32).toInt = 0 := by decide
          have : (1 : Int32).toInt = 1 := by decide
          omega)
        obtain ⟨n, hn, rfl⟩ := nI_of h0
        rw [nI_ltI (by omega) (by omega)] at h2
        refine ⟨n, ?_, h2, rfl⟩
        rw [nL_lt (by omega) (by decide)] at h1
        exact Nat.not_lt.mp h1
      · exact Or.inl (Or.inr ⟨h1, h2⟩)
  rcases hw with hw | ⟨n, n1, n2, rfl⟩
  · refine zDo.err hS (c := 2) (t := 2) (b := 0) (by decide) (fun g e => ?_) (fun g e => ?_)
    · unfold fX11_prune
      rw [c_mailOf hS e hl, zb3_s, (e.mail hl).1]
      rcases hw with h | ⟨h1, h2⟩
      · rw [if_pos h]
      · rw [if_neg h1, if_neg h2]
    · unfold fX12_prune
      rcases hw with h | ⟨h1, h2⟩
      · simp only [zb_s, zb2_s, zb3_s, zb3_e, zjoin_e, zput_e, r_thr0, r_thr1, zi10, zi01, if_true, if_false, r_noLetter hS (e.thr hS 0) hl, h]
      · simp only [zb_s, zb2_s, zb3_s, zb3_e, zjoin_e, zput_e, r_thr0, r_thr1, zi10, zi01, if_true, if_false, r_noLetter hS (e.thr hS 0) hl, r_lines hS (e.thr hS 0) hl, h1, h2]
  have hSr := zSrem_W hS
  have n1' : ¬ nI n < 1 := by simp (disch := omega) only [nL_lt, nL_gt, nL_le, nL_ge, nL_eq, nL_qe, nI_ltI, nI_leI, nI_eq, nL_add, nL_dda, nI_add, nL_sub, pk_sub, nL_mul, nL_clamp, nI_cl, zchk_n, zchk_l, zb_s, zb2_s, zb3_s, zb3_e, zput_e, zjoin_e, zs_hit, zs_miss, nle_t, nle_f, nlt_t, nlt_f, neq_t, neq_f, ↓reduceIte, and_self, and_true, true_and, and_false, false_and, not_true_eq_false, not_false_eq_true, Nat.add_zero]
  have n2' : nI n < nI ((zSB S).2.1 l).1 := by simp (disch := omega) only [nL_lt, nL_gt, nL_le, nL_ge, nL_eq, nL_qe, nI_ltI, nI_leI, nI_eq, nL_add, nL_dda, nI_add, nL_sub, pk_sub, nL_mul, nL_clamp, nI_cl, zchk_n, zchk_l, zb_s, zb2_s, zb3_s, zb3_e, zput_e, zjoin_e, zs_hit, zs_miss, nle_t, nle_f, nlt_t, nlt_f, neq_t, neq_f, ↓reduceIte, and_self, and_true, true_and, and_false, false_and, not_true_eq_false, not_false_eq_true, Nat.add_zero]
  refine ⟨.ok (nI (((zSB S).2.1 l).1 - n)), zSset (zSrem S) (zBset (zSB S) l (zLsh ((zSB S).2.1 l) n)), zSset_W hSr (zBset_W hSr.2.2.1.1 (zLsh_W hL n2)), fun g e => ?_, fun g e => ?_⟩
  · obtain ⟨g1, a1, a2, a3, a4⟩ := c_remember hS e
    obtain ⟨g2, b1, b2, b3⟩ := c_shorten (a2.mail (l := l) hl) h24 (n := n) (Nat.le_of_lt n2)
    refine ⟨g2, ?_, a2.bag hSr (zCB.set a2.2.2.2.1.1 h8 hl b2 (fun c h1 h2 h3 => b3 c (by omega))) (fun c h1 h2 h3 h4 => b3 c (by omega)), fun c h => by rw [b3 c (by omega)]; exact a4 c (by omega)⟩
    unfold fX11_prune
    rw [c_mailOf hS e hl, zb3_s, (e.mail hl).1, if_neg n1', if_pos n2', a1, zb_s, b1, zb_s, b2.1]
    rfl
  · have e0 := e.thr hS 0
    obtain ⟨g1, a1, a2, a3, a4⟩ := r_remembers hS e0
    have em := a2.letter (l := l) hl
    have m1 : g1 494 (36 + 53 * l) = nI ((zSB S).2.1 l).1 := em.1
    have at0 : fX12_at (nI l) 0 g1 = some (nI (36 + 53 * l)) := by unfold fX12_at; simp (disch := omega) only [nL_lt, nL_gt, nL_le, nL_ge, nL_eq, nL_qe, nI_ltI, nI_leI, nI_eq, nL_add, nL_dda, nI_add, nL_sub, pk_sub, nL_mul, nL_clamp, nI_cl, zchk_n, zchk_l, zb_s, zb2_s, zb3_s, zb3_e, zput_e, zjoin_e, zs_hit, zs_miss, nle_t, nle_f, nlt_t, nlt_f, neq_t, neq_f, ↓reduceIte, and_self, and_true, true_and, and_false, false_and, not_true_eq_false, not_false_eq_true, Nat.add_zero]
    have hsub : nI ((zSB S).2.1 l).1 - nI n = nI (((zSB S).2.1 l).1 - n) := pk_sub (Nat.le_of_lt n2)
    have lin : fX12_lines (nI l) (zset g1 494 (36 + 53 * l) (nI (((zSB S).2.1 l).1 - n))) = some (nI (((zSB S).2.1 l).1 - n)) := by
      unfold fX12_lines fX12_of fX12_at
      simp (disch := omega) only [nL_lt, nL_gt, nL_le, nL_ge, nL_eq, nL_qe, nI_ltI, nI_leI, nI_eq, nL_add, nL_dda, nI_add, nL_sub, pk_sub, nL_mul, nL_clamp, nI_cl, zchk_n, zchk_l, zb_s, zb2_s, zb3_s, zb3_e, zput_e, zjoin_e, zs_hit, zs_miss, nle_t, nle_f, nlt_t, nlt_f, neq_t, neq_f, ↓reduceIte, and_self, and_true, true_and, and_false, false_and, not_true_eq_false, not_false_eq_true, Nat.add_zero]
    have res : fX12_prune (nI l) (nI n) g = some (nI (((zSB S).2.1 l).1 - n), zset g1 494 (36 + 53 * l) (nI (((zSB S).2.1 l).1 - n))) := by
      unfold fX12_prune
      simp only [zb_s, zb2_s, zb3_s, zb3_e, zjoin_e, zput_e, r_thr0, r_thr1, zi10, zi01, if_true, if_false, r_noLetter hS e0 hl, r_lines hS e0 hl, n1', n2', a1, at0]
      rw [zchk_n (by omega) (by omega), zchk_n (by omega) (by omega), nI_cl (by omega), m1, hsub, lin, zb_s]
    have f1 : zFO g1 (zset g1 494 (36 + 53 * l) (nI (((zSB S).2.1 l).1 - n))) := ⟨fun c _ h _ _ => zs_cell h, fun k _ => by rw [zs_cell (by omega)], fun k hk => zs_miss (by omega), fun k h1 _ _ _ _ => zs_miss (by omega)⟩
    exact ⟨_, _, res, a2.bag hSr f1 (zRB.set a2.2.2.2.1.1 hSr.2.2.1.1 hl (em.setn h24 n) (fun k h1 h2 => zs_miss (by omega))), fun c h => by rw [zs_cell (by omega), a3 c (by omega) (by omega), zs_cell (by omega)], by rw [zs_cell (by omega), a3 508 (by omega) (by omega), zs_cell (by omega)], by rw [zs_cell (by omega), a4 0 (by omega)]; simp (disch := omega) only [nL_lt, nL_gt, nL_le, nL_ge, nL_eq, nL_qe, nI_ltI, nI_leI, nI_eq, nL_add, nL_dda, nI_add, nL_sub, pk_sub, nL_mul, nL_clamp, nI_cl, zchk_n, zchk_l, zb_s, zb2_s, zb3_s, zb3_e, zput_e, zjoin_e, zs_hit, zs_miss, nle_t, nle_f, nlt_t, nlt_f, neq_t, neq_f, ↓reduceIte, and_self, and_true, true_and, and_false, false_and, not_true_eq_false, not_false_eq_true, Nat.add_zero], rfl⟩
theorem m_cut {S : zS} (hS : zSW S) (v w : Int32) : zDo [1, 3] S (fX11_cut v w) (fX12_cut v w) := by
  have h8 := hS.eight
  rcases zix v (zsz hS) with h | ⟨l, hl, rfl⟩
  · refine zDo.err hS (c := 1) (t := 1) (b := 0) (by decide) (fun g e => ?_) (fun g e => ?_)
    · unfold fX11_cut; rw [c_mailOf_no e h, zb3_e]
    · unfold fX12_cut; simp only [zb_s, zb2_s, zb3_s, zb3_e, zjoin_e, zput_e, r_thr0, r_thr1, zi10, zi01, if_true, if_false, r_noLine_no1 hS (e.thr hS 0) h]
  have hL := hS.letter hl
  have h24 := hL.2.1
  have h01 := hL.1
  rcases zix w (n := ((zSB S).2.1 l).1) (by omega) with h | ⟨x, hx, rfl⟩
  · refine zDo.err hS (c := 1) (t := 1) (b := 0) (by decide) (fun g e => ?_) (fun g e => ?_)
    · unfold fX11_cut; rw [c_mailOf hS e hl, zb3_s, c_needLine_no (e.mail hl) h, zb3_e]
    · unfold fX12_cut; simp only [zb_s, zb2_s, zb3_s, zb3_e, zjoin_e, zput_e, r_thr0, r_thr1, zi10, zi01, if_true, if_false, r_noLine_no hS (e.thr hS 0) hl h]
  by_cases h2 : ((zSB S).2.1 l).1 = 1
  · refine zDo.err hS (c := 3) (t := 2) (b := 0) (by decide) (fun g e => ?_) (fun g e => ?_)
    · unfold fX11_cut
      rw [c_mailOf hS e hl, zb3_s, c_needLine (e.mail hl) h24 hx, zb3_s, (e.mail hl).1, h2]
      rfl
    · have e0 := e.thr hS 0
      have hl1 := r_lines hS e0 hl
      rw [h2] at hl1
      unfold fX12_cut
      simp only [zb_s, zb2_s, zb3_s, zb3_e, zjoin_e, zput_e, r_thr0, r_thr1, zi10, zi01, if_true, if_false, r_noLine hS e0 hl hx, hl1, show (nI 1 = 1) = True from eq_true rfl]
  have hSr := zSrem_W hS
  refine ⟨.ok (nI (((zSB S).2.1 l).2.1 x)), zSset (zSrem S) (zBset (zSB S) l (zLdr ((zSB S).2.1 l) x)), zSset_W hSr (zBset_W hSr.2.2.1.1 (zLdr_W hL (by omega))), fun g e => ?_, fun g e => ?_⟩
  · obtain ⟨g1, a1, a2, a3, a4⟩ := c_remember hS e
    obtain ⟨g2, b1, b2, b3⟩ := c_drop (a2.mail (l := l) hl) h24 (x := x) hx
    refine ⟨g2, ?_, a2.bag hSr (zCB.set a2.2.2.2.1.1 h8 hl b2 (fun c h1 h2 h3 => b3 c (by omega) (by omega) (by omega))) (fun c h1 h2 h3 h4 => b3 c (by omega) (by omega) (by omega)), fun c h => by rw [b3 c (by omega) (by omega) (by omega)]; exact a4 c (by omega)⟩
    unfold fX11_cut
    rw [c_mailOf hS e hl, zb3_s, c_needLine (e.mail hl) h24 hx, zb3_s, (e.mail hl).1, if_pos (by simp (disch := omega) only [nL_lt, nL_gt, nL_le, nL_ge, nL_eq, nL_qe, nI_ltI, nI_leI, nI_eq, nL_add, nL_dda, nI_add, nL_sub, pk_sub, nL_mul, nL_clamp, nI_cl, zchk_n, zchk_l, zb_s, zb2_s, zb3_s, zb3_e, zput_e, zjoin_e, zs_hit, zs_miss, nle_t, nle_f, nlt_t, nlt_f, neq_t, neq_f, ↓reduceIte, and_self, and_true, true_and, and_false, false_and, not_true_eq_false, not_false_eq_true, Nat.add_zero]), a1, zb_s, c_kindAt (a2.mail (l := l) hl) hx h24, zb_s, b1, zb_s]
    rfl
  · have e0 := e.thr hS 0
    obtain ⟨g1, a1, a2, a3, a4⟩ := r_remembers hS e0
    obtain ⟨m1, m2, m3, m4, m5, m6, m7⟩ := a2.letter (l := l) hl
    have hSrB : (zSB (zSrem S)).2.1 l = (zSB S).2.1 l := rfl
    rw [hSrB] at m1 m2 m3 m4 m5 m6 m7
    have kx := r_kindOf hSr a2 (l := l) (i := x) hl hx
    rw [hSrB] at kx
    generalize hLL : (zSB S).2.1 l = L at *
    -- the loop that moves the LINES
    have loop : ∃ g2, fX12_cut_L57 (nI l) (nI (L.2.1 x)) (fun g21 => zb (fX12_at (nI l) 0 g21) (fun r_22 => zchk r_22 2158 (zchk r_22 2158 (zput g21 494 r_22.toNatClampNeg ((g21 494 r_22.toNatClampNeg) - 1) (fun g25 => some (nI (L.2.1 x), g25)))))) zFU (nI x) g1 = some (nI (L.2.1 x), g2) ∧ zRM g2 494 (36 + 53 * l) (zLdr L x) ∧ (∀ c, c ≠ 494 → g2 c = g1 c) ∧ ∀ k, (k < 36 + 53 * l ∨ 36 + 53 * l + 53 ≤ k) → g2 494 k = g1 494 k := by
      refine zL_Q (fun n i (s : zM) => fX12_cut_L57 (nI l) (nI (L.2.1 x)) _ n (nI i) s) (fun i s => x ≤ i ∧ (∀ c, c ≠ 494 → s c = g1 c) ∧ (∀ k, (k < 36 + 53 * l + 5 ∨ 36 + 53 * l + 53 ≤ k) → s 494 k = g1 494 k) ∧ (∀ j, j < L.1 → s 494 (36 + 53 * l + 5 + j) = nI (L.2.1 (if x ≤ j ∧ j < i then j + 1 else j))) ∧ ∀ j, j < L.1 → s 494 (36 + 53 * l + 29 + j) = L.2.2.1 (if x ≤ j ∧ j < i then j + 1 else j)) (L.1 - 1) (fun r => ∃ g2, r = some (nI (L.2.1 x), g2) ∧ zRM g2 494 (36 + 53 * l) (zLdr L x) ∧ (∀ c, c ≠ 494 → g2 c = g1 c) ∧ ∀ k, (k < 36 + 53 * l ∨ 36 + 53 * l + 53 ≤ k) → g2 494 k = g1 494 k) (fun n i s hi hh => Or.inr ?_) (fun n s hh => ?_) (L.1 - 1 - x) x zFU g1 (by omega) (by unfold zFU; omega) ⟨Nat.le_refl _, fun _ _ => rfl, fun _ _ => rfl, fun j hj => by rw [if_neg (by omega)]; exact m2 j hj, fun j hj => by rw [if_neg (by omega)]; exact m3 j hj⟩
      · obtain ⟨b1, b2, b3, b4, b5⟩ := hh
        have c0 : s 494 (36 + 53 * l) = nI L.1 := by rw [b3 _ (by omega)]; exact m1
        have c1 : s 494 (36 + 53 * l + (5 + (i + 1))) = nI (L.2.1 (i + 1)) := by
          rw [show 36 + 53 * l + (5 + (i + 1)) = 36 + 53 * l + 5 + (i + 1) from by omega, b4 (i + 1) (by omega), if_neg (by omega)]
        have c2 : s 494 (36 + 53 * l + (29 + i + 1)) = L.2.2.1 (i + 1) := by
          rw [show 36 + 53 * l + (29 + i + 1) = 36 + 53 * l + 29 + (i + 1) from by omega, b5 (i + 1) (by omega), if_neg (by omega)]
        refine ⟨zset (zset s 494 (36 + 53 * l + (5 + i)) (nI (L.2.1 (i + 1)))) 494 (36 + 53 * l + (29 + i)) (L.2.2.1 (i + 1)), ⟨by omega, fun c hc => by rw [zs_cell hc, zs_cell hc]; exact b2 c hc, fun k hk => by rw [zs_miss (by omega), zs_miss (by omega)]; exact b3 k hk, fun j hj => ?_, fun j hj => ?_⟩, ?_⟩
        · rw [zs_miss (by omega)]
          by_cases q : j = i
          · subst q
            rw [zs_hit ⟨rfl, by omega⟩, if_pos (by omega)]
          · rw [zs_miss (by omega), b4 j hj]
            by_cases q2 : x ≤ j ∧ j < i
            · rw [if_pos q2, if_pos (by omega)]
            · rw [if_neg q2, if_neg (by omega)]
        · by_cases q : j = i
          · subst q
            rw [zs_hit ⟨rfl, by omega⟩, if_pos (by omega)]
          · rw [zs_miss (by omega), zs_miss (by omega), b5 j hj]
            by_cases q2 : x ≤ j ∧ j < i
            · rw [if_pos q2, if_pos (by omega)]
            · rw [if_neg q2, if_neg (by omega)]
        · simp only [fX12_cut_L57, fX12_lines, fX12_of, fX12_at, fX12_kindOf]
          simp (disch := omega) only [nL_lt, nL_gt, nL_le, nL_ge, nL_eq, nL_qe, nI_ltI, nI_leI, nI_eq, nL_add, nL_dda, nI_add, nL_sub, pk_sub, nL_mul, nL_clamp, nI_cl, zchk_n, zchk_l, zb_s, zb2_s, zb3_s, zb3_e, zput_e, zjoin_e, zs_hit, zs_miss, nle_t, nle_f, nlt_t, nlt_f, neq_t, neq_f, ↓reduceIte, and_self, and_true, true_and, and_false, false_and, not_true_eq_false, not_false_eq_true, Nat.add_zero, c0, c1, c2]
      · obtain ⟨b1, b2, b3, b4, b5⟩ := hh
        have c0 : s 494 (36 + 53 * l) = nI L.1 := by rw [b3 _ (by omega)]; exact m1
        have hs1 : nI L.1 - 1 = nI (L.1 - 1) := by simp (disch := omega) only [nL_lt, nL_gt, nL_le, nL_ge, nL_eq, nL_qe, nI_ltI, nI_leI, nI_eq, nL_add, nL_dda, nI_add, nL_sub, pk_sub, nL_mul, nL_clamp, nI_cl, zchk_n, zchk_l, zb_s, zb2_s, zb3_s, zb3_e, zput_e, zjoin_e, zs_hit, zs_miss, nle_t, nle_f, nlt_t, nlt_f, neq_t, neq_f, ↓reduceIte, and_self, and_true, true_and, and_false, false_and, not_true_eq_false, not_false_eq_true, Nat.add_zero]
        refine ⟨zset s 494 (36 + 53 * l) (nI (L.1 - 1)), ?_, ⟨zs_hit ⟨rfl, rfl⟩, fun j hj => ?_, fun j hj => ?_, ?_, ?_, ?_, ?_⟩, fun c hc => by rw [zs_cell hc]; exact b2 c hc, fun k hk => by rw [zs_miss (by omega)]; exact b3 k (by omega)⟩
        · simp only [fX12_cut_L57, fX12_lines, fX12_of, fX12_at]
          simp (disch := omega) only [nL_lt, nL_gt, nL_le, nL_ge, nL_eq, nL_qe, nI_ltI, nI_leI, nI_eq, nL_add, nL_dda, nI_add, nL_sub, pk_sub, nL_mul, nL_clamp, nI_cl, zchk_n, zchk_l, zb_s, zb2_s, zb3_s, zb3_e, zput_e, zjoin_e, zs_hit, zs_miss, nle_t, nle_f, nlt_t, nlt_f, neq_t, neq_f, ↓reduceIte, and_self, and_true, true_and, and_false, false_and, not_true_eq_false, not_false_eq_true, Nat.add_zero, c0]
        · have hj' : j < L.1 - 1 := hj
          rw [zs_miss (by omega), b4 j (by omega)]
          show _ = nI (if j < x then L.2.1 j else L.2.1 (j + 1))
          by_cases q : j < x
          · rw [if_neg (by omega), if_pos q]
          · rw [if_pos (by omega), if_neg q]
        · have hj' : j < L.1 - 1 := hj
          rw [zs_miss (by omega), b5 j (by omega)]
          show _ = (if j < x then L.2.2.1 j else L.2.2.1 (j + 1))
          by_cases q : j < x
          · rw [if_neg (by omega), if_pos q]
          · rw [if_pos (by omega), if_neg q]
        · rw [zs_miss (by omega), b3 _ (by omega)]; exact m4
        · rw [zs_miss (by omega), b3 _ (by omega)]; exact m5
        · rw [zs_miss (by omega), b3 _ (by omega)]; exact m6
        · rw [zs_miss (by omega), b3 _ (by omega)]; exact m7
    obtain ⟨g2, d1, d2, d3, d4⟩ := loop
    have hl1 := r_lines hS e0 hl
    have hx' : x < ((zSB S).2.1 l).1 := by rw [hLL]; exact hx
    rw [hLL] at hl1
    have h2' : ¬ nI L.1 = 1 := by rw [nL_eq (by omega) (by decide)]; exact h2
    refine ⟨_, g2, ?_, a2.bag hSr ⟨fun c _ h _ _ => d3 c h, fun k _ => by rw [d3 493 (by omega)], fun k hk => d4 k (by omega), fun k h1 _ _ _ _ => d4 k (by omega)⟩ (zRB.set a2.2.2.2.1.1 hSr.2.2.1.1 hl d2 (fun k h1 h2 => d4 k h2)), fun c h => by rw [d3 c (by omega), a3 c (by omega) (by omega), zs_cell (by omega)], by rw [d3 508 (by omega), a3 508 (by omega) (by omega), zs_cell (by omega)], by rw [d3 493 (by omega), a4 0 (by omega)]; simp (disch := omega) only [nL_lt, nL_gt, nL_le, nL_ge, nL_eq, nL_qe, nI_ltI, nI_leI, nI_eq, nL_add, nL_dda, nI_add, nL_sub, pk_sub, nL_mul, nL_clamp, nI_cl, zchk_n, zchk_l, zb_s, zb2_s, zb3_s, zb3_e, zput_e, zjoin_e, zs_hit, zs_miss, nle_t, nle_f, nlt_t, nlt_f, neq_t, neq_f, ↓reduceIte, and_self, and_true, true_and, and_false, false_and, not_true_eq_false, not_false_eq_true, Nat.add_zero], rfl⟩
    unfold fX12_cut
    simp only [zb_s, zb2_s, zb3_s, zb3_e, zjoin_e, zput_e, r_thr0, r_thr1, zi10, zi01, if_true, if_false, r_noLine hS e0 hl hx', hl1, h2', a1, kx]
    exact d1
/-- the state with the latest act UNDONE -/
def zSun (S : zS) : zS := (S.1, S.2.1, S.2.2.1, (S.2.2.2.2.2.2.2 (S.2.2.2.2.2.2.1 - 1), S.2.2.2.1.2), S.2.2.2.2.1, S.2.2.2.2.2.1, S.2.2.2.2.2.2.1 - 1, S.2.2.2.2.2.2.2)
theorem m_undo {S : zS} (hS : zSW S) : zDoN S fX11_undo fX12_undo := by
  have hm := hS.2.2.2.2.1
  by_cases h0 : S.2.2.2.2.2.2.1 = 0
  · refine ⟨0, S, hS, fun g e => ⟨g, ?_, e, fun _ _ => rfl⟩, fun g e => ⟨zset g 493 0 0, ?_, e.thr hS 0, fun c h => zs_cell (by omega), zs_cell (by omega)⟩⟩
    · unfold fX11_undo fX4_takeBack
      rw [e.2.2.2.2.2.2.2.1, h0, if_pos (show nI 0 = 0 from rfl), zb2_s, zbo_0]
    · unfold fX12_undo
      rw [zput_e, zs_miss (by omega), e.2.2.2.2.2.2.1, h0, if_pos (show nI 0 = 0 from rfl)]
  generalize hmm : S.2.2.2.2.2.2.1 = m at *
  have hB := hS.2.2.2.2.2 (m - 1) (by omega)
  have hW' : zSW (zSun S) := ⟨hS.1, hS.2.1, ⟨by show zBW (S.2.2.2.2.2.2.2 (S.2.2.2.2.2.2.1 - 1)); rw [hmm]; exact hB, hS.2.2.1.2⟩, hS.2.2.2.1, by show S.2.2.2.2.2.2.1 - 1 ≤ 12; omega, fun j hj => hS.2.2.2.2.2 j (by have hj : j < S.2.2.2.2.2.2.1 - 1 := hj; omega)⟩
  refine ⟨1, zSun S, hW', fun g e => ?_, fun g e => ?_⟩
  · have e0 := e
    obtain ⟨e1, e2, e3, e4, e5, e6, ⟨p, hp, e7, e8⟩, e9, e10, e11⟩ := e
    rw [hmm] at e9
    have hidx : (p + 12 - 1) % 12 < 12 := Nat.mod_lt _ (by omega)
    have hrem : nI p + 12 - 1 - (nI p + 12 - 1) / 12 * 12 = nI ((p + 12 - 1) % 12) := by
      rw [nL_add, nL_sub (by show 1 ≤ p + 12; omega)]
      exact pk_rem12 (by show p + 12 - 1 < _; omega)
    have src := e8 (m - 1) (by omega)
    rw [hmm, show p + 12 - m + (m - 1) = p + 12 - 1 from by omega] at src
    have src' : zCB (zset (zset g 76 1 (nI ((p + 12 - 1) % 12))) 76 2 (nI (m - 1))) (77 + 1 + 26 * ((p + 12 - 1) % 12)) (S.2.2.2.2.2.2.2 (m - 1)) := src.fr hB.1 (fun c h1 h2 => by rw [zs_cell (by omega), zs_cell (by omega)])
    obtain ⟨g1, a1, a2, a3⟩ := c_bagBecome (h := 3) src' hB (by omega)
    have hsub : nI m - 1 = nI (m - 1) := by simp (disch := omega) only [nL_lt, nL_gt, nL_le, nL_ge, nL_eq, nL_qe, nI_ltI, nI_leI, nI_eq, nL_add, nL_dda, nI_add, nL_sub, pk_sub, nL_mul, nL_clamp, nI_cl, zchk_n, zchk_l, zb_s, zb2_s, zb3_s, zb3_e, zput_e, zjoin_e, zs_hit, zs_miss, nle_t, nle_f, nlt_t, nlt_f, neq_t, neq_f, ↓reduceIte, and_self, and_true, true_and, and_false, false_and, not_true_eq_false, not_false_eq_true, Nat.add_zero]
    have hne : ¬ nI m = 0 := nI_ne0 (by omega) (by omega)
    have res : fX11_undo g = some (1, g1) := by
      unfold fX11_undo fX4_takeBack
      rw [e9, if_neg hne, e7, hrem]
      simp (disch := omega) only [zput_e, zs_miss, e9, hsub, zs_hit, zchk_n, nI_cl, a1, zb_s, zb2_s, zbo_1]
    have fr : ∀ c, (c < 3 ∨ 29 ≤ c) → c ≠ 76 → g1 c = g c := fun c h1 h2 => by rw [a3 c (by omega), zs_cell h2, zs_cell h2]
    have f76 : g1 76 = (zset (zset g 76 1 (nI ((p + 12 - 1) % 12))) 76 2 (nI (m - 1))) 76 := a3 76 (by omega)
    obtain ⟨w1, w2, w3, w4, w5, w6, w7⟩ := e4
    refine ⟨g1, res, ⟨by rw [fr 0 (by omega) (by omega)]; exact e1, fun i hi => by rw [fr 1 (by omega) (by omega)]; exact e2 i hi, by rw [fr 0 (by omega) (by omega)]; exact e3, ⟨by show zCB g1 3 (S.2.2.2.2.2.2.2 (S.2.2.2.2.2.2.1 - 1)); rw [hmm]; exact a2, w2.fr (fun c h1 h2 => fr c (by omega) (by omega)), fun k hk => by rw [fr _ (by omega) (by omega)]; exact w3 k hk, by rw [fr 2 (by omega) (by omega)]; exact w4, fun p hp => by rw [fr _ (by omega) (by omega), fr _ (by omega) (by omega)]; exact w5 p hp, by rw [fr 2 (by omega) (by omega)]; exact w6, by rw [fr 2 (by omega) (by omega)]; exact w7⟩, by rw [fr 0 (by omega) (by omega)]; exact e5, fun q => (e6 q).fr (hS.2.2.2.1 q) (fun c h1 h2 _ _ => fr c (by omega) (by omega)), ⟨(p + 12 - 1) % 12, hidx, by rw [f76]; simp (disch := omega) only [nL_lt, nL_gt, nL_le, nL_ge, nL_eq, nL_qe, nI_ltI, nI_leI, nI_eq, nL_add, nL_dda, nI_add, nL_sub, pk_sub, nL_mul, nL_clamp, nI_cl, zchk_n, zchk_l, zb_s, zb2_s, zb3_s, zb3_e, zput_e, zjoin_e, zs_hit, zs_miss, nle_t, nle_f, nlt_t, nlt_f, neq_t, neq_f, ↓reduceIte, and_self, and_true, true_and, and_false, false_and, not_true_eq_false, not_false_eq_true, Nat.add_zero], fun j hj => ?_⟩, ?_, by rw [fr 481 (by omega) (by omega)]; exact e10, by rw [fr 482 (by omega) (by omega)]; exact e11⟩, fun c h => fr c (by omega) (by omega)⟩
    · have hj' : j < S.2.2.2.2.2.2.1 - 1 := hj
      show zCB g1 (77 + 1 + 26 * (((p + 12 - 1) % 12 + 12 - (S.2.2.2.2.2.2.1 - 1) + j) % 12)) (S.2.2.2.2.2.2.2 j)
      rw [hmm, show ((p + 12 - 1) % 12 + 12 - (m - 1) + j) % 12 = (p + 12 - m + j) % 12 from by omega]
      have := e8 j (by omega)
      rw [hmm] at this
      exact this.fr (hS.2.2.2.2.2 j (by omega)).1 (fun c h1 h2 => fr c (by omega) (by omega))
    · rw [f76]
      show _ = nI (S.2.2.2.2.2.2.1 - 1)
      rw [hmm]
      simp (disch := omega) only [nL_lt, nL_gt, nL_le, nL_ge, nL_eq, nL_qe, nI_ltI, nI_leI, nI_eq, nL_add, nL_dda, nI_add, nL_sub, pk_sub, nL_mul, nL_clamp, nI_cl, zchk_n, zchk_l, zb_s, zb2_s, zb3_s, zb3_e, zput_e, zjoin_e, zs_hit, zs_miss, nle_t, nle_f, nlt_t, nlt_f, neq_t, neq_f, ↓reduceIte, and_self, and_true, true_and, and_false, false_and, not_true_eq_false, not_false_eq_true, Nat.add_zero]
  · have e0 := e.thr hS 0
    have hm7 : (zset g 493 0 0) 493 7 = nI m := by rw [zs_miss (by omega), e.2.2.2.2.2.2.1, hmm]
    have hne : ¬ nI m = 0 := nI_ne0 (by omega) (by omega)
    have hsub : nI m - 1 = nI (m - 1) := by simp (disch := omega) only [nL_lt, nL_gt, nL_le, nL_ge, nL_eq, nL_qe, nI_ltI, nI_leI, nI_eq, nL_add, nL_dda, nI_add, nL_sub, pk_sub, nL_mul, nL_clamp, nI_cl, zchk_n, zchk_l, zb_s, zb2_s, zb3_s, zb3_e, zput_e, zjoin_e, zs_hit, zs_miss, nle_t, nle_f, nlt_t, nlt_f, neq_t, neq_f, ↓reduceIte, and_self, and_true, true_and, and_false, false_and, not_true_eq_false, not_false_eq_true, Nat.add_zero]
    have loop : ∃ g1, fX12_undo_L26 zFU 0 (zset (zset g 493 0 0) 493 7 (nI (m - 1))) = some (1, g1) ∧ (∀ c, c ≠ 494 → g1 c = (zset (zset g 493 0 0) 493 7 (nI (m - 1))) c) ∧ (∀ k, k < 460 → g1 494 k = g 498 (460 * (m - 1) + k)) ∧ ∀ k, 460 ≤ k → g1 494 k = g 494 k := by
      refine zL_I (fun n i (s : zM) => fX12_undo_L26 n (nI i) s) (fun i s => (∀ c, c ≠ 494 → s c = (zset (zset g 493 0 0) 493 7 (nI (m - 1))) c) ∧ (∀ k, k < i → s 494 k = g 498 (460 * (m - 1) + k)) ∧ ∀ k, 460 ≤ k → s 494 k = g 494 k) 460 (fun x => ∃ g1, x = some (1, g1) ∧ (∀ c, c ≠ 494 → g1 c = (zset (zset g 493 0 0) 493 7 (nI (m - 1))) c) ∧ (∀ k, k < 460 → g1 494 k = g 498 (460 * (m - 1) + k)) ∧ ∀ k, 460 ≤ k → g1 494 k = g 494 k) (zset (zset g 493 0 0) 493 7 (nI (m - 1))) (by omega) ⟨fun _ _ => rfl, fun k hk => absurd hk (by omega), fun k _ => by rw [zs_cell (by omega), zs_cell (by omega)]⟩ (fun n i s hi hh => ?_) (fun n s hh => ?_)
      · obtain ⟨b1, b2, b3⟩ := hh
        have c1 : s 493 7 = nI (m - 1) := by rw [b1 493 (by omega)]; exact zs_hit ⟨rfl, rfl⟩
        have c2 : s 498 = g 498 := by rw [b1 498 (by omega), zs_cell (by omega), zs_cell (by omega)]
        refine ⟨zset s 494 i (g 498 (460 * (m - 1) + i)), ⟨fun c hc => by rw [zs_cell hc]; exact b1 c hc, fun k hk => ?_, fun k hk => by rw [zs_miss (by omega)]; exact b3 k hk⟩, ?_⟩
        · by_cases q : k = i
          · subst q; exact zs_hit ⟨rfl, rfl⟩
          · rw [zs_miss (by omega)]; exact b2 k (by omega)
        · simp only [fX12_undo_L26, c1]
          simp (disch := omega) only [nL_lt, nL_gt, nL_le, nL_ge, nL_eq, nL_qe, nI_ltI, nI_leI, nI_eq, nL_add, nL_dda, nI_add, nL_sub, pk_sub, nL_mul, nL_clamp, nI_cl, zchk_n, zchk_l, zb_s, zb2_s, zb3_s, zb3_e, zput_e, zjoin_e, zs_hit, zs_miss, nle_t, nle_f, nlt_t, nlt_f, neq_t, neq_f, ↓reduceIte, and_self, and_true, true_and, and_false, false_and, not_true_eq_false, not_false_eq_true, Nat.add_zero, c2]
      · obtain ⟨b1, b2, b3⟩ := hh
        simp only [fX12_undo_L26]
        exact ⟨s, by simp (disch := omega) only [nL_lt, nL_gt, nL_le, nL_ge, nL_eq, nL_qe, nI_ltI, nI_leI, nI_eq, nL_add, nL_dda, nI_add, nL_sub, pk_sub, nL_mul, nL_clamp, nI_cl, zchk_n, zchk_l, zb_s, zb2_s, zb3_s, zb3_e, zput_e, zjoin_e, zs_hit, zs_miss, nle_t, nle_f, nlt_t, nlt_f, neq_t, neq_f, ↓reduceIte, and_self, and_true, true_and, and_false, false_and, not_true_eq_false, not_false_eq_true, Nat.add_zero], b1, b2, b3⟩
    obtain ⟨g1, a1, a2, a3, a4⟩ := loop
    have res : fX12_undo g = some (1, g1) := by
      unfold fX12_undo
      rw [zput_e, hm7, if_neg hne, zput_e, hsub]
      exact a1
    obtain ⟨e1, e2, e3, ⟨w1, w2, w3, w4, w5, w6, w7⟩, e5, e6, e7, e8⟩ := e
    have src := e8 (m - 1) (by omega)
    have low : ∀ c, c < 36 → c ≠ 0 → c ≠ 4 → c ≠ 6 → c ≠ 7 → g1 494 c = g 494 c := fun c h1 h2 h3 h4 h5 => by rw [a3 c (by omega)]; exact src.2 c h1 h2 h3 h4 h5
    have fc : ∀ c, c ≠ 493 → c ≠ 494 → g1 c = g c := fun c h1 h2 => by rw [a2 c h2, zs_cell h1, zs_cell h1]
    have f493 : ∀ k, k ≠ 0 → k ≠ 7 → g1 493 k = g 493 k := fun k h1 h2 => by rw [a2 493 (by omega), zs_miss (by omega), zs_miss (by omega)]
    have h8p := hS.proms
    refine ⟨g1, res, ⟨by rw [f493 9 (by omega) (by omega)]; exact e1, fun i hi => by rw [fc 499 (by omega) (by omega)]; exact e2 i hi, by rw [f493 14 (by omega) (by omega)]; exact e3, ⟨by show zRB g1 494 0 (S.2.2.2.2.2.2.2 (S.2.2.2.2.2.2.1 - 1)); rw [hmm]; exact src.1.move hB (fun k hk => by rw [Nat.zero_add]; exact a3 k hk), w2.fr hS.law (fun k hk => by rcases hk with rfl | hk; exact low 3 (by omega) (by omega) (by omega) (by omega) (by omega); exact a4 k hk.1), fun k hk => by rw [low _ (by omega) (by omega) (by omega) (by omega) (by omega)]; exact w3 k hk, by rw [low _ (by omega) (by omega) (by omega) (by omega) (by omega)]; exact w4, fun p hp => ?_, by rw [low _ (by omega) (by omega) (by omega) (by omega) (by omega)]; exact w6, by rw [low _ (by omega) (by omega) (by omega) (by omega) (by omega)]; exact w7⟩, by rw [f493 6 (by omega) (by omega)]; exact e5, fun q => (e6 q).fr (hS.2.2.2.1 q) (fun k _ => by rw [fc 495 (by omega) (by omega)]), ?_, fun j hj => ?_⟩, fun c h => fc c (by omega) (by omega), fc 508 (by omega) (by omega)⟩
    · have hp' : p < (zSV S).2.2.2.1 := hp
      rw [low _ (by omega) (by omega) (by omega) (by omega) (by omega), low _ (by omega) (by omega) (by omega) (by omega) (by omega)]
      exact w5 p hp
    · rw [a2 493 (by omega), zs_hit ⟨rfl, rfl⟩]
      show _ = nI (S.2.2.2.2.2.2.1 - 1)
      rw [hmm]
    · have hj' : j < S.2.2.2.2.2.2.1 - 1 := hj
      refine ⟨(e8 j (by omega)).1.fr (hS.2.2.2.2.2 j (by omega)) (fun k _ _ => by rw [fc 498 (by omega) (by omega)]), fun c h1 h2 h3 h4 h5 => ?_⟩
      rw [fc 498 (by omega) (by omega), low c h1 h2 h3 h4 h5]
      exact (e8 j (by omega)).2 c h1 h2 h3 h4 h5
