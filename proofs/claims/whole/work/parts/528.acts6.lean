/-! COPIED, BURNED -/
def zBadd (B : zB') (L : zL) : zB' := (B.1 + 1, zup B.2.1 B.1 L, B.2.2)
def zBdr (B : zB') (x : Nat) : zB' := (B.1 - 1, (fun j => if j < x then B.2.1 j else B.2.1 (j + 1)), B.2.2)
theorem zBadd_W {B : zB'} (h : zBW B) (h8 : B.1 < 8) {L : zL} (hL : zLW L) : zBW (zBadd B L) := ⟨h8, fun m hm => by
  have hm' : m < B.1 + 1 := hm
  show zLW (zup B.2.1 B.1 L m)
  by_cases q : m = B.1
  · rw [zup_hit q]; exact hL
  · rw [zup_miss q]; exact h.2 m (by omega)⟩
theorem zBdr_W {B : zB'} (h : zBW B) (x : Nat) : zBW (zBdr B x) := by
  have h8 := h.1
  refine ⟨by show B.1 - 1 ≤ 8; omega, fun m hm => ?_⟩
  have hm' : m < B.1 - 1 := hm
  show zLW (if m < x then B.2.1 m else B.2.1 (m + 1))
  split
  · exact h.2 m (by omega)
  · exact h.2 (m + 1) (by omega)
theorem zCB.add {g g1 : zM} {B : zB'} (e : zCB g 3 B) {L : zL} (h8 : B.1 < 8) (hs : g1 3 1 = nI (B.1 + 1)) (hL : zCM g1 (4 + 1 + 3 * B.1) L) (f0 : ∀ k, k ≠ 1 → g1 3 k = g 3 k) (f : ∀ c, 5 ≤ c → c < 4 + 1 + 3 * B.1 → g1 c = g c) : zCB g1 3 (zBadd B L) := by
  obtain ⟨e1, e2, e3, e4, e5⟩ := e
  refine ⟨hs, fun m hm => ?_, by rw [f0 2 (by omega)]; exact e3, by rw [f0 3 (by omega)]; exact e4, by rw [f0 4 (by omega)]; exact e5⟩
  have hm' : m < B.1 + 1 := hm
  show zCM g1 (3 + 1 + 1 + 3 * m) (zup B.2.1 B.1 L m)
  by_cases q : m = B.1
  · rw [zup_hit q, q]; exact hL
  · rw [zup_miss q]
    exact (e2 m (by omega)).fr (f _ (by omega) (by omega)) (f _ (by omega) (by omega)) (f _ (by omega) (by omega))
theorem zRB.add {g g1 : zM} {B : zB'} (e : zRB g 494 0 B) {L : zL} (hB : zBW B) (h8 : B.1 < 8) (hs : g1 494 0 = nI (B.1 + 1)) (hL : zRM g1 494 (36 + 53 * B.1) L) (f : ∀ k, k ≠ 0 → k < 36 + 53 * B.1 → g1 494 k = g 494 k) : zRB g1 494 0 (zBadd B L) := by
  obtain ⟨e1, e2, e3, e4, e5⟩ := e
  simp only [Nat.zero_add] at e1 e2 e3 e4 e5
  refine ⟨hs, fun m hm => ?_, by rw [f (0 + 4) (by omega) (by omega)]; exact e3, by rw [f (0 + 7) (by omega) (by omega)]; exact e4, by rw [f (0 + 6) (by omega) (by omega)]; exact e5⟩
  have hm' : m < B.1 + 1 := hm
  show zRM g1 494 (0 + 36 + 53 * m) (zup B.2.1 B.1 L m)
  rw [Nat.zero_add]
  by_cases q : m = B.1
  · rw [zup_hit q, q]; exact hL
  · rw [zup_miss q]
    exact (e2 m (by omega)).fr (fun k h1 h2 => f k (by omega) (by omega)) (hB.2 m (by omega)).2.1
theorem zRM.move {g g1 : zM} {a b o p : Nat} {L : zL} (e : zRM g a o L) (h24 : L.1 ≤ 24) (f : ∀ k, k < 53 → g1 b (p + k) = g a (o + k)) : zRM g1 b p L := by
  obtain ⟨l1, l2, l3, l4, l5, l6, l7⟩ := e
  have ff0 := f 0 (by omega)
  rw [Nat.add_zero, Nat.add_zero] at ff0
  refine ⟨by rw [ff0]; exact l1, fun i hi => ?_, fun i hi => ?_, by rw [f 1 (by omega)]; exact l4, by rw [f 2 (by omega)]; exact l5, by rw [f 3 (by omega)]; exact l6, by rw [f 4 (by omega)]; exact l7⟩
  · rw [show p + 5 + i = p + (5 + i) from by omega, f (5 + i) (by omega), show o + (5 + i) = o + 5 + i from by omega]
    exact l2 i hi
  · rw [show p + 29 + i = p + (29 + i) from by omega, f (29 + i) (by omega), show o + (29 + i) = o + 29 + i from by omega]
    exact l3 i hi
theorem m_copy {S : zS} (hS : zSW S) (v : Int32) : zDo [1, 4] S (fX11_copy v) (fX12_copy v) := by
  have h8 := hS.eight
  rcases zix v (zsz hS) with h | ⟨l, hl, rfl⟩
  · refine zDo.err hS (c := 1) (t := 1) (b := 0) (by decide) (fun g e => ?_) (fun g e => ?_)
    · unfold fX11_copy; rw [c_mailOf_no e h, zb3_e]
    · unfold fX12_copy; simp only [zb_s, zb2_s, zb3_s, zb3_e, zjoin_e, zput_e, r_thr0, r_thr1, zi10, zi01, if_true, if_false, r_noLetter_no hS (e.thr hS 0) h]
  by_cases hf : (zSB S).1 = 8
  · refine zDo.err hS (c := 4) (t := 2) (b := 0) (by decide) (fun g e => ?_) (fun g e => ?_)
    · unfold fX11_copy
      rw [c_mailOf hS e hl, zb3_s, e.size, if_neg (by rw [hf]; decide)]
    · have e0 := e.thr hS 0
      have hn : (nI (zSB S).1 = 8) = True := by rw [hf]; exact eq_true rfl
      unfold fX12_copy
      simp only [zb_s, zb2_s, zb3_s, zb3_e, zjoin_e, zput_e, r_thr0, r_thr1, zi10, zi01, if_true, if_false, r_noLetter hS e0 hl, r_letters e0, hn]
  have hL := hS.letter hl
  have h24 := hL.2.1
  have hSr := zSrem_W hS
  generalize hnn : (zSB S).1 = n at *
  have hn8 : n < 8 := by omega
  refine ⟨.ok (nI n), zSset (zSrem S) (zBadd (zSB S) (zLo ((zSB S).2.1 l) false)), zSset_W hSr (zBadd_W hSr.2.2.1.1 (by show (zSB S).1 < 8; omega) hL), fun g e => ?_, fun g e => ?_⟩
  · obtain ⟨g1, a1, a2, a3, a4⟩ := c_remember hS e
    have sz : g 3 1 = nI n := by rw [e.size, hnn]
    have sz1 : g1 3 1 = nI n := by rw [a3 3 (by omega)]; exact sz
    obtain ⟨g2, b1, b2, b3⟩ := c_become (h := 4 + 1 + 3 * n) (a2.mail (l := l) (by show l < (zSB S).1; omega)) (by omega) h24
    have b2 : zCM g2 (4 + 1 + 3 * n) ((zSB S).2.1 l) := b2
    obtain ⟨m1, m2, m3, m4, m5, m6, m7⟩ := b2
    have sz2 : g2 3 1 = nI n := by rw [b3 3 (by omega) (by omega) (by omega)]; exact sz1
    have c1 : zset g2 (4 + 1 + 3 * n) 5 0 3 1 = nI n := by rw [zs_miss (by omega)]; exact sz2
    have hcl : fX11_mailOf (nI l) g = some (.ok (4 + 1 + 3 * l), g) := c_mailOf hS e (by omega)
    have res : fX11_copy (nI l) g = some (.ok (nI n), zset (zset g2 (4 + 1 + 3 * n) 5 0) 3 1 (nI (n + 1))) := by
      unfold fX11_copy
      rw [hcl, zb3_s, sz, if_pos (by simp (disch := omega) only [nL_lt, nL_gt, nL_le, nL_ge, nL_eq, nL_qe, nI_ltI, nI_leI, nI_eq, nL_add, nL_dda, nI_add, nL_sub, pk_sub, nL_mul, nL_clamp, nI_cl, zchk_n, zchk_l, zb_s, zb2_s, zb3_s, zb3_e, zput_e, zjoin_e, zs_hit, zs_miss, nle_t, nle_f, nlt_t, nlt_f, neq_t, neq_f, ↓reduceIte, and_self, and_true, true_and, and_false, false_and, not_true_eq_false, not_false_eq_true, Nat.add_zero]), a1, zb_s, sz1, nI_cl (by omega), zchk_n (by omega) (by omega), b1, zb_s, zput_e, zput_e, c1, nI_1, zs_hit ⟨rfl, rfl⟩]
      simp (disch := omega) only [nL_lt, nL_gt, nL_le, nL_ge, nL_eq, nL_qe, nI_ltI, nI_leI, nI_eq, nL_add, nL_dda, nI_add, nL_sub, pk_sub, nL_mul, nL_clamp, nI_cl, zchk_n, zchk_l, zb_s, zb2_s, zb3_s, zb3_e, zput_e, zjoin_e, zs_hit, zs_miss, nle_t, nle_f, nlt_t, nlt_f, neq_t, neq_f, ↓reduceIte, and_self, and_true, true_and, and_false, false_and, not_true_eq_false, not_false_eq_true, Nat.add_zero]
      rfl
    have hB3 : zCB (zset (zset g2 (4 + 1 + 3 * n) 5 0) 3 1 (nI (n + 1))) 3 (zBadd (zSB S) (zLo ((zSB S).2.1 l) false)) := by
      refine zCB.add a2.2.2.2.1.1 (by show (zSB S).1 < 8; omega) ?_ ?_ (fun k hk => ?_) (fun c h1 h2 => ?_)
      · show _ = nI ((zSB S).1 + 1)
        rw [hnn]; exact zs_hit ⟨rfl, rfl⟩
      · show zCM _ (4 + 1 + 3 * (zSB S).1) _
        rw [hnn]
        refine ⟨?_, fun i hi => ?_, fun i hi => ?_, ?_, ?_, ?_, ?_⟩
        · simp (disch := omega) only [nL_lt, nL_gt, nL_le, nL_ge, nL_eq, nL_qe, nI_ltI, nI_leI, nI_eq, nL_add, nL_dda, nI_add, nL_sub, pk_sub, nL_mul, nL_clamp, nI_cl, zchk_n, zchk_l, zb_s, zb2_s, zb3_s, zb3_e, zput_e, zjoin_e, zs_hit, zs_miss, nle_t, nle_f, nlt_t, nlt_f, neq_t, neq_f, ↓reduceIte, and_self, and_true, true_and, and_false, false_and, not_true_eq_false, not_false_eq_true, Nat.add_zero]; exact m1
        · simp (disch := omega) only [nL_lt, nL_gt, nL_le, nL_ge, nL_eq, nL_qe, nI_ltI, nI_leI, nI_eq, nL_add, nL_dda, nI_add, nL_sub, pk_sub, nL_mul, nL_clamp, nI_cl, zchk_n, zchk_l, zb_s, zb2_s, zb3_s, zb3_e, zput_e, zjoin_e, zs_hit, zs_miss, nle_t, nle_f, nlt_t, nlt_f, neq_t, neq_f, ↓reduceIte, and_self, and_true, true_and, and_false, false_and, not_true_eq_false, not_false_eq_true, Nat.add_zero]; exact m2 i hi
        · simp (disch := omega) only [nL_lt, nL_gt, nL_le, nL_ge, nL_eq, nL_qe, nI_ltI, nI_leI, nI_eq, nL_add, nL_dda, nI_add, nL_sub, pk_sub, nL_mul, nL_clamp, nI_cl, zchk_n, zchk_l, zb_s, zb2_s, zb3_s, zb3_e, zput_e, zjoin_e, zs_hit, zs_miss, nle_t, nle_f, nlt_t, nlt_f, neq_t, neq_f, ↓reduceIte, and_self, and_true, true_and, and_false, false_and, not_true_eq_false, not_false_eq_true, Nat.add_zero]; exact m3 i hi
        · simp (disch := omega) only [nL_lt, nL_gt, nL_le, nL_ge, nL_eq, nL_qe, nI_ltI, nI_leI, nI_eq, nL_add, nL_dda, nI_add, nL_sub, pk_sub, nL_mul, nL_clamp, nI_cl, zchk_n, zchk_l, zb_s, zb2_s, zb3_s, zb3_e, zput_e, zjoin_e, zs_hit, zs_miss, nle_t, nle_f, nlt_t, nlt_f, neq_t, neq_f, ↓reduceIte, and_self, and_true, true_and, and_false, false_and, not_true_eq_false, not_false_eq_true, Nat.add_zero]; exact m4
        · simp (disch := omega) only [nL_lt, nL_gt, nL_le, nL_ge, nL_eq, nL_qe, nI_ltI, nI_leI, nI_eq, nL_add, nL_dda, nI_add, nL_sub, pk_sub, nL_mul, nL_clamp, nI_cl, zchk_n, zchk_l, zb_s, zb2_s, zb3_s, zb3_e, zput_e, zjoin_e, zs_hit, zs_miss, nle_t, nle_f, nlt_t, nlt_f, neq_t, neq_f, ↓reduceIte, and_self, and_true, true_and, and_false, false_and, not_true_eq_false, not_false_eq_true, Nat.add_zero]; exact m5
        · simp (disch := omega) only [nL_lt, nL_gt, nL_le, nL_ge, nL_eq, nL_qe, nI_ltI, nI_leI, nI_eq, nL_add, nL_dda, nI_add, nL_sub, pk_sub, nL_mul, nL_clamp, nI_cl, zchk_n, zchk_l, zb_s, zb2_s, zb3_s, zb3_e, zput_e, zjoin_e, zs_hit, zs_miss, nle_t, nle_f, nlt_t, nlt_f, neq_t, neq_f, ↓reduceIte, and_self, and_true, true_and, and_false, false_and, not_true_eq_false, not_false_eq_true, Nat.add_zero]; rfl
        · simp (disch := omega) only [nL_lt, nL_gt, nL_le, nL_ge, nL_eq, nL_qe, nI_ltI, nI_leI, nI_eq, nL_add, nL_dda, nI_add, nL_sub, pk_sub, nL_mul, nL_clamp, nI_cl, zchk_n, zchk_l, zb_s, zb2_s, zb3_s, zb3_e, zput_e, zjoin_e, zs_hit, zs_miss, nle_t, nle_f, nlt_t, nlt_f, neq_t, neq_f, ↓reduceIte, and_self, and_true, true_and, and_false, false_and, not_true_eq_false, not_false_eq_true, Nat.add_zero]; exact m7
      · rw [zs_miss (by omega), zs_cell (by omega), b3 3 (by omega) (by omega) (by omega)]
      · have h2 : c < 4 + 1 + 3 * (zSB S).1 := h2
        rw [hnn] at h2
        rw [zs_cell (by omega), zs_cell (by omega), b3 c (by omega) (by omega) (by omega)]
    refine ⟨_, res, a2.bag hSr hB3 (fun c h1 h2 h3 h4 => ?_), fun c h => ?_⟩
    · rw [zs_cell (by omega), zs_cell (by omega), b3 c (by omega) (by omega) (by omega)]
    · rw [zs_cell (by omega), zs_cell (by omega), b3 c (by omega) (by omega) (by omega)]; exact a4 c (by omega)
  · have e0 := e.thr hS 0
    obtain ⟨g1, a1, a2, a3, a4⟩ := r_remembers hS e0
    have em : zRM g1 494 (36 + 53 * l) ((zSB S).2.1 l) := a2.letter (l := l) (by show l < (zSB S).1; omega)
    have le1 : fX12_letters g1 = some (nI n) := by rw [r_letters a2]; show some (nI (zSB S).1) = _; rw [hnn]
    have le0 : fX12_letters (zset g 493 0 0) = some (nI n) := by rw [r_letters e0, hnn]
    have z0 : g1 494 0 = nI n := by rw [a2.size]; show nI (zSB S).1 = _; rw [hnn]
    have loop : ∃ g2, fX12_copy_L53 (nI l) (nI n) (fun g16 => zb (fX12_at (nI n) 3 g16) (fun r_17 => zchk r_17 2158 (zput g16 494 r_17.toNatClampNeg 0 (fun g19 => zchk 0 2158 (zchk 0 2158 (zput g19 494 (0 : Int32).toNatClampNeg ((g19 494 (0 : Int32).toNatClampNeg) + 1) (fun g22 => some (nI n, g22)))))))) zFU 0 g1 = some (nI n, zset (zset g2 494 (36 + 53 * n + 3) 0) 494 0 (nI (n + 1))) ∧ (∀ c, c ≠ 494 → g2 c = g1 c) ∧ (∀ k, (k < 36 + 53 * n ∨ 36 + 53 * n + 53 ≤ k) → g2 494 k = g1 494 k) ∧ ∀ j, j < 53 → g2 494 (36 + 53 * n + j) = g1 494 (36 + 53 * l + j) := by
      refine zL_I (fun m i (s : zM) => fX12_copy_L53 (nI l) (nI n) _ m (nI i) s) (fun i s => (∀ c, c ≠ 494 → s c = g1 c) ∧ (∀ k, (k < 36 + 53 * n ∨ 36 + 53 * n + 53 ≤ k) → s 494 k = g1 494 k) ∧ ∀ j, j < i → s 494 (36 + 53 * n + j) = g1 494 (36 + 53 * l + j)) 53 (fun x => ∃ g2, x = some (nI n, zset (zset g2 494 (36 + 53 * n + 3) 0) 494 0 (nI (n + 1))) ∧ (∀ c, c ≠ 494 → g2 c = g1 c) ∧ (∀ k, (k < 36 + 53 * n ∨ 36 + 53 * n + 53 ≤ k) → g2 494 k = g1 494 k) ∧ ∀ j, j < 53 → g2 494 (36 + 53 * n + j) = g1 494 (36 + 53 * l + j)) g1 (by omega) ⟨fun _ _ => rfl, fun _ _ => rfl, fun k hk => absurd hk (by omega)⟩ (fun m i s hi hh => ?_) (fun m s hh => ?_)
      · obtain ⟨b1, b2, b3⟩ := hh
        refine ⟨zset s 494 (36 + 53 * n + i) (g1 494 (36 + 53 * l + i)), ⟨fun c hc => by rw [zs_cell hc]; exact b1 c hc, fun k hk => by rw [zs_miss (by omega)]; exact b2 k hk, fun j hj => ?_⟩, ?_⟩
        · by_cases q : j = i
          · subst q; exact zs_hit ⟨rfl, rfl⟩
          · rw [zs_miss (by omega)]; exact b3 j (by omega)
        · simp only [fX12_copy_L53, fX12_of, fX12_at]
          simp (disch := omega) only [nL_lt, nL_gt, nL_le, nL_ge, nL_eq, nL_qe, nI_ltI, nI_leI, nI_eq, nL_add, nL_dda, nI_add, nL_sub, pk_sub, nL_mul, nL_clamp, nI_cl, zchk_n, zchk_l, zb_s, zb2_s, zb3_s, zb3_e, zput_e, zjoin_e, zs_hit, zs_miss, nle_t, nle_f, nlt_t, nlt_f, neq_t, neq_f, ↓reduceIte, and_self, and_true, true_and, and_false, false_and, not_true_eq_false, not_false_eq_true, Nat.add_zero]
          rw [b2 (36 + 53 * l + i) (by omega)]
      · obtain ⟨b1, b2, b3⟩ := hh
        refine ⟨s, ?_, b1, b2, b3⟩
        have c0 : s 494 0 = nI n := by rw [b2 0 (by omega)]; exact z0
        simp only [fX12_copy_L53, fX12_at]
        simp (disch := omega) only [nL_lt, nL_gt, nL_le, nL_ge, nL_eq, nL_qe, nI_ltI, nI_leI, nI_eq, nL_add, nL_dda, nI_add, nL_sub, pk_sub, nL_mul, nL_clamp, nI_cl, zchk_n, zchk_l, zb_s, zb2_s, zb3_s, zb3_e, zput_e, zjoin_e, zs_hit, zs_miss, nle_t, nle_f, nlt_t, nlt_f, neq_t, neq_f, ↓reduceIte, and_self, and_true, true_and, and_false, false_and, not_true_eq_false, not_false_eq_true, Nat.add_zero, c0]
    obtain ⟨g2, b1, b2, b3, b4⟩ := loop
    have hn : ¬ nI n = 8 := by rw [nL_eq (by omega) (by decide)]; exact hf
    have hnl : fX12_noLetter (nI l) (zset g 493 0 0) = some 0 := r_noLetter hS e0 (by omega)
    have res : fX12_copy (nI l) g = some (nI n, zset (zset g2 494 (36 + 53 * n + 3) 0) 494 0 (nI (n + 1))) := by
      unfold fX12_copy
      simp only [zb_s, zb2_s, zb3_s, zb3_e, zjoin_e, zput_e, r_thr0, r_thr1, zi10, zi01, if_true, if_false, hnl, le0, hn, a1, le1]
      exact b1
    have hx : zRM g2 494 (36 + 53 * n) ((zSB S).2.1 l) := em.move h24 b4
    obtain ⟨m1, m2, m3, m4, m5, m6, m7⟩ := hx
    have hR : zRB (zset (zset g2 494 (36 + 53 * n + 3) 0) 494 0 (nI (n + 1))) 494 0 (zBadd (zSB S) (zLo ((zSB S).2.1 l) false)) := by
      refine zRB.add a2.2.2.2.1.1 hSr.2.2.1.1 (by show (zSB S).1 < 8; omega) ?_ ?_ (fun k h1 h2 => ?_)
      · show _ = nI ((zSB S).1 + 1)
        rw [hnn]; exact zs_hit ⟨rfl, rfl⟩
      · show zRM _ 494 (36 + 53 * (zSB S).1) _
        rw [hnn]
        refine ⟨?_, fun i hi => ?_, fun i hi => ?_, ?_, ?_, ?_, ?_⟩
        · simp (disch := omega) only [nL_lt, nL_gt, nL_le, nL_ge, nL_eq, nL_qe, nI_ltI, nI_leI, nI_eq, nL_add, nL_dda, nI_add, nL_sub, pk_sub, nL_mul, nL_clamp, nI_cl, zchk_n, zchk_l, zb_s, zb2_s, zb3_s, zb3_e, zput_e, zjoin_e, zs_hit, zs_miss, nle_t, nle_f, nlt_t, nlt_f, neq_t, neq_f, ↓reduceIte, and_self, and_true, true_and, and_false, false_and, not_true_eq_false, not_false_eq_true, Nat.add_zero]; exact m1
        · simp (disch := omega) only [nL_lt, nL_gt, nL_le, nL_ge, nL_eq, nL_qe, nI_ltI, nI_leI, nI_eq, nL_add, nL_dda, nI_add, nL_sub, pk_sub, nL_mul, nL_clamp, nI_cl, zchk_n, zchk_l, zb_s, zb2_s, zb3_s, zb3_e, zput_e, zjoin_e, zs_hit, zs_miss, nle_t, nle_f, nlt_t, nlt_f, neq_t, neq_f, ↓reduceIte, and_self, and_true, true_and, and_false, false_and, not_true_eq_false, not_false_eq_true, Nat.add_zero]; exact m2 i hi
        · simp (disch := omega) only [nL_lt, nL_gt, nL_le, nL_ge, nL_eq, nL_qe, nI_ltI, nI_leI, nI_eq, nL_add, nL_dda, nI_add, nL_sub, pk_sub, nL_mul, nL_clamp, nI_cl, zchk_n, zchk_l, zb_s, zb2_s, zb3_s, zb3_e, zput_e, zjoin_e, zs_hit, zs_miss, nle_t, nle_f, nlt_t, nlt_f, neq_t, neq_f, ↓reduceIte, and_self, and_true, true_and, and_false, false_and, not_true_eq_false, not_false_eq_true, Nat.add_zero]; exact m3 i hi
        · simp (disch := omega) only [nL_lt, nL_gt, nL_le, nL_ge, nL_eq, nL_qe, nI_ltI, nI_leI, nI_eq, nL_add, nL_dda, nI_add, nL_sub, pk_sub, nL_mul, nL_clamp, nI_cl, zchk_n, zchk_l, zb_s, zb2_s, zb3_s, zb3_e, zput_e, zjoin_e, zs_hit, zs_miss, nle_t, nle_f, nlt_t, nlt_f, neq_t, neq_f, ↓reduceIte, and_self, and_true, true_and, and_false, false_and, not_true_eq_false, not_false_eq_true, Nat.add_zero]; exact m4
        · simp (disch := omega) only [nL_lt, nL_gt, nL_le, nL_ge, nL_eq, nL_qe, nI_ltI, nI_leI, nI_eq, nL_add, nL_dda, nI_add, nL_sub, pk_sub, nL_mul, nL_clamp, nI_cl, zchk_n, zchk_l, zb_s, zb2_s, zb3_s, zb3_e, zput_e, zjoin_e, zs_hit, zs_miss, nle_t, nle_f, nlt_t, nlt_f, neq_t, neq_f, ↓reduceIte, and_self, and_true, true_and, and_false, false_and, not_true_eq_false, not_false_eq_true, Nat.add_zero]; exact m5
        · simp (disch := omega) only [nL_lt, nL_gt, nL_le, nL_ge, nL_eq, nL_qe, nI_ltI, nI_leI, nI_eq, nL_add, nL_dda, nI_add, nL_sub, pk_sub, nL_mul, nL_clamp, nI_cl, zchk_n, zchk_l, zb_s, zb2_s, zb3_s, zb3_e, zput_e, zjoin_e, zs_hit, zs_miss, nle_t, nle_f, nlt_t, nlt_f, neq_t, neq_f, ↓reduceIte, and_self, and_true, true_and, and_false, false_and, not_true_eq_false, not_false_eq_true, Nat.add_zero]; rfl
        · simp (disch := omega) only [nL_lt, nL_gt, nL_le, nL_ge, nL_eq, nL_qe, nI_ltI, nI_leI, nI_eq, nL_add, nL_dda, nI_add, nL_sub, pk_sub, nL_mul, nL_clamp, nI_cl, zchk_n, zchk_l, zb_s, zb2_s, zb3_s, zb3_e, zput_e, zjoin_e, zs_hit, zs_miss, nle_t, nle_f, nlt_t, nlt_f, neq_t, neq_f, ↓reduceIte, and_self, and_true, true_and, and_false, false_and, not_true_eq_false, not_false_eq_true, Nat.add_zero]; exact m7
      · have h2 : k < 36 + 53 * (zSB S).1 := h2
        rw [hnn] at h2
        rw [zs_miss (by omega), zs_miss (by omega), b3 k (by omega)]
    have f1 : zFO g1 (zset (zset g2 494 (36 + 53 * n + 3) 0) 494 0 (nI (n + 1))) := ⟨fun c _ h _ _ => by rw [zs_cell h, zs_cell h]; exact b2 c h, fun k _ => by rw [zs_cell (by omega), zs_cell (by omega), b2 493 (by omega)], fun k hk => by rw [zs_miss (by omega), zs_miss (by omega)]; exact b3 k (by omega), fun k h1 h2 _ _ _ => by rw [zs_miss (by omega), zs_miss (by omega)]; exact b3 k (by omega)⟩
    exact ⟨_, _, res, a2.bag hSr f1 hR, fun c h => by rw [zs_cell (by omega), zs_cell (by omega), b2 c (by omega), a3 c (by omega) (by omega), zs_cell (by omega)], by rw [zs_cell (by omega), zs_cell (by omega), b2 508 (by omega), a3 508 (by omega) (by omega), zs_cell (by omega)], by rw [zs_cell (by omega), zs_cell (by omega), b2 493 (by omega), a4 0 (by omega)]; simp (disch := omega) only [nL_lt, nL_gt, nL_le, nL_ge, nL_eq, nL_qe, nI_ltI, nI_leI, nI_eq, nL_add, nL_dda, nI_add, nL_sub, pk_sub, nL_mul, nL_clamp, nI_cl, zchk_n, zchk_l, zb_s, zb2_s, zb3_s, zb3_e, zput_e, zjoin_e, zs_hit, zs_miss, nle_t, nle_f, nlt_t, nlt_f, neq_t, neq_f, ↓reduceIte, and_self, and_true, true_and, and_false, false_and, not_true_eq_false, not_false_eq_true, Nat.add_zero], rfl⟩
theorem c_bagDrop {g : zM} {B : zB'} (e : zCB g 3 B) (hB : zBW B) {x : Nat} (hx : x < B.1) : ∃ g1, fX0_drop 3 (nI x) g = some g1 ∧ zCB g1 3 (zBdr B x) ∧ ∀ c, (c < 3 ∨ 29 ≤ c) → g1 c = g c := by
  have h8 := hB.1
  obtain ⟨e1, e2, e3, e4, e5⟩ := e
  unfold fX0_drop
  rw [e1, if_neg (by rw [nL_lt (by omega) (by decide)]; omega), if_pos (by rw [nI_ltI (by omega) (by omega)]; exact hx)]
  refine zL_Q (fun n i (s : zM) => fX0_drop_L15 3 (fun g7 => zput g7 3 1 ((g7 3 1) - 1) (fun g8 => some g8)) n (nI i) s) (fun i s => x ≤ i ∧ (∀ c, (c < 5 ∨ 29 ≤ c) → s c = g c) ∧ ∀ j, j < B.1 → zCM s (3 + 1 + 1 + 3 * j) (B.2.1 (if x ≤ j ∧ j < i then j + 1 else j))) (B.1 - 1) (fun r => ∃ g1, r = some g1 ∧ zCB g1 3 (zBdr B x) ∧ ∀ c, (c < 3 ∨ 29 ≤ c) → g1 c = g c) (fun n i s hi hh => Or.inr ?_) (fun n s hh => ?_) (B.1 - 1 - x) x zFU g (by omega) (by unfold zFU; omega) ⟨Nat.le_refl _, fun _ _ => rfl, fun j hj => by rw [if_neg (by omega)]; exact e2 j hj⟩
  · obtain ⟨b1, b2, b3⟩ := hh
    have sz : s 3 1 = nI B.1 := by rw [b2 3 (by omega)]; exact e1
    have er := b3 (i + 1) (by omega)
    rw [if_neg (by omega)] at er
    obtain ⟨s1, c1, c2, c3⟩ := c_become (h := 3 + 1 + 1 + 3 * i) er (by omega) (hB.2 (i + 1) (by omega)).2.1
    refine ⟨s1, ⟨by omega, fun c hc => by rw [c3 c (by omega) (by omega) (by omega)]; exact b2 c hc, fun j hj => ?_⟩, ?_⟩
    · by_cases q : j = i
      · subst q
        rw [if_pos (by omega)]; exact c2
      · have := (b3 j hj).fr (c3 _ (by omega) (by omega) (by omega)) (c3 _ (by omega) (by omega) (by omega)) (c3 _ (by omega) (by omega) (by omega))
        by_cases q2 : x ≤ j ∧ j < i
        · rw [if_pos q2] at this; rw [if_pos (by omega)]; exact this
        · rw [if_neg q2] at this; rw [if_neg (by omega)]; exact this
    · simp only [fX0_drop_L15, sz]
      simp (disch := omega) only [nL_lt, nL_gt, nL_le, nL_ge, nL_eq, nL_qe, nI_ltI, nI_leI, nI_eq, nL_add, nL_dda, nI_add, nL_sub, pk_sub, nL_mul, nL_clamp, nI_cl, zchk_n, zchk_l, zb_s, zb2_s, zb3_s, zb3_e, zput_e, zjoin_e, zs_hit, zs_miss, nle_t, nle_f, nlt_t, nlt_f, neq_t, neq_f, ↓reduceIte, and_self, and_true, true_and, and_false, false_and, not_true_eq_false, not_false_eq_true, Nat.add_zero, c1]
  · obtain ⟨b1, b2, b3⟩ := hh
    have sz : s 3 1 = nI B.1 := by rw [b2 3 (by omega)]; exact e1
    refine ⟨zset s 3 1 (nI (B.1 - 1)), ?_, ⟨zs_hit ⟨rfl, rfl⟩, fun m hm => ?_, ?_, ?_, ?_⟩, fun c hc => by rw [zs_cell (by omega)]; exact b2 c (by omega)⟩
    · simp only [fX0_drop_L15, sz]
      simp (disch := omega) only [nL_lt, nL_gt, nL_le, nL_ge, nL_eq, nL_qe, nI_ltI, nI_leI, nI_eq, nL_add, nL_dda, nI_add, nL_sub, pk_sub, nL_mul, nL_clamp, nI_cl, zchk_n, zchk_l, zb_s, zb2_s, zb3_s, zb3_e, zput_e, zjoin_e, zs_hit, zs_miss, nle_t, nle_f, nlt_t, nlt_f, neq_t, neq_f, ↓reduceIte, and_self, and_true, true_and, and_false, false_and, not_true_eq_false, not_false_eq_true, Nat.add_zero, sz]
    · have hm' : m < B.1 - 1 := hm
      have := (b3 m (by omega)).fr (g1 := zset s 3 1 (nI (B.1 - 1))) (zs_cell (by omega)) (zs_cell (by omega)) (zs_cell (by omega))
      show zCM _ (3 + 1 + 1 + 3 * m) (if m < x then B.2.1 m else B.2.1 (m + 1))
      by_cases q : m < x
      · rw [if_neg (by omega)] at this; rw [if_pos q]; exact this
      · rw [if_pos (by omega)] at this; rw [if_neg q]; exact this
    · rw [zs_miss (by omega), b2 3 (by omega)]; exact e3
    · rw [zs_miss (by omega), b2 3 (by omega)]; exact e4
    · rw [zs_miss (by omega), b2 3 (by omega)]; exact e5
theorem m_burn {S : zS} (hS : zSW S) (v : Int32) : zDo [1] S (fX11_burn v) (fX12_burn v) := by
  have h8 := hS.eight
  rcases zix v (zsz hS) with h | ⟨l, hl, rfl⟩
  · refine zDo.err hS (c := 1) (t := 1) (b := 0) (by decide) (fun g e => ?_) (fun g e => ?_)
    · unfold fX11_burn; rw [c_needLetter_no e h, zb3_e]
    · unfold fX12_burn; simp only [zb_s, zb2_s, zb3_s, zb3_e, zjoin_e, zput_e, r_thr0, r_thr1, zi10, zi01, if_true, if_false, r_noLetter_no hS (e.thr hS 0) h]
  have hSr := zSrem_W hS
  refine ⟨.ok (nI ((zSB S).1 - 1)), zSset (zSrem S) (zBdr (zSB S) l), zSset_W hSr (zBdr_W hSr.2.2.1.1 l), fun g e => ?_, fun g e => ?_⟩
  · obtain ⟨g1, a1, a2, a3, a4⟩ := c_remember hS e
    obtain ⟨g2, b1, b2, b3⟩ := c_bagDrop a2.2.2.2.1.1 hSr.2.2.1.1 (x := l) hl
    refine ⟨g2, ?_, a2.bag hSr b2 (fun c h1 h2 h3 h4 => b3 c h1), fun c h => by rw [b3 c (by omega)]; exact a4 c (by omega)⟩
    unfold fX11_burn
    rw [c_needLetter hS e hl, zb3_s, a1, zb_s, b1, zb_s, b2.1]
    rfl
  · have e0 := e.thr hS 0
    obtain ⟨g1, a1, a2, a3, a4⟩ := r_remembers hS e0
    have z0 : g1 494 0 = nI (zSB S).1 := a2.size
    have hRB : zRB g1 494 0 (zSB S) := a2.2.2.2.1.1
    have hBW : zBW (zSB S) := hS.2.2.1.1
    generalize hBB : zSB S = B at *
    have loop : ∃ g2, fX12_burn_L30 (fun g11 => zchk 0 2158 (zchk 0 2158 (zput g11 494 (0 : Int32).toNatClampNeg ((g11 494 (0 : Int32).toNatClampNeg) - 1) (fun g14 => zb (fX12_letters g14) (fun r_15 => some (r_15, g14)))))) zFU (nI (36 + 53 * l)) g1 = some (nI (B.1 - 1), zset g2 494 0 (nI (B.1 - 1))) ∧ (∀ c, c ≠ 494 → g2 c = g1 c) ∧ ∀ k, g2 494 k = if 36 + 53 * l ≤ k ∧ k < 407 then g1 494 (k + 53) else g1 494 k := by
      refine zL_Q (fun n i (s : zM) => fX12_burn_L30 _ n (nI i) s) (fun i s => 36 + 53 * l ≤ i ∧ (∀ c, c ≠ 494 → s c = g1 c) ∧ ∀ k, s 494 k = if 36 + 53 * l ≤ k ∧ k < i then g1 494 (k + 53) else g1 494 k) 407 (fun r => ∃ g2, r = some (nI (B.1 - 1), zset g2 494 0 (nI (B.1 - 1))) ∧ (∀ c, c ≠ 494 → g2 c = g1 c) ∧ ∀ k, g2 494 k = if 36 + 53 * l ≤ k ∧ k < 407 then g1 494 (k + 53) else g1 494 k) (fun n i s hi hh => Or.inr ?_) (fun n s hh => ?_) (407 - (36 + 53 * l)) (36 + 53 * l) zFU g1 (by omega) (by unfold zFU; omega) ⟨Nat.le_refl _, fun _ _ => rfl, fun k => by rw [if_neg (by omega)]⟩
      · obtain ⟨b1, b2, b3⟩ := hh
        have c1 : s 494 (i + 53) = g1 494 (i + 53) := by rw [b3, if_neg (by omega)]
        refine ⟨zset s 494 i (g1 494 (i + 53)), ⟨by omega, fun c hc => by rw [zs_cell hc]; exact b2 c hc, fun k => ?_⟩, ?_⟩
        · by_cases q : k = i
          · subst q; rw [zs_hit ⟨rfl, rfl⟩, if_pos (by omega)]
          · rw [zs_miss (by omega), b3]
            by_cases q2 : 36 + 53 * l ≤ k ∧ k < i
            · rw [if_pos q2, if_pos (by omega)]
            · rw [if_neg q2, if_neg (by omega)]
        · simp only [fX12_burn_L30]
          simp (disch := omega) only [nL_lt, nL_gt, nL_le, nL_ge, nL_eq, nL_qe, nI_ltI, nI_leI, nI_eq, nL_add, nL_dda, nI_add, nL_sub, pk_sub, nL_mul, nL_clamp, nI_cl, zchk_n, zchk_l, zb_s, zb2_s, zb3_s, zb3_e, zput_e, zjoin_e, zs_hit, zs_miss, nle_t, nle_f, nlt_t, nlt_f, neq_t, neq_f, ↓reduceIte, and_self, and_true, true_and, and_false, false_and, not_true_eq_false, not_false_eq_true, Nat.add_zero, c1]
      · obtain ⟨b1, b2, b3⟩ := hh
        have c0 : s 494 0 = nI B.1 := by rw [b3, if_neg (by omega)]; exact z0
        refine ⟨s, ?_, b2, b3⟩
        simp only [fX12_burn_L30, fX12_letters]
        simp (disch := omega) only [nL_lt, nL_gt, nL_le, nL_ge, nL_eq, nL_qe, nI_ltI, nI_leI, nI_eq, nL_add, nL_dda, nI_add, nL_sub, pk_sub, nL_mul, nL_clamp, nI_cl, zchk_n, zchk_l, zb_s, zb2_s, zb3_s, zb3_e, zput_e, zjoin_e, zs_hit, zs_miss, nle_t, nle_f, nlt_t, nlt_f, neq_t, neq_f, ↓reduceIte, and_self, and_true, true_and, and_false, false_and, not_true_eq_false, not_false_eq_true, Nat.add_zero, c0]
    obtain ⟨g2, b1, b2, b3⟩ := loop
    have hnl : fX12_noLetter (nI l) (zset g 493 0 0) = some 0 := r_noLetter hS e0 (by rw [hBB]; exact hl)
    have at0 : fX12_at (nI l) 0 g1 = some (nI (36 + 53 * l)) := by unfold fX12_at; simp (disch := omega) only [nL_lt, nL_gt, nL_le, nL_ge, nL_eq, nL_qe, nI_ltI, nI_leI, nI_eq, nL_add, nL_dda, nI_add, nL_sub, pk_sub, nL_mul, nL_clamp, nI_cl, zchk_n, zchk_l, zb_s, zb2_s, zb3_s, zb3_e, zput_e, zjoin_e, zs_hit, zs_miss, nle_t, nle_f, nlt_t, nlt_f, neq_t, neq_f, ↓reduceIte, and_self, and_true, true_and, and_false, false_and, not_true_eq_false, not_false_eq_true, Nat.add_zero]
    have res : fX12_burn (nI l) g = some (nI (B.1 - 1), zset g2 494 0 (nI (B.1 - 1))) := by
      unfold fX12_burn
      simp only [zb_s, zb2_s, zb3_s, zb3_e, zjoin_e, zput_e, r_thr0, r_thr1, zi10, zi01, if_true, if_false, hnl, a1, at0]
      exact b1
    have hR : zRB (zset g2 494 0 (nI (B.1 - 1))) 494 0 (zBdr B l) := by
      obtain ⟨e1, e2, e3, e4, e5⟩ := hRB
      simp only [Nat.zero_add] at e1 e2 e3 e4 e5
      refine ⟨zs_hit ⟨rfl, rfl⟩, fun m hm => ?_, by rw [zs_miss (by omega), b3, if_neg (by omega)]; exact e3, by rw [zs_miss (by omega), b3, if_neg (by omega)]; exact e4, by rw [zs_miss (by omega), b3, if_neg (by omega)]; exact e5⟩
      have hm' : m < B.1 - 1 := hm
      show zRM _ 494 (0 + 36 + 53 * m) (if m < l then B.2.1 m else B.2.1 (m + 1))
      rw [Nat.zero_add]
      by_cases q : m < l
      · rw [if_pos q]
        exact (e2 m (by omega)).fr (fun k h1 h2 => by rw [zs_miss (by omega), b3, if_neg (by omega)]) (hBW.2 m (by omega)).2.1
      · rw [if_neg q]
        refine (e2 (m + 1) (by omega)).move (hBW.2 (m + 1) (by omega)).2.1 (fun k hk => ?_)
        rw [zs_miss (by omega), b3, if_pos (by omega), show 36 + 53 * m + k + 53 = 36 + 53 * (m + 1) + k from by omega]
    have f1 : zFO g1 (zset g2 494 0 (nI (B.1 - 1))) := ⟨fun c _ h _ _ => by rw [zs_cell h]; exact b2 c h, fun k _ => by rw [zs_cell (by omega), b2 493 (by omega)], fun k hk => by rw [zs_miss (by omega), b3, if_neg (by omega)], fun k h1 h2 _ _ _ => by rw [zs_miss (by omega), b3, if_neg (by omega)]⟩
    exact ⟨_, _, res, a2.bag hSr f1 hR, fun c h => by rw [zs_cell (by omega), b2 c (by omega), a3 c (by omega) (by omega), zs_cell (by omega)], by rw [zs_cell (by omega), b2 508 (by omega), a3 508 (by omega) (by omega), zs_cell (by omega)], by rw [zs_cell (by omega), b2 493 (by omega), a4 0 (by omega)]; simp (disch := omega) only [nL_lt, nL_gt, nL_le, nL_ge, nL_eq, nL_qe, nI_ltI, nI_leI, nI_eq, nL_add, nL_dda, nI_add, nL_sub, pk_sub, nL_mul, nL_clamp, nI_cl, zchk_n, zchk_l, zb_s, zb2_s, zb3_s, zb3_e, zput_e, zjoin_e, zs_hit, zs_miss, nle_t, nle_f, nlt_t, nlt_f, neq_t, neq_f, ↓reduceIte, and_self, and_true, true_and, and_false, false_and, not_true_eq_false, not_false_eq_true, Nat.add_zero], rfl⟩
