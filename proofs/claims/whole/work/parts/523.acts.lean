/-! what is remembered; WEEKS, TRIAL, SPAN -/
theorem zL_I {σ β : Type} (F : Nat → Nat → σ → Option β) (I : Nat → σ → Prop) (N : Nat) (Q : Option β → Prop) (s : σ) (hN : N < 100000) (h0 : I 0 s) (hs : ∀ n i s, i < N → I i s → ∃ s', I (i + 1) s' ∧ F (n + 1) i s = F n (i + 1) s') (he : ∀ n s, I N s → Q (F (n + 1) N s)) : Q (F zFU 0 s) := zL_Q0 F I N Q s hN h0 (fun n i s hi h => Or.inr (hs n i s hi h)) he
theorem c_bagBecome {g : zM} {h r : Nat} {B : zB'} (e : zCB g r B) (hB : zBW B) (hd : r + 26 ≤ h ∨ h + 26 ≤ r) : ∃ g1, fX0_become h r g = some g1 ∧ zCB g1 h B ∧ ∀ c, (c < h ∨ h + 26 ≤ c) → g1 c = g c := by
  have h8 := hB.1
  obtain ⟨e1, e2, e3, e4, e5⟩ := e
  unfold fX0_become
  refine zL_I (fun n i (s : zM) => fX0_become_L2 h r _ n (nI i) s) (fun i s => (∀ c, (c < h + 2 ∨ h + 26 ≤ c) → s c = g c) ∧ ∀ l, l < i → zCM s (h + 1 + 1 + 3 * l) (B.2.1 l)) B.1 (fun x => ∃ g1, x = some g1 ∧ zCB g1 h B ∧ ∀ c, (c < h ∨ h + 26 ≤ c) → g1 c = g c) g (by omega) ⟨fun _ _ => rfl, fun l hl => absurd hl (by omega)⟩ (fun n i s hi hh => ?_) (fun n s hh => ?_)
  · obtain ⟨b1, b2⟩ := hh
    have sz : s r 1 = nI B.1 := by rw [b1 r (by omega)]; exact e1
    have er : zCM s (r + 1 + 1 + 3 * i) (B.2.1 i) := (e2 i hi).fr (b1 _ (by omega)) (b1 _ (by omega)) (b1 _ (by omega))
    obtain ⟨s1, c1, c2, c3⟩ := c_become (h := h + 1 + 1 + 3 * i) er (by omega) (hB.2 i hi).2.1
    refine ⟨s1, ⟨fun c hc => by rw [c3 c (by omega) (by omega) (by omega)]; exact b1 c hc, fun l hl => ?_⟩, ?_⟩
    · by_cases q : l = i
      · rw [q]; exact c2
      · exact (b2 l (by omega)).fr (c3 _ (by omega) (by omega) (by omega)) (c3 _ (by omega) (by omega) (by omega)) (c3 _ (by omega) (by omega) (by omega))
    · simp only [fX0_become_L2, sz]
      simp (disch := omega) only [nL_lt, nL_gt, nL_le, nL_ge, nL_eq, nL_qe, nI_ltI, nI_leI, nI_eq, nL_add, nL_dda, nI_add, nL_sub, pk_sub, nL_mul, nL_clamp, nI_cl, zchk_n, zchk_l, zb_s, zb2_s, zb3_s, zb3_e, zput_e, zjoin_e, zs_hit, zs_miss, nle_t, nle_f, nlt_t, nlt_f, neq_t, neq_f, ↓reduceIte, and_self, and_true, true_and, and_false, false_and, not_true_eq_false, not_false_eq_true, Nat.add_zero, c1]
  · obtain ⟨b1, b2⟩ := hh
    have sz : s r 1 = nI B.1 := by rw [b1 r (by omega)]; exact e1
    have fr : s r = g r := b1 r (by omega)
    simp only [fX0_become_L2, sz]
    simp (disch := omega) only [nL_lt, nL_gt, nL_le, nL_ge, nL_eq, nL_qe, nI_ltI, nI_leI, nI_eq, nL_add, nL_dda, nI_add, nL_sub, pk_sub, nL_mul, nL_clamp, nI_cl, zchk_n, zchk_l, zb_s, zb2_s, zb3_s, zb3_e, zput_e, zjoin_e, zs_hit, zs_miss, nle_t, nle_f, nlt_t, nlt_f, neq_t, neq_f, ↓reduceIte, and_self, and_true, true_and, and_false, false_and, not_true_eq_false, not_false_eq_true, Nat.add_zero, fr]
    refine ⟨_, rfl, ⟨?_, fun l hl => ?_, ?_, ?_, ?_⟩, fun c hc => ?_⟩
    · simp (disch := omega) only [nL_lt, nL_gt, nL_le, nL_ge, nL_eq, nL_qe, nI_ltI, nI_leI, nI_eq, nL_add, nL_dda, nI_add, nL_sub, pk_sub, nL_mul, nL_clamp, nI_cl, zchk_n, zchk_l, zb_s, zb2_s, zb3_s, zb3_e, zput_e, zjoin_e, zs_hit, zs_miss, nle_t, nle_f, nlt_t, nlt_f, neq_t, neq_f, ↓reduceIte, and_self, and_true, true_and, and_false, false_and, not_true_eq_false, not_false_eq_true, Nat.add_zero, fr]
    · exact (b2 l hl).fr (by simp (disch := omega) only [nL_lt, nL_gt, nL_le, nL_ge, nL_eq, nL_qe, nI_ltI, nI_leI, nI_eq, nL_add, nL_dda, nI_add, nL_sub, pk_sub, nL_mul, nL_clamp, nI_cl, zchk_n, zchk_l, zb_s, zb2_s, zb3_s, zb3_e, zput_e, zjoin_e, zs_hit, zs_miss, nle_t, nle_f, nlt_t, nlt_f, neq_t, neq_f, ↓reduceIte, and_self, and_true, true_and, and_false, false_and, not_true_eq_false, not_false_eq_true, Nat.add_zero, zs_cell]) (by simp (disch := omega) only [nL_lt, nL_gt, nL_le, nL_ge, nL_eq, nL_qe, nI_ltI, nI_leI, nI_eq, nL_add, nL_dda, nI_add, nL_sub, pk_sub, nL_mul, nL_clamp, nI_cl, zchk_n, zchk_l, zb_s, zb2_s, zb3_s, zb3_e, zput_e, zjoin_e, zs_hit, zs_miss, nle_t, nle_f, nlt_t, nlt_f, neq_t, neq_f, ↓reduceIte, and_self, and_true, true_and, and_false, false_and, not_true_eq_false, not_false_eq_true, Nat.add_zero, zs_cell]) (by simp (disch := omega) only [nL_lt, nL_gt, nL_le, nL_ge, nL_eq, nL_qe, nI_ltI, nI_leI, nI_eq, nL_add, nL_dda, nI_add, nL_sub, pk_sub, nL_mul, nL_clamp, nI_cl, zchk_n, zchk_l, zb_s, zb2_s, zb3_s, zb3_e, zput_e, zjoin_e, zs_hit, zs_miss, nle_t, nle_f, nlt_t, nlt_f, neq_t, neq_f, ↓reduceIte, and_self, and_true, true_and, and_false, false_and, not_true_eq_false, not_false_eq_true, Nat.add_zero, zs_cell])
    · simp (disch := omega) only [nL_lt, nL_gt, nL_le, nL_ge, nL_eq, nL_qe, nI_ltI, nI_leI, nI_eq, nL_add, nL_dda, nI_add, nL_sub, pk_sub, nL_mul, nL_clamp, nI_cl, zchk_n, zchk_l, zb_s, zb2_s, zb3_s, zb3_e, zput_e, zjoin_e, zs_hit, zs_miss, nle_t, nle_f, nlt_t, nlt_f, neq_t, neq_f, ↓reduceIte, and_self, and_true, true_and, and_false, false_and, not_true_eq_false, not_false_eq_true, Nat.add_zero, fr]; exact e3
    · simp (disch := omega) only [nL_lt, nL_gt, nL_le, nL_ge, nL_eq, nL_qe, nI_ltI, nI_leI, nI_eq, nL_add, nL_dda, nI_add, nL_sub, pk_sub, nL_mul, nL_clamp, nI_cl, zchk_n, zchk_l, zb_s, zb2_s, zb3_s, zb3_e, zput_e, zjoin_e, zs_hit, zs_miss, nle_t, nle_f, nlt_t, nlt_f, neq_t, neq_f, ↓reduceIte, and_self, and_true, true_and, and_false, false_and, not_true_eq_false, not_false_eq_true, Nat.add_zero, fr]; exact e4
    · simp (disch := omega) only [nL_lt, nL_gt, nL_le, nL_ge, nL_eq, nL_qe, nI_ltI, nI_leI, nI_eq, nL_add, nL_dda, nI_add, nL_sub, pk_sub, nL_mul, nL_clamp, nI_cl, zchk_n, zchk_l, zb_s, zb2_s, zb3_s, zb3_e, zput_e, zjoin_e, zs_hit, zs_miss, nle_t, nle_f, nlt_t, nlt_f, neq_t, neq_f, ↓reduceIte, and_self, and_true, true_and, and_false, false_and, not_true_eq_false, not_false_eq_true, Nat.add_zero, fr]; exact e5
    · simp (disch := omega) only [nL_lt, nL_gt, nL_le, nL_ge, nL_eq, nL_qe, nI_ltI, nI_leI, nI_eq, nL_add, nL_dda, nI_add, nL_sub, pk_sub, nL_mul, nL_clamp, nI_cl, zchk_n, zchk_l, zb_s, zb2_s, zb3_s, zb3_e, zput_e, zjoin_e, zs_hit, zs_miss, nle_t, nle_f, nlt_t, nlt_f, neq_t, neq_f, ↓reduceIte, and_self, and_true, true_and, and_false, false_and, not_true_eq_false, not_false_eq_true, Nat.add_zero, zs_cell]; exact b1 c (by omega)
/-- the state with one more remembered -/
def zSrem (S : zS) : zS := (S.1, S.2.1, S.2.2.1, S.2.2.2.1, S.2.2.2.2.1, S.2.2.2.2.2.1, min (S.2.2.2.2.2.2.1 + 1) 12, fun j => if S.2.2.2.2.2.2.1 < 12 then (if j < S.2.2.2.2.2.2.1 then S.2.2.2.2.2.2.2 j else zSB S) else if j < 11 then S.2.2.2.2.2.2.2 (j + 1) else zSB S)
theorem zSrem_W {S : zS} (hS : zSW S) : zSW (zSrem S) := by
  obtain ⟨h1, h2, h3, h4, h5, h6⟩ := hS
  refine ⟨h1, h2, h3, h4, Nat.min_le_right _ _, fun j hj => ?_⟩
  have hj' : j < min (S.2.2.2.2.2.2.1 + 1) 12 := hj
  show zBW (if S.2.2.2.2.2.2.1 < 12 then (if j < S.2.2.2.2.2.2.1 then S.2.2.2.2.2.2.2 j else zSB S) else if j < 11 then S.2.2.2.2.2.2.2 (j + 1) else zSB S)
  split
  · split
    · exact h6 j (by assumption)
    · exact h3.1
  · split
    · exact h6 (j + 1) (by omega)
    · exact h3.1
theorem c_remember {S : zS} {g : zM} (hS : zSW S) (e : zCI S g) : ∃ g1, fX4_remember 3 g = some g1 ∧ zCI (zSrem S) g1 ∧ (∀ c, c < 76 → g1 c = g c) ∧ ∀ c, 390 ≤ c → g1 c = g c := by
  have hB := hS.2.2.1.1
  have hm := hS.2.2.2.2.1
  obtain ⟨e1, e2, e3, e4, e5, e6, ⟨p, hp, e7, e8⟩, e9, e10, e11⟩ := e
  obtain ⟨g1, a1, a2, a3⟩ := c_bagBecome (h := 77 + 1 + 26 * p) e4.1 hB (by omega)
  have f76 : g1 76 = g 76 := a3 76 (by omega)
  have hrem : nI (p + 1) - nI (p + 1) / 12 * 12 = nI ((p + 1) % 12) := pk_rem12 (by omega)
  have hmin : (if 12 < nI (S.2.2.2.2.2.2.1 + 1) then (12 : Int32) else nI (S.2.2.2.2.2.2.1 + 1)) = nI (min (S.2.2.2.2.2.2.1 + 1) 12) := by
    by_cases q : S.2.2.2.2.2.2.1 = 12
    · rw [q]; rfl
    · rw [show min (S.2.2.2.2.2.2.1 + 1) 12 = S.2.2.2.2.2.2.1 + 1 from by omega]
      simp (disch := omega) only [nL_lt, nL_gt, nL_le, nL_ge, nL_eq, nL_qe, nI_ltI, nI_leI, nI_eq, nL_add, nL_dda, nI_add, nL_sub, pk_sub, nL_mul, nL_clamp, nI_cl, zchk_n, zchk_l, zb_s, zb2_s, zb3_s, zb3_e, zput_e, zjoin_e, zs_hit, zs_miss, nle_t, nle_f, nlt_t, nlt_f, neq_t, neq_f, ↓reduceIte, and_self, and_true, true_and, and_false, false_and, not_true_eq_false, not_false_eq_true, Nat.add_zero]
  have whole : fX4_remember 3 g = some (zset (zset g1 76 1 (nI ((p + 1) % 12))) 76 2 (nI (min (S.2.2.2.2.2.2.1 + 1) 12))) := by
    unfold fX4_remember
    rw [e7]
    simp (disch := omega) only [zchk_n, nI_cl, a1, zb_s, zput_e, f76, e7, nI_1, hrem, zs_miss, e9, hmin]
  have fr : ∀ c, c < 76 → (zset (zset g1 76 1 (nI ((p + 1) % 12))) 76 2 (nI (min (S.2.2.2.2.2.2.1 + 1) 12))) c = g c := fun c hc => by rw [zs_cell (by omega), zs_cell (by omega)]; exact a3 c (by omega)
  have fr2 : ∀ c, 390 ≤ c → (zset (zset g1 76 1 (nI ((p + 1) % 12))) 76 2 (nI (min (S.2.2.2.2.2.2.1 + 1) 12))) c = g c := fun c hc => by rw [zs_cell (by omega), zs_cell (by omega)]; exact a3 c (by omega)
  refine ⟨_, whole, ⟨by rw [fr 0 (by omega)]; exact e1, fun i hi => by rw [fr 1 (by omega)]; exact e2 i hi, by rw [fr 0 (by omega)]; exact e3, e4.fr hS.2.2.1 (fun c _ _ _ _ => fr c (by omega)), by rw [fr 0 (by omega)]; exact e5, fun q => (e6 q).fr (hS.2.2.2.1 q) (fun c _ _ _ _ => fr c (by omega)), ⟨(p + 1) % 12, by omega, by simp (disch := omega) only [nL_lt, nL_gt, nL_le, nL_ge, nL_eq, nL_qe, nI_ltI, nI_leI, nI_eq, nL_add, nL_dda, nI_add, nL_sub, pk_sub, nL_mul, nL_clamp, nI_cl, zchk_n, zchk_l, zb_s, zb2_s, zb3_s, zb3_e, zput_e, zjoin_e, zs_hit, zs_miss, nle_t, nle_f, nlt_t, nlt_f, neq_t, neq_f, ↓reduceIte, and_self, and_true, true_and, and_false, false_and, not_true_eq_false, not_false_eq_true, Nat.add_zero], fun j hj => ?_⟩, by simp (disch := omega) only [nL_lt, nL_gt, nL_le, nL_ge, nL_eq, nL_qe, nI_ltI, nI_leI, nI_eq, nL_add, nL_dda, nI_add, nL_sub, pk_sub, nL_mul, nL_clamp, nI_cl, zchk_n, zchk_l, zb_s, zb2_s, zb3_s, zb3_e, zput_e, zjoin_e, zs_hit, zs_miss, nle_t, nle_f, nlt_t, nlt_f, neq_t, neq_f, ↓reduceIte, and_self, and_true, true_and, and_false, false_and, not_true_eq_false, not_false_eq_true, Nat.add_zero]; rfl, by rw [fr2 481 (by omega)]; exact e10, by rw [fr2 482 (by omega)]; exact e11⟩, fr, fr2⟩
  have hj' : j < min (S.2.2.2.2.2.2.1 + 1) 12 := hj
  show zCB _ (77 + 1 + 26 * (((p + 1) % 12 + 12 - min (S.2.2.2.2.2.2.1 + 1) 12 + j) % 12)) (if S.2.2.2.2.2.2.1 < 12 then (if j < S.2.2.2.2.2.2.1 then S.2.2.2.2.2.2.2 j else zSB S) else if j < 11 then S.2.2.2.2.2.2.2 (j + 1) else zSB S)
  have old : ∀ j', j' < S.2.2.2.2.2.2.1 → ∀ x, x = (p + 12 - S.2.2.2.2.2.2.1 + j') % 12 → x ≠ p → zCB (zset (zset g1 76 1 (nI ((p + 1) % 12))) 76 2 (nI (min (S.2.2.2.2.2.2.1 + 1) 12))) (77 + 1 + 26 * x) (S.2.2.2.2.2.2.2 j') := by
    intro j' hj' x hx hxp
    have hx12 : x < 12 := by omega
    have := e8 j' hj'
    rw [← hx] at this
    exact this.fr (hS.2.2.2.2.2 j' hj').1 (fun c h1 h2 => by rw [zs_cell (by omega), zs_cell (by omega)]; exact a3 c (by omega))
  have new : zCB (zset (zset g1 76 1 (nI ((p + 1) % 12))) 76 2 (nI (min (S.2.2.2.2.2.2.1 + 1) 12))) (77 + 1 + 26 * p) (zSB S) := a2.fr hB.1 (fun c h1 h2 => by rw [zs_cell (by omega), zs_cell (by omega)])
  by_cases q : S.2.2.2.2.2.2.1 < 12
  · rw [if_pos q, show min (S.2.2.2.2.2.2.1 + 1) 12 = S.2.2.2.2.2.2.1 + 1 from by omega]
    by_cases q2 : j < S.2.2.2.2.2.2.1
    · rw [if_pos q2, show min (S.2.2.2.2.2.2.1 + 1) 12 = S.2.2.2.2.2.2.1 + 1 from by omega] at *
      have := old j q2 _ (show ((p + 1) % 12 + 12 - (S.2.2.2.2.2.2.1 + 1) + j) % 12 = (p + 12 - S.2.2.2.2.2.2.1 + j) % 12 from by omega) (by omega)
      exact this
    · rw [if_neg q2, show min (S.2.2.2.2.2.2.1 + 1) 12 = S.2.2.2.2.2.2.1 + 1 from by omega] at *
      rw [show ((p + 1) % 12 + 12 - (S.2.2.2.2.2.2.1 + 1) + j) % 12 = p from by omega]
      exact new
  · rw [if_neg q]
    have hm12 : S.2.2.2.2.2.2.1 = 12 := by omega
    by_cases q2 : j < 11
    · rw [if_pos q2]
      have hidx : ((p + 1) % 12 + 12 - min (S.2.2.2.2.2.2.1 + 1) 12 + j) % 12 = (p + 12 - S.2.2.2.2.2.2.1 + (j + 1)) % 12 := by omega
      exact old (j + 1) (by omega) _ hidx (by omega)
    · rw [if_neg q2, show ((p + 1) % 12 + 12 - min (S.2.2.2.2.2.2.1 + 1) 12 + j) % 12 = p from by omega]
      exact new
theorem zRB.move {g g1 : zM} {a b o p : Nat} {B : zB'} (e : zRB g a o B) (hB : zBW B) (f : ∀ k, k < 460 → g1 b (p + k) = g a (o + k)) : zRB g1 b p B := by
  have h8 := hB.1
  obtain ⟨e1, e2, e3, e4, e5⟩ := e
  have f0 := f 0 (by omega)
  rw [Nat.add_zero, Nat.add_zero] at f0
  refine ⟨by rw [f0]; exact e1, fun l hl => ?_, by rw [f 4 (by omega)]; exact e3, by rw [f 7 (by omega)]; exact e4, by rw [f 6 (by omega)]; exact e5⟩
  have h24 := (hB.2 l hl).2.1
  obtain ⟨l1, l2, l3, l4, l5, l6, l7⟩ := e2 l hl
  have ff : ∀ k, k < 53 → g1 b (p + 36 + 53 * l + k) = g a (o + 36 + 53 * l + k) := fun k hk => by
    have := f (36 + 53 * l + k) (by omega)
    rw [show p + 36 + 53 * l + k = p + (36 + 53 * l + k) from by omega, show o + 36 + 53 * l + k = o + (36 + 53 * l + k) from by omega]
    exact this
  have ff0 := ff 0 (by omega)
  rw [Nat.add_zero, Nat.add_zero] at ff0
  refine ⟨by rw [ff0]; exact l1, fun i hi => ?_, fun i hi => ?_, by rw [ff 1 (by omega)]; exact l4, by rw [ff 2 (by omega)]; exact l5, by rw [ff 3 (by omega)]; exact l6, by rw [ff 4 (by omega)]; exact l7⟩
  · rw [show p + 36 + 53 * l + 5 + i = p + 36 + 53 * l + (5 + i) from by omega, ff (5 + i) (by omega), show o + 36 + 53 * l + (5 + i) = o + 36 + 53 * l + 5 + i from by omega]
    exact l2 i hi
  · rw [show p + 36 + 53 * l + 29 + i = p + 36 + 53 * l + (29 + i) from by omega, ff (29 + i) (by omega), show o + 36 + 53 * l + (29 + i) = o + 36 + 53 * l + 29 + i from by omega]
    exact l3 i hi
theorem r_remembers {S : zS} {g : zM} (hS : zSW S) (e : zRI S g) : ∃ g1, fX12_remembers g = some g1 ∧ zRI (zSrem S) g1 ∧ (∀ c, c ≠ 493 → c ≠ 498 → g1 c = g c) ∧ ∀ k, k ≠ 7 → g1 493 k = g 493 k := by
  have hB := hS.2.2.1.1
  have hm := hS.2.2.2.2.1
  obtain ⟨e1, e2, e3, e4, e5, e6, e7, e8⟩ := e
  -- writing the world behind m - 1 others
  have tail : ∀ (g0 : zM) (m : Nat), 1 ≤ m → m ≤ 12 → g0 493 7 = nI m → g0 494 = g 494 → ∃ g1, fX12_remembers_L55 zFU 0 g0 = some g1 ∧ (∀ c, c ≠ 498 → g1 c = g0 c) ∧ (∀ x, x < 460 * (m - 1) → g1 498 x = g0 498 x) ∧ ∀ k, k < 460 → g1 498 (460 * (m - 1) + k) = g 494 k := by
    intro g0 m h1 h2 h3 h4
    refine zL_I (fun n i (s : zM) => fX12_remembers_L55 n (nI i) s) (fun i s => (∀ c, c ≠ 498 → s c = g0 c) ∧ (∀ x, x < 460 * (m - 1) → s 498 x = g0 498 x) ∧ ∀ k, k < i → s 498 (460 * (m - 1) + k) = g 494 k) 460 (fun x => ∃ g1, x = some g1 ∧ (∀ c, c ≠ 498 → g1 c = g0 c) ∧ (∀ x, x < 460 * (m - 1) → g1 498 x = g0 498 x) ∧ ∀ k, k < 460 → g1 498 (460 * (m - 1) + k) = g 494 k) g0 (by omega) ⟨fun _ _ => rfl, fun _ _ => rfl, fun k hk => absurd hk (by omega)⟩ (fun n i s hi hh => ?_) (fun n s hh => ?_)
    · obtain ⟨b1, b2, b3⟩ := hh
      have c1 : s 493 7 = nI m := by rw [b1 493 (by omega)]; exact h3
      have c2 : s 494 i = g 494 i := by rw [b1 494 (by omega), h4]
      refine ⟨zset s 498 (460 * (m - 1) + i) (g 494 i), ⟨fun c hc => by rw [zs_cell hc]; exact b1 c hc, fun x hx => by rw [zs_miss (by omega)]; exact b2 x hx, fun k hk => ?_⟩, ?_⟩
      · by_cases q : k = i
        · subst q; rw [zs_hit ⟨rfl, rfl⟩]
        · rw [zs_miss (by omega)]; exact b3 k (by omega)
      · simp only [fX12_remembers_L55, c1]
        simp (disch := omega) only [nL_lt, nL_gt, nL_le, nL_ge, nL_eq, nL_qe, nI_ltI, nI_leI, nI_eq, nL_add, nL_dda, nI_add, nL_sub, pk_sub, nL_mul, nL_clamp, nI_cl, zchk_n, zchk_l, zb_s, zb2_s, zb3_s, zb3_e, zput_e, zjoin_e, zs_hit, zs_miss, nle_t, nle_f, nlt_t, nlt_f, neq_t, neq_f, ↓reduceIte, and_self, and_true, true_and, and_false, false_and, not_true_eq_false, not_false_eq_true, Nat.add_zero, c2]
    · obtain ⟨b1, b2, b3⟩ := hh
      simp only [fX12_remembers_L55]
      exact ⟨s, by simp (disch := omega) only [nL_lt, nL_gt, nL_le, nL_ge, nL_eq, nL_qe, nI_ltI, nI_leI, nI_eq, nL_add, nL_dda, nI_add, nL_sub, pk_sub, nL_mul, nL_clamp, nI_cl, zchk_n, zchk_l, zb_s, zb2_s, zb3_s, zb3_e, zput_e, zjoin_e, zs_hit, zs_miss, nle_t, nle_f, nlt_t, nlt_f, neq_t, neq_f, ↓reduceIte, and_self, and_true, true_and, and_false, false_and, not_true_eq_false, not_false_eq_true, Nat.add_zero], b1, b2, b3⟩
  have fin : ∀ (g0 g1 : zM) (m : Nat), m = min (S.2.2.2.2.2.2.1 + 1) 12 → g0 493 7 = nI m → (∀ c, c ≠ 493 → c ≠ 498 → g0 c = g c) → (∀ k, k ≠ 7 → g0 493 k = g 493 k) → (∀ j, j < m - 1 → ∀ k, k < 460 → g0 498 (460 * j + k) = g 498 (460 * (if S.2.2.2.2.2.2.1 < 12 then j else j + 1) + k)) → (∀ c, c ≠ 498 → g1 c = g0 c) → (∀ x, x < 460 * (m - 1) → g1 498 x = g0 498 x) → (∀ k, k < 460 → g1 498 (460 * (m - 1) + k) = g 494 k) → zRI (zSrem S) g1 ∧ (∀ c, c ≠ 493 → c ≠ 498 → g1 c = g c) ∧ ∀ k, k ≠ 7 → g1 493 k = g 493 k := by
    intro g0 g1 m hmm h7 q1 q2 q3 q4 q5 q6
    have f1 : ∀ c, c ≠ 493 → c ≠ 498 → g1 c = g c := fun c h1 h2 => by rw [q4 c h2, q1 c h1 h2]
    have f2 : ∀ k, k ≠ 7 → g1 493 k = g 493 k := fun k hk => by rw [q4 493 (by omega), q2 k hk]
    refine ⟨⟨by rw [f2 9 (by omega)]; exact e1, fun i hi => by rw [f1 499 (by omega) (by omega)]; exact e2 i hi, by rw [f2 14 (by omega)]; exact e3, e4.fr hS.2.2.1 (fun k _ => by rw [f1 494 (by omega) (by omega)]), by rw [f2 6 (by omega)]; exact e5, fun q => (e6 q).fr (hS.2.2.2.1 q) (fun k _ => by rw [f1 495 (by omega) (by omega)]), by rw [q4 493 (by omega), h7, hmm]; rfl, fun j hj => ?_⟩, f1, f2⟩
    have hj' : j < min (S.2.2.2.2.2.2.1 + 1) 12 := hj
    show zRB g1 498 (460 * j) (if S.2.2.2.2.2.2.1 < 12 then (if j < S.2.2.2.2.2.2.1 then S.2.2.2.2.2.2.2 j else zSB S) else if j < 11 then S.2.2.2.2.2.2.2 (j + 1) else zSB S) ∧ _
    have w494 : g1 494 = g 494 := f1 494 (by omega) (by omega)
    rw [w494]
    have old : j < m - 1 → ∀ k, k < 460 → g1 498 (460 * j + k) = g 498 (460 * (if S.2.2.2.2.2.2.1 < 12 then j else j + 1) + k) := fun hj k hk => by
      rw [q5 _ (by omega)]
      exact q3 j hj k hk
    by_cases q : S.2.2.2.2.2.2.1 < 12
    · rw [if_pos q]
      by_cases q2 : j < S.2.2.2.2.2.2.1
      · rw [if_pos q2]
        have o := old (by omega)
        rw [if_pos q] at o
        refine ⟨(e8 j q2).1.move (hS.2.2.2.2.2 j q2) o, fun c h1 h2 h3 h4 h5 => ?_⟩
        rw [o c (by omega)]
        exact (e8 j q2).2 c h1 h2 h3 h4 h5
      · rw [if_neg q2]
        have hjm : j = m - 1 := by omega
        rw [hjm]
        refine ⟨e4.1.move hB (fun k hk => by rw [q6 k hk, Nat.zero_add]), fun c h1 _ _ _ _ => q6 c (by omega)⟩
    · rw [if_neg q]
      by_cases q2 : j < 11
      · rw [if_pos q2]
        have o := old (by omega)
        rw [if_neg q] at o
        refine ⟨(e8 (j + 1) (by omega)).1.move (hS.2.2.2.2.2 (j + 1) (by omega)) o, fun c h1 h2 h3 h4 h5 => ?_⟩
        rw [o c (by omega)]
        exact (e8 (j + 1) (by omega)).2 c h1 h2 h3 h4 h5
      · rw [if_neg q2]
        have hjm : j = m - 1 := by omega
        rw [hjm]
        refine ⟨e4.1.move hB (fun k hk => by rw [q6 k hk, Nat.zero_add]), fun c h1 _ _ _ _ => q6 c (by omega)⟩
  unfold fX12_remembers
  rw [e7]
  by_cases q : S.2.2.2.2.2.2.1 = 12
  · rw [if_pos (by rw [q]; rfl)]
    have shift : ∃ g0, (∀ c, c ≠ 498 → g0 c = g c) ∧ (∀ x, x < 5060 → g0 498 x = g 498 (x + 460)) ∧ fX12_remembers_L11 (fun g11 => fX12_remembers_L55 zFU 0 g11) zFU 0 g = fX12_remembers_L55 zFU 0 g0 := by
      refine zL_I (fun n i (s : zM) => fX12_remembers_L11 (fun g11 => fX12_remembers_L55 zFU 0 g11) n (nI i) s) (fun i s => (∀ c, c ≠ 498 → s c = g c) ∧ (∀ x, x < i → s 498 x = g 498 (x + 460)) ∧ ∀ x, i ≤ x → s 498 x = g 498 x) 5060 (fun r => ∃ g0, (∀ c, c ≠ 498 → g0 c = g c) ∧ (∀ x, x < 5060 → g0 498 x = g 498 (x + 460)) ∧ r = fX12_remembers_L55 zFU 0 g0) g (by omega) ⟨fun _ _ => rfl, fun x hx => absurd hx (by omega), fun _ _ => rfl⟩ (fun n i s hi hh => ?_) (fun n s hh => ?_)
      · obtain ⟨b1, b2, b3⟩ := hh
        refine ⟨zset s 498 i (g 498 (i + 460)), ⟨fun c hc => by rw [zs_cell hc]; exact b1 c hc, fun x hx => ?_, fun x hx => ?_⟩, ?_⟩
        · by_cases q : x = i
          · subst q; rw [zs_hit ⟨rfl, rfl⟩]
          · rw [zs_miss (by omega)]; exact b2 x (by omega)
        · rw [zs_miss (by omega)]; exact b3 x (by omega)
        · simp only [fX12_remembers_L11]
          simp (disch := omega) only [nL_lt, nL_gt, nL_le, nL_ge, nL_eq, nL_qe, nI_ltI, nI_leI, nI_eq, nL_add, nL_dda, nI_add, nL_sub, pk_sub, nL_mul, nL_clamp, nI_cl, zchk_n, zchk_l, zb_s, zb2_s, zb3_s, zb3_e, zput_e, zjoin_e, zs_hit, zs_miss, nle_t, nle_f, nlt_t, nlt_f, neq_t, neq_f, ↓reduceIte, and_self, and_true, true_and, and_false, false_and, not_true_eq_false, not_false_eq_true, Nat.add_zero]
          rw [b3 (i + 460) (by omega)]
      · obtain ⟨b1, b2, b3⟩ := hh
        simp only [fX12_remembers_L11]
        exact ⟨s, b1, b2, by simp (disch := omega) only [nL_lt, nL_gt, nL_le, nL_ge, nL_eq, nL_qe, nI_ltI, nI_leI, nI_eq, nL_add, nL_dda, nI_add, nL_sub, pk_sub, nL_mul, nL_clamp, nI_cl, zchk_n, zchk_l, zb_s, zb2_s, zb3_s, zb3_e, zput_e, zjoin_e, zs_hit, zs_miss, nle_t, nle_f, nlt_t, nlt_f, neq_t, neq_f, ↓reduceIte, and_self, and_true, true_and, and_false, false_and, not_true_eq_false, not_false_eq_true, Nat.add_zero]⟩
    obtain ⟨g0, s1, s2, s3⟩ := shift
    obtain ⟨g1, t1, t2, t3, t4⟩ := tail g0 12 (by omega) (by omega) (by rw [s1 493 (by omega), e7, q]) (s1 494 (by omega))
    refine ⟨g1, s3.trans t1, fin g0 g1 12 (by omega) (by rw [s1 493 (by omega), e7, q]) (fun c h1 h2 => s1 c h2) (fun k _ => by rw [s1 493 (by omega)]) (fun j hj k hk => ?_) t2 t3 t4⟩
    rw [if_neg (by omega), s2 _ (by omega), show 460 * j + k + 460 = 460 * (j + 1) + k from by omega]
  · rw [if_neg (by rw [nL_eq (by omega) (by decide)]; exact q), zput_e, nI_1]
    obtain ⟨g1, t1, t2, t3, t4⟩ := tail (zset g 493 7 (nI (S.2.2.2.2.2.2.1 + 1))) (S.2.2.2.2.2.2.1 + 1) (by omega) (by omega) (zs_hit ⟨rfl, rfl⟩) (zs_cell (by omega))
    refine ⟨g1, t1, fin _ g1 (S.2.2.2.2.2.2.1 + 1) (by omega) (zs_hit ⟨rfl, rfl⟩) (fun c h1 _ => zs_cell h1) (fun k hk => zs_miss (by omega)) (fun j hj k hk => ?_) t2 t3 t4⟩
    rw [if_pos (by omega), zs_cell (by omega)]
