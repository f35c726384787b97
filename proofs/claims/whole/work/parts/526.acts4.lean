/-! WEEKS, TRIAL, SPAN -/
def zPn (W : zLw) (slip : Int32) : Nat → zB' → zB' × Nat
  | 0, B => (B, 0)
  | n + 1, B => ((zPW W slip (zPn W slip n B).1).1, (zPn W slip n B).2 + (zPW W slip (zPn W slip n B).1).2)
theorem zPn_W {W : zLw} (hW : zWW W) {slip : Int32} {B : zB'} (h : zBW B) : ∀ n, zBW (zPn W slip n B).1 ∧ (zPn W slip n B).1.1 = B.1
  | 0 => ⟨h, rfl⟩
  | n + 1 => by
    have a := zPn_W hW (slip := slip) h n
    have b := zPW_W hW (slip := slip) a.1
    exact ⟨b.1, b.2.trans a.2⟩
theorem zG1_came {W : zLw} {slip : Int32} {B : zB'} {l : Nat} {c : Int32} : zG1 W slip (zBcame B c) l = (zBcame (zG1 W slip B l).1 c, (zG1 W slip B l).2) ∧ (zG1 W slip B l).1.2.2.2.2 = B.2.2.2.2 := by
  unfold zG1
  have e1 : (zBcame B c).2.2.2.1 = B.2.2.2.1 := rfl
  have e2 : (zBcame B c).2.1 = B.2.1 := rfl
  have e3 : (zBcame B c).2.2.1 = B.2.2.1 := rfl
  rw [e1, e2, e3]
  generalize zsd B.2.2.2.1 = u1
  generalize zsd u1 = u2
  cases zgr W (B.2.1 l) B.2.2.1 with
  | none => exact ⟨rfl, rfl⟩
  | some k =>
    simp only
    split <;> exact ⟨rfl, rfl⟩
theorem zGl_came {W : zLw} {slip : Int32} {B : zB'} {l : Nat} {c : Int32} : zGl W slip (zBcame B c) l = (zBcame (zGl W slip B l).1 c, (zGl W slip B l).2) ∧ (zGl W slip B l).1.2.2.2.2 = B.2.2.2.2 := by
  have a := zG1_came (W := W) (slip := slip) (B := B) (l := l) (c := c)
  have b := zG1_came (W := W) (slip := slip) (B := (zG1 W slip B l).1) (l := l) (c := c)
  unfold zGl
  have e2 : (zBcame B c).2.1 = B.2.1 := rfl
  rw [e2]
  split
  · rw [a.1]
    simp only
    rw [b.1]
    exact ⟨rfl, b.2.trans a.2⟩
  · exact a
theorem zGa_came {W : zLw} {slip : Int32} {B : zB'} {c : Int32} : ∀ N, zGa W slip (zBcame B c) N = (zBcame (zGa W slip B N).1 c, (zGa W slip B N).2) ∧ (zGa W slip B N).1.2.2.2.2 = B.2.2.2.2
  | 0 => ⟨rfl, rfl⟩
  | N + 1 => by
    have ih := zGa_came (W := W) (slip := slip) (B := B) (c := c) N
    rw [zGa_s, zGa_s, ih.1]
    have b := zGl_came (W := W) (slip := slip) (B := (zGa W slip B N).1) (l := N) (c := c)
    simp only
    rw [b.1]
    exact ⟨rfl, b.2.trans ih.2⟩
theorem zPW_came {W : zLw} {slip : Int32} {B : zB'} {c : Int32} : zPW W slip (zBcame B c) = (zBcame (zPW W slip B).1 c, (zPW W slip B).2) ∧ (zPW W slip B).1.2.2.2.2 = B.2.2.2.2 := by
  have a := zGa_came (W := W) (slip := slip) (B := B) (c := c) B.1
  unfold zPW
  have e1 : (zBcame B c).1 = B.1 := rfl
  rw [e1, a.1]
  exact ⟨rfl, a.2⟩
theorem zPn_came {W : zLw} {slip : Int32} {B : zB'} : ∀ n, (zPn W slip n B).1.2.2.2.2 = B.2.2.2.2
  | 0 => rfl
  | n + 1 => (zPW_came (c := 0)).2.trans (zPn_came n)
/-- the reference's state after n weeks -/
def zSn (S : zS) (n : Nat) : zS := zSset S (zBcame (zPn (zSL S) (zSslip S) n (zSB S)).1 ((zSB S).2.2.2.2 + nI (zPn (zSL S) (zSslip S) n (zSB S)).2))
theorem zSn_0 {S : zS} : zSn S 0 = S := by
  have h : (zSB S).2.2.2.2 + nI 0 = (zSB S).2.2.2.2 := by rw [nI_0]; simp
  show zSset S (zBcame (zSB S) ((zSB S).2.2.2.2 + nI 0)) = S
  rw [h]
  rfl
theorem zSn_W {S : zS} (hS : zSW S) (n : Nat) : zSW (zSn S n) := zSset_W hS (zPn_W hS.law hS.2.2.1.1 n).1
theorem r_nWeek {S : zS} {g : zM} (hS : zSW S) {n : Nat} (e : zRI (zSn S n) g) : ∃ g1, fX12_oneWeek g = some (nI (zPW (zSL S) (zSslip S) (zPn (zSL S) (zSslip S) n (zSB S)).1).2, g1) ∧ zRI (zSn S (n + 1)) g1 ∧ zFO g g1 := by
  obtain ⟨g1, a1, a2, a3⟩ := r_oneWeek (zSn_W hS n) e
  have hb : zSB (zSn S n) = zBcame (zPn (zSL S) (zSslip S) n (zSB S)).1 ((zSB S).2.2.2.2 + nI (zPn (zSL S) (zSslip S) n (zSB S)).2) := rfl
  have hc := zPW_came (W := zSL S) (slip := zSslip S) (B := (zPn (zSL S) (zSslip S) n (zSB S)).1) (c := (zSB S).2.2.2.2 + nI (zPn (zSL S) (zSslip S) n (zSB S)).2)
  have hL : zSL (zSn S n) = zSL S := rfl
  have hs : zSslip (zSn S n) = zSslip S := rfl
  rw [hL, hs, hb, hc.1] at a1 a2
  refine ⟨g1, a1, ?_, a3⟩
  have hadd : ((zSB S).2.2.2.2 + nI (zPn (zSL S) (zSslip S) n (zSB S)).2) + nI (zPW (zSL S) (zSslip S) (zPn (zSL S) (zSslip S) n (zSB S)).1).2 = (zSB S).2.2.2.2 + nI (zPn (zSL S) (zSslip S) (n + 1) (zSB S)).2 := by
    rw [Int32.add_assoc, nI_add]
    rfl
  have key : zSset (zSn S n) (zBcame (zBcame (zPW (zSL S) (zSslip S) (zPn (zSL S) (zSslip S) n (zSB S)).1).1 ((zSB S).2.2.2.2 + nI (zPn (zSL S) (zSslip S) n (zSB S)).2)) (((zSB S).2.2.2.2 + nI (zPn (zSL S) (zSslip S) n (zSB S)).2) + nI (zPW (zSL S) (zSslip S) (zPn (zSL S) (zSslip S) n (zSB S)).1).2)) = zSn S (n + 1) := by
    rw [hadd]
    rfl
  rw [← key]
  exact a2
theorem m_weeks {S : zS} (hS : zSW S) (v : Int32) : zDo [2] S (fX11_weeks v) (fX12_weeks v) := by
  have hv : ((v < 1 ∨ (¬ v < 1 ∧ ¬ v ≤ 60)) ∧ ∀ g : zM, fX12_in v 1 60 g = some 0) ∨ ∃ n, 1 ≤ n ∧ n ≤ 60 ∧ v = nI n := by
    by_cases h1 : v < 1
    · exact Or.inl ⟨Or.inl h1, fun g => by unfold fX12_in; rw [if_pos h1]⟩
    · by_cases h2 : v ≤ 60
      · right
        have h0 : ¬ v < 0 := fun q => h1 (by
          rw [Int32.lt_iff_toInt_lt] at q ⊢
          have : (0 : Int32).toInt = 0 := by decide
          have : (1 : Int32).toInt = 1 := by decide
          omega)
        obtain ⟨n, hn, rfl⟩ := nI_of h0
        rw [nL_le (by omega) (by decide)] at h2
        rw [nL_lt (by omega) (by decide)] at h1
        exact ⟨n, Nat.not_lt.mp h1, h2, rfl⟩
      · exact Or.inl ⟨Or.inr ⟨h1, h2⟩, fun g => by unfold fX12_in; rw [if_neg h1, if_pos (Int32.not_le.mp h2)]⟩
  rcases hv with ⟨hv, hr⟩ | ⟨n, n1, n2, rfl⟩
  · refine zDo.err hS (c := 2) (t := 1) (b := 0) (by decide) (fun g e => ?_) (fun g e => ?_)
    · unfold fX11_weeks
      rcases hv with h | ⟨h1, h2⟩
      · rw [if_pos h]
      · rw [if_neg h1, if_neg h2]
    · unfold fX12_weeks
      simp only [zb_s, zb2_s, zb3_s, zb3_e, zjoin_e, zput_e, r_thr0, r_thr1, zi10, zi01, if_true, if_false, hr]
  have hSr := zSrem_W hS
  have hB := hSr.2.2.1.1
  refine ⟨.ok (nI (zPn (zSL S) (zSslip S) n (zSB S)).2), zSn (zSrem S) n, zSn_W hSr n, fun g e => ?_, fun g e => ?_⟩
  · obtain ⟨g1, a1, a2, a3, a4⟩ := c_remember hS e
    have loop : ∃ g2, fX11_weeks_L40 (nI n) (fun v2_6 g6 => zput g6 3 4 ((g6 3 4) + v2_6) (fun g7 => some (.ok v2_6, g7))) zFU 0 0 g1 = some (.ok (nI (zPn (zSL S) (zSslip S) n (zSB S)).2), zset g2 3 4 ((zSB S).2.2.2.2 + nI (zPn (zSL S) (zSslip S) n (zSB S)).2)) ∧ zCB g2 3 (zPn (zSL S) (zSslip S) n (zSB S)).1 ∧ zFB 3 g1 g2 := by
      refine zL_I (fun m i (st : Int32 × zM) => fX11_weeks_L40 (nI n) _ m st.1 (nI i) st.2) (fun i st => st.1 = nI (zPn (zSL S) (zSslip S) i (zSB S)).2 ∧ zCB st.2 3 (zPn (zSL S) (zSslip S) i (zSB S)).1 ∧ zFB 3 g1 st.2) n (fun x => ∃ g2, x = some (.ok (nI (zPn (zSL S) (zSslip S) n (zSB S)).2), zset g2 3 4 ((zSB S).2.2.2.2 + nI (zPn (zSL S) (zSslip S) n (zSB S)).2)) ∧ zCB g2 3 (zPn (zSL S) (zSslip S) n (zSB S)).1 ∧ zFB 3 g1 g2) (0, g1) (by omega) ⟨rfl, a2.2.2.2.1.1, fun _ _ _ _ => rfl⟩ (fun m i st hi hh => ?_) (fun m st hh => ?_)
      · obtain ⟨a, s⟩ := st
        obtain ⟨b1, b2, b3⟩ := hh
        have b1 : a = nI (zPn (zSL S) (zSslip S) i (zSB S)).2 := b1
        subst b1
        have b2 : zCB s 3 (zPn (zSL S) (zSslip S) i (zSB S)).1 := b2
        have b3 : zFB 3 g1 s := b3
        have eL : zCL s 29 (zSL S) := a2.law.fr (fun c _ _ => b3 c (by omega) (by omega) (by omega))
        have sl : s 2 6 = zSslip S := by rw [b3 2 (by omega) (by omega) (by omega)]; exact a2.2.2.2.1.2.2.2.2.2.1
        obtain ⟨s1, c1, c2, c3⟩ := c_passWeek hS.law eL (h := 3) (by omega) b2 (zPn_W hS.law hB i).1 (zSslip S)
        refine ⟨(nI (zPn (zSL S) (zSslip S) (i + 1) (zSB S)).2, s1), ⟨rfl, c2, b3.trans c3⟩, ?_⟩
        simp only [fX11_weeks_L40, sl, c1]
        simp (disch := omega) only [nL_lt, nL_gt, nL_le, nL_ge, nL_eq, nL_qe, nI_ltI, nI_leI, nI_eq, nL_add, nL_dda, nI_add, nL_sub, pk_sub, nL_mul, nL_clamp, nI_cl, zchk_n, zchk_l, zb_s, zb2_s, zb3_s, zb3_e, zput_e, zjoin_e, zs_hit, zs_miss, nle_t, nle_f, nlt_t, nlt_f, neq_t, neq_f, ↓reduceIte, and_self, and_true, true_and, and_false, false_and, not_true_eq_false, not_false_eq_true, Nat.add_zero]
        rfl
      · obtain ⟨a, s⟩ := st
        obtain ⟨b1, b2, b3⟩ := hh
        have b1 : a = nI (zPn (zSL S) (zSslip S) n (zSB S)).2 := b1
        subst b1
        have b2 : zCB s 3 (zPn (zSL S) (zSslip S) n (zSB S)).1 := b2
        have c4 : s 3 4 = (zSB S).2.2.2.2 := by rw [b2.2.2.2.2, zPn_came]
        refine ⟨s, ?_, b2, b3⟩
        simp only [fX11_weeks_L40]
        rw [if_pos (Int32.le_refl _), zput_e, c4]
    obtain ⟨g2, b1, b2, b3⟩ := loop
    refine ⟨_, ?_, a2.bag hSr (g1 := zset g2 3 4 ((zSB S).2.2.2.2 + nI (zPn (zSL S) (zSslip S) n (zSB S)).2)) ?_ (fun c h1 h2 h3 h4 => by rw [zs_cell (by omega)]; exact b3 c h2 h3 (by omega)), fun c h => by rw [zs_cell (by omega), b3 c (by omega) (by omega) (by omega)]; exact a4 c (by omega)⟩
    · unfold fX11_weeks
      rw [if_neg (by simp (disch := omega) only [nL_lt, nL_gt, nL_le, nL_ge, nL_eq, nL_qe, nI_ltI, nI_leI, nI_eq, nL_add, nL_dda, nI_add, nL_sub, pk_sub, nL_mul, nL_clamp, nI_cl, zchk_n, zchk_l, zb_s, zb2_s, zb3_s, zb3_e, zput_e, zjoin_e, zs_hit, zs_miss, nle_t, nle_f, nlt_t, nlt_f, neq_t, neq_f, ↓reduceIte, and_self, and_true, true_and, and_false, false_and, not_true_eq_false, not_false_eq_true, Nat.add_zero]), if_pos (by simp (disch := omega) only [nL_lt, nL_gt, nL_le, nL_ge, nL_eq, nL_qe, nI_ltI, nI_leI, nI_eq, nL_add, nL_dda, nI_add, nL_sub, pk_sub, nL_mul, nL_clamp, nI_cl, zchk_n, zchk_l, zb_s, zb2_s, zb3_s, zb3_e, zput_e, zjoin_e, zs_hit, zs_miss, nle_t, nle_f, nlt_t, nlt_f, neq_t, neq_f, ↓reduceIte, and_self, and_true, true_and, and_false, false_and, not_true_eq_false, not_false_eq_true, Nat.add_zero]), a1, zb_s]
      exact b1
    · obtain ⟨e1, e2, e3, e4, e5⟩ := b2
      refine ⟨?_, fun l hl => (e2 l hl).fr (zs_cell (by omega)) (zs_cell (by omega)) (zs_cell (by omega)), ?_, ?_, ?_⟩
      · simp (disch := omega) only [nL_lt, nL_gt, nL_le, nL_ge, nL_eq, nL_qe, nI_ltI, nI_leI, nI_eq, nL_add, nL_dda, nI_add, nL_sub, pk_sub, nL_mul, nL_clamp, nI_cl, zchk_n, zchk_l, zb_s, zb2_s, zb3_s, zb3_e, zput_e, zjoin_e, zs_hit, zs_miss, nle_t, nle_f, nlt_t, nlt_f, neq_t, neq_f, ↓reduceIte, and_self, and_true, true_and, and_false, false_and, not_true_eq_false, not_false_eq_true, Nat.add_zero]; exact e1
      · simp (disch := omega) only [nL_lt, nL_gt, nL_le, nL_ge, nL_eq, nL_qe, nI_ltI, nI_leI, nI_eq, nL_add, nL_dda, nI_add, nL_sub, pk_sub, nL_mul, nL_clamp, nI_cl, zchk_n, zchk_l, zb_s, zb2_s, zb3_s, zb3_e, zput_e, zjoin_e, zs_hit, zs_miss, nle_t, nle_f, nlt_t, nlt_f, neq_t, neq_f, ↓reduceIte, and_self, and_true, true_and, and_false, false_and, not_true_eq_false, not_false_eq_true, Nat.add_zero]; exact e3
      · simp (disch := omega) only [nL_lt, nL_gt, nL_le, nL_ge, nL_eq, nL_qe, nI_ltI, nI_leI, nI_eq, nL_add, nL_dda, nI_add, nL_sub, pk_sub, nL_mul, nL_clamp, nI_cl, zchk_n, zchk_l, zb_s, zb2_s, zb3_s, zb3_e, zput_e, zjoin_e, zs_hit, zs_miss, nle_t, nle_f, nlt_t, nlt_f, neq_t, neq_f, ↓reduceIte, and_self, and_true, true_and, and_false, false_and, not_true_eq_false, not_false_eq_true, Nat.add_zero]; exact e4
      · simp (disch := omega) only [nL_lt, nL_gt, nL_le, nL_ge, nL_eq, nL_qe, nI_ltI, nI_leI, nI_eq, nL_add, nL_dda, nI_add, nL_sub, pk_sub, nL_mul, nL_clamp, nI_cl, zchk_n, zchk_l, zb_s, zb2_s, zb3_s, zb3_e, zput_e, zjoin_e, zs_hit, zs_miss, nle_t, nle_f, nlt_t, nlt_f, neq_t, neq_f, ↓reduceIte, and_self, and_true, true_and, and_false, false_and, not_true_eq_false, not_false_eq_true, Nat.add_zero]; rfl
  · have e0 := e.thr hS 0
    obtain ⟨g1, a1, a2, a3, a4⟩ := r_remembers hS e0
    have loop : ∃ g2, fX12_weeks_L38 (nI n) zFU 0 0 g1 = some (nI (zPn (zSL S) (zSslip S) n (zSB S)).2, g2) ∧ zRI (zSn (zSrem S) n) g2 ∧ zFO g1 g2 := by
      refine zL_I (fun m i (st : Int32 × zM) => fX12_weeks_L38 (nI n) m st.1 (nI i) st.2) (fun i st => st.1 = nI (zPn (zSL S) (zSslip S) i (zSB S)).2 ∧ zRI (zSn (zSrem S) i) st.2 ∧ zFO g1 st.2) n (fun x => ∃ g2, x = some (nI (zPn (zSL S) (zSslip S) n (zSB S)).2, g2) ∧ zRI (zSn (zSrem S) n) g2 ∧ zFO g1 g2) (0, g1) (by omega) ⟨rfl, by rw [zSn_0]; exact a2, .refl⟩ (fun m i st hi hh => ?_) (fun m st hh => ?_)
      · obtain ⟨a, s⟩ := st
        obtain ⟨b1, b2, b3⟩ := hh
        have b1 : a = nI (zPn (zSL S) (zSslip S) i (zSB S)).2 := b1
        subst b1
        have b2 : zRI (zSn (zSrem S) i) s := b2
        have b3 : zFO g1 s := b3
        obtain ⟨s1, c1, c2, c3⟩ := r_nWeek hSr b2
        have c1 : fX12_oneWeek s = some (nI (zPW (zSL S) (zSslip S) (zPn (zSL S) (zSslip S) i (zSB S)).1).2, s1) := c1
        refine ⟨(nI (zPn (zSL S) (zSslip S) (i + 1) (zSB S)).2, s1), ⟨rfl, c2, b3.trans c3⟩, ?_⟩
        simp only [fX12_weeks_L38, c1]
        simp (disch := omega) only [nL_lt, nL_gt, nL_le, nL_ge, nL_eq, nL_qe, nI_ltI, nI_leI, nI_eq, nL_add, nL_dda, nI_add, nL_sub, pk_sub, nL_mul, nL_clamp, nI_cl, zchk_n, zchk_l, zb_s, zb2_s, zb3_s, zb3_e, zput_e, zjoin_e, zs_hit, zs_miss, nle_t, nle_f, nlt_t, nlt_f, neq_t, neq_f, ↓reduceIte, and_self, and_true, true_and, and_false, false_and, not_true_eq_false, not_false_eq_true, Nat.add_zero]
        rfl
      · obtain ⟨a, s⟩ := st
        obtain ⟨b1, b2, b3⟩ := hh
        have b1 : a = nI (zPn (zSL S) (zSslip S) n (zSB S)).2 := b1
        subst b1
        refine ⟨s, ?_, b2, b3⟩
        simp only [fX12_weeks_L38]
        rw [if_pos (Int32.le_refl _)]
    obtain ⟨g2, b1, b2, b3⟩ := loop
    refine ⟨_, g2, ?_, b2, fun c h => by rw [b3.1 c (by omega) (by omega) (by omega) (by omega), a3 c (by omega) (by omega), zs_cell (by omega)], by rw [b3.1 508 (by omega) (by omega) (by omega) (by omega), a3 508 (by omega) (by omega), zs_cell (by omega)], by rw [b3.2.1 0 (by omega), a4 0 (by omega)]; simp (disch := omega) only [nL_lt, nL_gt, nL_le, nL_ge, nL_eq, nL_qe, nI_ltI, nI_leI, nI_eq, nL_add, nL_dda, nI_add, nL_sub, pk_sub, nL_mul, nL_clamp, nI_cl, zchk_n, zchk_l, zb_s, zb2_s, zb3_s, zb3_e, zput_e, zjoin_e, zs_hit, zs_miss, nle_t, nle_f, nlt_t, nlt_f, neq_t, neq_f, ↓reduceIte, and_self, and_true, true_and, and_false, false_and, not_true_eq_false, not_false_eq_true, Nat.add_zero], rfl⟩
    unfold fX12_weeks
    simp only [zb_s, zb2_s, zb3_s, zb3_e, zjoin_e, zput_e, r_thr0, r_thr1, zi10, zi01, if_true, if_false, show fX12_in (nI n) 1 60 (zset g 493 0 0) = some 1 from r_in (lo := 1) (hi := 60) n1 n2 (by omega), a1]
    exact b1
/-! TRIAL -/
theorem c_tryWeeks {S : zS} {g : zM} (hS : zSW S) (e : zCI S g) {n : Nat} (hn : n ≤ 40) (sd : Int32) : ∃ g1, fX11_tryWeeks (nI n) sd g = some g1 ∧ zCB g1 454 (zPn (zSL S) (zSslip S) n (zBseed (zSB S) sd)).1 ∧ zFB 454 g g1 := by
  have hB := hS.2.2.1.1
  obtain ⟨g1, a1, a2, a3⟩ := c_bagBecome (h := 454) e.2.2.2.1.1 hB (by omega)
  have a2' : zCB (zset g1 454 3 sd) 454 (zBseed (zSB S) sd) := by
    obtain ⟨e1, e2, e3, e4, e5⟩ := a2
    refine ⟨?_, fun l hl => (e2 l hl).fr (zs_cell (by omega)) (zs_cell (by omega)) (zs_cell (by omega)), ?_, ?_, ?_⟩
    · simp (disch := omega) only [nL_lt, nL_gt, nL_le, nL_ge, nL_eq, nL_qe, nI_ltI, nI_leI, nI_eq, nL_add, nL_dda, nI_add, nL_sub, pk_sub, nL_mul, nL_clamp, nI_cl, zchk_n, zchk_l, zb_s, zb2_s, zb3_s, zb3_e, zput_e, zjoin_e, zs_hit, zs_miss, nle_t, nle_f, nlt_t, nlt_f, neq_t, neq_f, ↓reduceIte, and_self, and_true, true_and, and_false, false_and, not_true_eq_false, not_false_eq_true, Nat.add_zero]; exact e1
    · simp (disch := omega) only [nL_lt, nL_gt, nL_le, nL_ge, nL_eq, nL_qe, nI_ltI, nI_leI, nI_eq, nL_add, nL_dda, nI_add, nL_sub, pk_sub, nL_mul, nL_clamp, nI_cl, zchk_n, zchk_l, zb_s, zb2_s, zb3_s, zb3_e, zput_e, zjoin_e, zs_hit, zs_miss, nle_t, nle_f, nlt_t, nlt_f, neq_t, neq_f, ↓reduceIte, and_self, and_true, true_and, and_false, false_and, not_true_eq_false, not_false_eq_true, Nat.add_zero]; exact e3
    · simp (disch := omega) only [nL_lt, nL_gt, nL_le, nL_ge, nL_eq, nL_qe, nI_ltI, nI_leI, nI_eq, nL_add, nL_dda, nI_add, nL_sub, pk_sub, nL_mul, nL_clamp, nI_cl, zchk_n, zchk_l, zb_s, zb2_s, zb3_s, zb3_e, zput_e, zjoin_e, zs_hit, zs_miss, nle_t, nle_f, nlt_t, nlt_f, neq_t, neq_f, ↓reduceIte, and_self, and_true, true_and, and_false, false_and, not_true_eq_false, not_false_eq_true, Nat.add_zero]; rfl
    · simp (disch := omega) only [nL_lt, nL_gt, nL_le, nL_ge, nL_eq, nL_qe, nI_ltI, nI_leI, nI_eq, nL_add, nL_dda, nI_add, nL_sub, pk_sub, nL_mul, nL_clamp, nI_cl, zchk_n, zchk_l, zb_s, zb2_s, zb3_s, zb3_e, zput_e, zjoin_e, zs_hit, zs_miss, nle_t, nle_f, nlt_t, nlt_f, neq_t, neq_f, ↓reduceIte, and_self, and_true, true_and, and_false, false_and, not_true_eq_false, not_false_eq_true, Nat.add_zero]; exact e5
  have f1 : zFB 454 g (zset g1 454 3 sd) := fun c _ _ h3 => by rw [zs_cell (by omega)]; exact a3 c h3
  unfold fX11_tryWeeks
  rw [a1, zb_s, zput_e]
  refine zL_I (fun m i (s : zM) => fX11_tryWeeks_L24 (nI n) m (nI i) s) (fun i s => zCB s 454 (zPn (zSL S) (zSslip S) i (zBseed (zSB S) sd)).1 ∧ zFB 454 g s) n (fun x => ∃ g1, x = some g1 ∧ zCB g1 454 (zPn (zSL S) (zSslip S) n (zBseed (zSB S) sd)).1 ∧ zFB 454 g g1) _ (by omega) ⟨a2', f1⟩ (fun m i s hi hh => ?_) (fun m s hh => ?_)
  · obtain ⟨b2, b3⟩ := hh
    have eL : zCL s 29 (zSL S) := e.law.fr (fun c _ _ => b3 c (by omega) (by omega) (by omega))
    have sl : s 2 6 = zSslip S := by rw [b3 2 (by omega) (by omega) (by omega)]; exact e.2.2.2.1.2.2.2.2.2.1
    have hBs : zBW (zBseed (zSB S) sd) := hB
    obtain ⟨s1, c1, c2, c3⟩ := c_passWeek hS.law eL (h := 454) (by omega) b2 (zPn_W hS.law hBs i).1 (zSslip S)
    refine ⟨s1, ⟨c2, b3.trans c3⟩, ?_⟩
    simp only [fX11_tryWeeks_L24, sl, c1]
    simp (disch := omega) only [nL_lt, nL_gt, nL_le, nL_ge, nL_eq, nL_qe, nI_ltI, nI_leI, nI_eq, nL_add, nL_dda, nI_add, nL_sub, pk_sub, nL_mul, nL_clamp, nI_cl, zchk_n, zchk_l, zb_s, zb2_s, zb3_s, zb3_e, zput_e, zjoin_e, zs_hit, zs_miss, nle_t, nle_f, nlt_t, nlt_f, neq_t, neq_f, ↓reduceIte, and_self, and_true, true_and, and_false, false_and, not_true_eq_false, not_false_eq_true, Nat.add_zero]
  · obtain ⟨b2, b3⟩ := hh
    refine ⟨s, ?_, b2, b3⟩
    simp only [fX11_tryWeeks_L24]
    rw [if_pos (Int32.le_refl _)]
/-- a trial in the reference: all but the world below 460 and the kept one is as before -/
def zFT (g g1 : zM) : Prop := (∀ c, c ≠ 493 → c ≠ 494 → c ≠ 497 → c ≠ 501 → c ≠ 502 → g1 c = g c) ∧ (∀ k, k < 19 → g1 493 k = g 493 k) ∧ (∀ k, 460 ≤ k → g1 494 k = g 494 k) ∧ ∀ k, k < 460 → g1 497 k = g 494 k
theorem zFT.fo {g g1 g2 : zM} (a : zFT g g1) (b : zFO g1 g2) : zFT g g2 := ⟨fun c h1 h2 h3 h4 h5 => by rw [b.1 c h1 h2 h4 h5]; exact a.1 c h1 h2 h3 h4 h5, fun k h => by rw [b.2.1 k h]; exact a.2.1 k h, fun k h => by rw [b.2.2.1 k h]; exact a.2.2.1 k h, fun k h => by rw [b.1 497 (by omega) (by omega) (by omega) (by omega)]; exact a.2.2.2 k h⟩
theorem r_keepsAll {g : zM} : ∃ g1, fX12_keepsAll g = some g1 ∧ zFT g g1 ∧ ∀ c, c ≠ 497 → g1 c = g c := by
  unfold fX12_keepsAll
  have : ∃ g1, fX12_keepsAll_L2 zFU 0 g = some g1 ∧ (∀ c, c ≠ 497 → g1 c = g c) ∧ ∀ k, k < 460 → g1 497 k = g 494 k := by
    refine zL_I (fun n i (s : zM) => fX12_keepsAll_L2 n (nI i) s) (fun i s => (∀ c, c ≠ 497 → s c = g c) ∧ ∀ k, k < i → s 497 k = g 494 k) 460 (fun x => ∃ g1, x = some g1 ∧ (∀ c, c ≠ 497 → g1 c = g c) ∧ ∀ k, k < 460 → g1 497 k = g 494 k) g (by omega) ⟨fun _ _ => rfl, fun k hk => absurd hk (by omega)⟩ (fun n i s hi hh => ?_) (fun n s hh => ?_)
    · obtain ⟨b1, b2⟩ := hh
      refine ⟨zset s 497 i (g 494 i), ⟨fun c hc => by rw [zs_cell hc]; exact b1 c hc, fun k hk => ?_⟩, ?_⟩
      · by_cases q : k = i
        · subst q; exact zs_hit ⟨rfl, rfl⟩
        · rw [zs_miss (by omega)]; exact b2 k (by omega)
      · simp only [fX12_keepsAll_L2]
        simp (disch := omega) only [nL_lt, nL_gt, nL_le, nL_ge, nL_eq, nL_qe, nI_ltI, nI_leI, nI_eq, nL_add, nL_dda, nI_add, nL_sub, pk_sub, nL_mul, nL_clamp, nI_cl, zchk_n, zchk_l, zb_s, zb2_s, zb3_s, zb3_e, zput_e, zjoin_e, zs_hit, zs_miss, nle_t, nle_f, nlt_t, nlt_f, neq_t, neq_f, ↓reduceIte, and_self, and_true, true_and, and_false, false_and, not_true_eq_false, not_false_eq_true, Nat.add_zero]
        rw [b1 494 (by omega)]
    · obtain ⟨b1, b2⟩ := hh
      simp only [fX12_keepsAll_L2]
      exact ⟨s, by simp (disch := omega) only [nL_lt, nL_gt, nL_le, nL_ge, nL_eq, nL_qe, nI_ltI, nI_leI, nI_eq, nL_add, nL_dda, nI_add, nL_sub, pk_sub, nL_mul, nL_clamp, nI_cl, zchk_n, zchk_l, zb_s, zb2_s, zb3_s, zb3_e, zput_e, zjoin_e, zs_hit, zs_miss, nle_t, nle_f, nlt_t, nlt_f, neq_t, neq_f, ↓reduceIte, and_self, and_true, true_and, and_false, false_and, not_true_eq_false, not_false_eq_true, Nat.add_zero], b1, b2⟩
  obtain ⟨g1, a1, a2, a3⟩ := this
  exact ⟨g1, a1, ⟨fun c _ _ h _ _ => a2 c h, fun k _ => by rw [a2 493 (by omega)], fun k _ => by rw [a2 494 (by omega)], a3⟩, a2⟩
theorem r_bringsBack {g g1 : zM} (f : zFT g g1) : ∃ g2, fX12_bringsBack g1 = some g2 ∧ zFT g g2 ∧ (∀ k, g2 494 k = g 494 k) ∧ ∀ c, c ≠ 494 → g2 c = g1 c := by
  unfold fX12_bringsBack
  have : ∃ g2, fX12_bringsBack_L2 zFU 0 g1 = some g2 ∧ (∀ c, c ≠ 494 → g2 c = g1 c) ∧ (∀ k, k < 460 → g2 494 k = g1 497 k) ∧ ∀ k, 460 ≤ k → g2 494 k = g1 494 k := by
    refine zL_I (fun n i (s : zM) => fX12_bringsBack_L2 n (nI i) s) (fun i s => (∀ c, c ≠ 494 → s c = g1 c) ∧ (∀ k, k < i → s 494 k = g1 497 k) ∧ ∀ k, 460 ≤ k → s 494 k = g1 494 k) 460 (fun x => ∃ g2, x = some g2 ∧ (∀ c, c ≠ 494 → g2 c = g1 c) ∧ (∀ k, k < 460 → g2 494 k = g1 497 k) ∧ ∀ k, 460 ≤ k → g2 494 k = g1 494 k) g1 (by omega) ⟨fun _ _ => rfl, fun k hk => absurd hk (by omega), fun _ _ => rfl⟩ (fun n i s hi hh => ?_) (fun n s hh => ?_)
    · obtain ⟨b1, b2, b3⟩ := hh
      refine ⟨zset s 494 i (g1 497 i), ⟨fun c hc => by rw [zs_cell hc]; exact b1 c hc, fun k hk => ?_, fun k hk => by rw [zs_miss (by omega)]; exact b3 k hk⟩, ?_⟩
      · by_cases q : k = i
        · subst q; exact zs_hit ⟨rfl, rfl⟩
        · rw [zs_miss (by omega)]; exact b2 k (by omega)
      · simp only [fX12_bringsBack_L2]
        simp (disch := omega) only [nL_lt, nL_gt, nL_le, nL_ge, nL_eq, nL_qe, nI_ltI, nI_leI, nI_eq, nL_add, nL_dda, nI_add, nL_sub, pk_sub, nL_mul, nL_clamp, nI_cl, zchk_n, zchk_l, zb_s, zb2_s, zb3_s, zb3_e, zput_e, zjoin_e, zs_hit, zs_miss, nle_t, nle_f, nlt_t, nlt_f, neq_t, neq_f, ↓reduceIte, and_self, and_true, true_and, and_false, false_and, not_true_eq_false, not_false_eq_true, Nat.add_zero]
        rw [b1 497 (by omega)]
    · obtain ⟨b1, b2, b3⟩ := hh
      simp only [fX12_bringsBack_L2]
      exact ⟨s, by simp (disch := omega) only [nL_lt, nL_gt, nL_le, nL_ge, nL_eq, nL_qe, nI_ltI, nI_leI, nI_eq, nL_add, nL_dda, nI_add, nL_sub, pk_sub, nL_mul, nL_clamp, nI_cl, zchk_n, zchk_l, zb_s, zb2_s, zb3_s, zb3_e, zput_e, zjoin_e, zs_hit, zs_miss, nle_t, nle_f, nlt_t, nlt_f, neq_t, neq_f, ↓reduceIte, and_self, and_true, true_and, and_false, false_and, not_true_eq_false, not_false_eq_true, Nat.add_zero], b1, b2, b3⟩
  obtain ⟨g2, a1, a2, a3, a4⟩ := this
  refine ⟨g2, a1, ⟨fun c h1 h2 h3 h4 h5 => by rw [a2 c h2]; exact f.1 c h1 h2 h3 h4 h5, fun k h => by rw [a2 493 (by omega)]; exact f.2.1 k h, fun k h => by rw [a4 k h]; exact f.2.2.1 k h, fun k h => by rw [a2 497 (by omega)]; exact f.2.2.2 k h⟩, fun k => ?_, a2⟩
  rcases Nat.lt_or_ge k 460 with q | q
  · rw [a3 k q]; exact f.2.2.2 k q
  · rw [a4 k q]; exact f.2.2.1 k q
theorem zFT.fr {g g1 : zM} (f : zFT g g1) (h : ∀ k, g1 494 k = g 494 k) : zFR g g1 := ⟨fun c hc => f.1 c (by omega) (by omega) (by omega) (by omega) (by omega), fun k _ => h k, f.1 _ (by omega) (by omega) (by omega) (by omega) (by omega), f.1 _ (by omega) (by omega) (by omega) (by omega) (by omega), f.1 _ (by omega) (by omega) (by omega) (by omega) (by omega), f.1 _ (by omega) (by omega) (by omega) (by omega) (by omega), f.2.1 _ (by omega), f.2.1 _ (by omega), f.2.1 _ (by omega), f.2.1 _ (by omega)⟩
theorem m_trial {S : zS} (hS : zSW S) (nv v : Int32) : zAsk [1, 2] S (fX11_trial nv v) (fX12_trial nv v) := by
  have h8 := hS.eight
  have hk : (v = -1) ∨ (¬ v = -1 ∧ zbad (zSB S).1 v) ∨ ∃ l, l < (zSB S).1 ∧ v = nI l := by
    by_cases q : v = -1
    · exact Or.inl q
    · rcases zix v (zsz hS) with h | h
      · exact Or.inr (Or.inl ⟨q, h⟩)
      · exact Or.inr (Or.inr h)
  have go : (v = -1 ∨ ∃ l, l < (zSB S).1 ∧ v = nI l) → zAsk [1, 2] S (fX11_trial nv v) (fX12_trial nv v) := by
    intro hkk
    have pc : ∀ (g : zM), zCI S g → ∀ (K : zM → Option (Except Nat Int32 × zM)), zjoin K (fun k10 => if v = -1 then k10 g else zb3 (fX11_needLetter v g) (fun _ g9 => k10 g9)) = K g := by
      intro g e K
      rw [zjoin_e]
      rcases hkk with rfl | ⟨l, hl, rfl⟩
      · rw [if_pos rfl]
      · rw [if_neg (by rw [nI_m1 (by omega)]; exact id), c_needLetter hS e hl, zb3_s]
    have pr : ∀ (g : zM), zRI S g → ∀ (K : Int32 → Option (Int32 × zM)), zjoin K (fun k24 => if v = -1 then k24 0 else zb (fX12_noLetter v g) (fun r_19 => if r_19 = 0 then k24 0 else k24 1)) = K 0 := by
      intro g e K
      rw [zjoin_e]
      rcases hkk with rfl | ⟨l, hl, rfl⟩
      · rw [if_pos rfl]
      · rw [if_neg (by rw [nI_m1 (by omega)]; exact id), r_noLetter hS e hl, zb_s, if_pos rfl]
    rcases zix nv (n := 41) (by omega) with h | ⟨n, hn, rfl⟩
    · refine ⟨.error 2, fun g e => ⟨g, ?_, .refl⟩, fun g e => zRa_err2 (t := 2) (b := 0) ?_ (by decide)⟩
      · unfold fX11_trial
        rw [pc g e, show fX11_needAhead nv 0 g = _ from c_needAhead_no h (m := 0) (by omega), zb3_e]
      · unfold fX12_trial
        rw [zput_e, pr _ (e.thr hS 0)]
        simp only [zb_s, zb2_s, zb3_s, zb3_e, zjoin_e, zput_e, r_thr0, r_thr1, zi10, zi01, if_true, if_false, r_noAhead_no h]
    have hB := hS.2.2.1.1
    have hPn := zPn_W (slip := zSslip S) hS.law hB n
    refine ⟨.ok (if v = -1 then zsum (zPn (zSL S) (zSslip S) n (zSB S)).1 else nI (zlk ((zPn (zSL S) (zSslip S) n (zSB S)).1.2.1 v.toNatClampNeg))), fun g e => ?_, fun g e => ?_⟩
    · obtain ⟨g1, a1, a2, a3⟩ := c_tryWeeks hS e (n := n) (by omega) (zSB S).2.2.2.1
      have a2 : zCB g1 454 (zPn (zSL S) (zSslip S) n (zSB S)).1 := a2
      refine ⟨g1, ?_, fun c h1 h2 h3 => a3 c h1 h2 (by omega), by rw [a3 481 (by omega) (by omega) (by omega)], by rw [a3 482 (by omega) (by omega) (by omega)]⟩
      unfold fX11_trial
      rw [pc g e, show fX11_needAhead (nI n) 0 g = _ from c_needAhead (m := 0) hn (by omega), zb3_s, e.2.2.2.1.1.2.2.2.1, a1, zb_s]
      rcases hkk with rfl | ⟨l, hl, rfl⟩
      · rw [if_neg (by decide), c_linesInAll a2 (by rw [hPn.2]; exact h8), zb_s, if_pos rfl]
      · have hl' : l < (zPn (zSL S) (zSslip S) n (zSB S)).1.1 := by rw [hPn.2]; exact hl
        rw [if_pos (by simp (disch := omega) only [nL_lt, nL_gt, nL_le, nL_ge, nL_eq, nL_qe, nI_ltI, nI_leI, nI_eq, nL_add, nL_dda, nI_add, nL_sub, pk_sub, nL_mul, nL_clamp, nI_cl, zchk_n, zchk_l, zb_s, zb2_s, zb3_s, zb3_e, zput_e, zjoin_e, zs_hit, zs_miss, nle_t, nle_f, nlt_t, nlt_f, neq_t, neq_f, ↓reduceIte, and_self, and_true, true_and, and_false, false_and, not_true_eq_false, not_false_eq_true, Nat.add_zero]), zchk_n (by omega) (by omega), nI_cl (by omega), c_lastKind (a2.2.1 l hl') (hPn.1.2 l hl'), zb_s, if_neg (by rw [nI_m1 (by omega)]; exact id)]
    · have e0 := e.thr hS 0
      obtain ⟨g1, a1, a2, a3⟩ := r_keepsAll (g := zset g 493 0 0)
      have e1 : zRI (zSn S 0) g1 := by
        rw [zSn_0]
        exact e0.fr hS (a2.fr (fun k => by rw [a3 494 (by omega)]))
      have main : ∃ g2, fX12_trial_L51 (nI n) v (fun g11 => if v = ((-1)) then zb (fX12_allLines g11) (fun r_16 => zb (fX12_bringsBack g11) (fun g17 => some (r_16, g17))) else zb (fX12_lines v g11) (fun r_13 => zb (fX12_kindOf v (r_13 - 1) g11) (fun r_14 => zb (fX12_bringsBack g11) (fun g15 => some (r_14, g15))))) zFU 0 g1 = some (if v = -1 then zsum (zPn (zSL S) (zSslip S) n (zSB S)).1 else nI (zlk ((zPn (zSL S) (zSslip S) n (zSB S)).1.2.1 v.toNatClampNeg)), g2) ∧ zFT (zset g 493 0 0) g2 ∧ ∀ k, g2 494 k = (zset g 493 0 0) 494 k := by
        refine zL_I (fun m i (s : zM) => fX12_trial_L51 (nI n) v _ m (nI i) s) (fun i s => zRI (zSn S i) s ∧ zFT (zset g 493 0 0) s) n (fun x => ∃ g2, x = some (if v = -1 then zsum (zPn (zSL S) (zSslip S) n (zSB S)).1 else nI (zlk ((zPn (zSL S) (zSslip S) n (zSB S)).1.2.1 v.toNatClampNeg)), g2) ∧ zFT (zset g 493 0 0) g2 ∧ ∀ k, g2 494 k = (zset g 493 0 0) 494 k) g1 (by omega) ⟨e1, a2⟩ (fun m i s hi hh => ?_) (fun m s hh => ?_)
        · obtain ⟨b1, b2⟩ := hh
          obtain ⟨s1, c1, c2, c3⟩ := r_nWeek hS b1
          refine ⟨s1, ⟨c2, b2.fo c3⟩, ?_⟩
          simp only [fX12_trial_L51, c1]
          simp (disch := omega) only [nL_lt, nL_gt, nL_le, nL_ge, nL_eq, nL_qe, nI_ltI, nI_leI, nI_eq, nL_add, nL_dda, nI_add, nL_sub, pk_sub, nL_mul, nL_clamp, nI_cl, zchk_n, zchk_l, zb_s, zb2_s, zb3_s, zb3_e, zput_e, zjoin_e, zs_hit, zs_miss, nle_t, nle_f, nlt_t, nlt_f, neq_t, neq_f, ↓reduceIte, and_self, and_true, true_and, and_false, false_and, not_true_eq_false, not_false_eq_true, Nat.add_zero]
        · obtain ⟨b1, b2⟩ := hh
          obtain ⟨s1, c1, c2, c3, c4⟩ := r_bringsBack b2
          have hSn := zSn_W hS n
          refine ⟨s1, ?_, c2, c3⟩
          simp only [fX12_trial_L51]
          rw [if_pos (Int32.le_refl _)]
          rcases hkk with rfl | ⟨l, hl, rfl⟩
          · rw [if_pos rfl, if_pos rfl, r_allLines b1.2.2.2.1.1 (by show (zPn (zSL S) (zSslip S) n (zSB S)).1.1 ≤ 8; rw [hPn.2]; exact h8), zb_s, c1, zb_s]
            rfl
          · have hl' : l < (zSB (zSn S n)).1 := by show l < (zPn (zSL S) (zSslip S) n (zSB S)).1.1; rw [hPn.2]; exact hl
            have hLw := hSn.letter hl'
            have h01 := hLw.1
            rw [if_neg (by rw [nI_m1 (by omega)]; exact id), if_neg (by rw [nI_m1 (by omega)]; exact id), r_lines hSn b1 hl', zb_s, nL_sub h01, r_kindOf hSn b1 hl' (by show ((zSB (zSn S n)).2.1 l).1 - 1 < _; omega), zb_s, c1, zb_s, nI_cl (by omega)]
            rfl
      obtain ⟨g2, b1, b2, b3⟩ := main
      refine ⟨_, g2, ?_, zFR.thr.trans (b2.fr b3), by rw [b2.2.1 0 (by omega)]; simp (disch := omega) only [nL_lt, nL_gt, nL_le, nL_ge, nL_eq, nL_qe, nI_ltI, nI_leI, nI_eq, nL_add, nL_dda, nI_add, nL_sub, pk_sub, nL_mul, nL_clamp, nI_cl, zchk_n, zchk_l, zb_s, zb2_s, zb3_s, zb3_e, zput_e, zjoin_e, zs_hit, zs_miss, nle_t, nle_f, nlt_t, nlt_f, neq_t, neq_f, ↓reduceIte, and_self, and_true, true_and, and_false, false_and, not_true_eq_false, not_false_eq_true, Nat.add_zero], rfl⟩
      unfold fX12_trial
      rw [zput_e, pr _ e0]
      simp only [zb_s, zb2_s, zb3_s, zb3_e, zjoin_e, zput_e, r_thr0, r_thr1, zi10, zi01, if_true, if_false, r_noAhead hn, a1]
      exact b1
  rcases hk with hk | ⟨hk1, hk2⟩ | hk
  · exact go (Or.inl hk)
  · refine ⟨.error 1, fun g e => ⟨g, ?_, .refl⟩, fun g e => zRa_err2 (t := 1) (b := 0) ?_ (by decide)⟩
    · unfold fX11_trial; rw [zjoin_e, if_neg hk1, c_needLetter_no e hk2, zb3_e]
    · unfold fX12_trial; simp only [zb_s, zb2_s, zb3_s, zb3_e, zjoin_e, zput_e, r_thr0, r_thr1, zi10, zi01, if_true, if_false, hk1, r_noLetter_no hS (e.thr hS 0) hk2]
  · exact go (Or.inr hk)
