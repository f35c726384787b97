/-! calls that look AHEAD -/
/-- the letter l as it is n weeks ahead -/
def zat (S : zS) (l n : Nat) : zL × Int32 := zah (zSL S) n ((zSB S).2.1 l, (zSB S).2.2.1)
theorem zat_W {S : zS} (hS : zSW S) {l : Nat} (hl : l < (zSB S).1) (n : Nat) : zLW (zat S l n).1 := zah_W hS.law n (hS.letter hl)
theorem zat_s {S : zS} {l n : Nat} : zat S l (n + 1) = zgo (zSL S) (zat S l n) := zah_succ _ _ _
/-- the sight 446 shows letter l n weeks ahead, and all else is as before -/
def zCA (S : zS) (g : zM) (l n : Nat) (s : zM) : Prop := zSR s 446 ((zat S l n).1, (zat S l n).2, none) ∧ zFS 446 g s
theorem zCA.law {S : zS} {g s : zM} {l n : Nat} (h : zCA S g l n s) (e : zCI S g) : zCL s 29 (zSL S) := e.law.fr (fun c _ _ => h.2 c (by omega) (by omega) (by omega))
theorem zCA.fc {S : zS} {g s : zM} {l n : Nat} (h : zCA S g l n s) : zFC g s := h.2.fc (by omega)
theorem zCA.ci {S : zS} {g s : zM} {l n : Nat} (h : zCA S g l n s) (hS : zSW S) (e : zCI S g) : zCI S s := e.fr hS h.fc
theorem zCA.mail {S : zS} {g s : zM} {l n : Nat} (h : zCA S g l n s) : zCM s 447 (zat S l n).1 := h.1.1
theorem zFS.of {h : Nat} {g g1 : zM} (f : ∀ c, (c < h ∨ h + 4 ≤ c) → g1 c = g c) : zFS h g g1 := fun c _ _ h3 => f c h3
theorem c_look0 {S : zS} {g0 g : zM} (hS : zSW S) (e : zCI S g) (h0 : zFS 446 g0 g) {l : Nat} (hl : l < (zSB S).1) : ∃ g1, fX7_look 446 (4 + 1 + 3 * l) (zSB S).2.2.1 g = some g1 ∧ zCA S g0 l 0 g1 := by
  have h8 := hS.eight
  obtain ⟨g1, a1, a2, a3⟩ := c_look (h := 446) (e.mail hl) (by omega) (hS.letter hl).2.1 (zSB S).2.2.1
  exact ⟨g1, a1, a2, h0.trans (.of a3)⟩
theorem c_week {S : zS} {g s : zM} (hS : zSW S) (e : zCI S g) {l n : Nat} (hl : l < (zSB S).1) (h : zCA S g l n s) : ∃ g1, fX7_goWeek 446 29 s = some g1 ∧ zCA S g l (n + 1) g1 := by
  obtain ⟨g1, a1, a2, a3⟩ := c_goWeek (h := 446) hS.law (h.law e) (by omega) h.1 (zat_W hS hl n) (fun k q => nomatch q)
  refine ⟨g1, a1, ?_, h.2.trans a3⟩
  rw [zgof_none] at a2
  rw [zat_s]
  exact a2
theorem c_go0 {S : zS} {g s : zM} (hS : zSW S) (e : zCI S g) {l n : Nat} (hl : l < (zSB S).1) (hn : n ≤ 40) (h : zCA S g l 0 s) : ∃ g1, fX7_go 446 29 (nI n) s = some g1 ∧ zCA S g l n g1 := by
  obtain ⟨g1, a1, a2, a3⟩ := c_ahead (h := 446) hS.law (h.law e) (by omega) h.1 (hS.letter hl) hn
  exact ⟨g1, a1, a2, h.2.trans a3⟩
theorem c_lastA {S : zS} {g s : zM} (hS : zSW S) {l n : Nat} (hl : l < (zSB S).1) (h : zCA S g l n s) : fX3_lastKind 447 s = some (nI (zlk (zat S l n).1)) := c_lastKind h.mail (zat_W hS hl n)
theorem c_boundA {S : zS} {g s : zM} (hS : zSW S) (e : zCI S g) {l n : Nat} (hl : l < (zSB S).1) (h : zCA S g l n s) : fX10_binding 2 447 s = some (zbnd (zSV S) (zat S l n).1) := by
  have e' := h.ci hS e
  exact c_binding (h := 2) e'.proms e'.2.2.2.1.2.2.2.2.1 hS.proms h.mail (zat_W hS hl n).2.1
theorem c_wordsA {S : zS} {g s : zM} (hS : zSW S) (e : zCI S g) {l n : Nat} (hl : l < (zSB S).1) (h : zCA S g l n s) : fX10_wordsIn 2 447 s = some (yws (zSV S).2.2.1 (zat S l n).1) := by
  have e' := h.ci hS e
  exact c_wordsIn (h := 2) e'.2.2.2.1.2.2.1 h.mail (zat_W hS hl n)
/-- the reference's row shows letter l n weeks ahead -/
def zRA (S : zS) (g : zM) (l n : Nat) (s : zM) : Prop := zRR s (zat S l n).1 (zat S l n).1.1 (zat S l n).2 ∧ zFQ g s
theorem zRA.ri {S : zS} {g s : zM} {l n : Nat} (h : zRA S g l n s) (hS : zSW S) (e : zRI S g) : zRI S s := e.fq hS h.2
theorem r_look0 {S : zS} {g0 g : zM} (hS : zSW S) (e : zRI S g) (h0 : zFQ g0 g) {l : Nat} (hl : l < (zSB S).1) : ∃ g1, fX12_looksAt (nI l) g = some g1 ∧ zRA S g0 l 0 g1 := by
  obtain ⟨g1, a1, a2, a3⟩ := r_looksAt hS e hl
  exact ⟨g1, a1, a2, h0.trans a3⟩
theorem r_week {S : zS} {g s : zM} (hS : zSW S) (e : zRI S g) {l n : Nat} (hl : l < (zSB S).1) (h : zRA S g l n s) : ∃ g1, fX12_goesOn s = some g1 ∧ zRA S g l (n + 1) g1 := by
  obtain ⟨g1, a1, a2, a3⟩ := r_goesOn hS.law (h.ri hS e).law (zat_W hS hl n) h.1
  refine ⟨g1, a1, ?_, h.2.trans a3⟩
  rw [zat_s]
  exact a2
theorem r_ahead0 {S : zS} {g0 g : zM} (hS : zSW S) (e : zRI S g) (h0 : zFQ g0 g) {l n : Nat} (hl : l < (zSB S).1) (hn : n ≤ 40) : ∃ g1, fX12_looksAhead (nI l) (nI n) g = some g1 ∧ zRA S g0 l n g1 := by
  obtain ⟨g1, a1, a2, a3⟩ := r_looksAhead hS e hl hn
  exact ⟨g1, a1, a2, h0.trans a3⟩
theorem r_lastA {S : zS} {g s : zM} (hS : zSW S) {l n : Nat} (hl : l < (zSB S).1) (h : zRA S g l n s) : fX12_last s = some (nI (zlk (zat S l n).1)) := r_last h.1 (zat_W hS hl n)
theorem r_boundA {S : zS} {g s : zM} (hS : zSW S) (e : zRI S g) {l n : Nat} (hl : l < (zSB S).1) (h : zRA S g l n s) : fX12_boundNow s = some (zbnd (zSV S) (zat S l n).1) := by
  have e' := h.ri hS e
  exact r_boundNow e'.proms e'.2.2.2.1.2.2.2.2.1 hS.proms h.1 (zat_W hS hl n).2.1
theorem r_wordsA {S : zS} {g s : zM} (hS : zSW S) (e : zRI S g) {l n : Nat} (hl : l < (zSB S).1) (h : zRA S g l n s) : fX12_wordsNow s = some (yws (zSV S).2.2.1 (zat S l n).1) := by
  have e' := h.ri hS e
  exact r_wordsNow e'.2.2.2.1.2.2.1 h.1 (zat_W hS hl n)
theorem zlk_lt {L : zL} (h : zLW L) : zlk L < 12 := h.2.2 _ (by have := h.1; omega)
theorem m_ahead {S : zS} (hS : zSW S) (v n w : Int32) : zAsk [1, 2, 5] S (fX11_ahead v n w) (fX12_ahead v n w) := by
  rcases zix v (zsz hS) with h | ⟨l, hl, rfl⟩
  · refine ⟨.error 1, fun g e => ⟨g, ?_, .refl⟩, fun g e => zRa_err2 (t := 1) (b := 0) ?_ (by decide)⟩
    · unfold fX11_ahead; rw [c_mailOf_no e h, zb3_e]
    · unfold fX12_ahead; simp only [zb_s, zb2_s, zb3_s, zb3_e, zjoin_e, zput_e, r_thr0, r_thr1, zi10, zi01, if_true, if_false, r_noLetter_no hS (e.thr hS 0) h]
  rcases zix n (n := 41) (by omega) with h | ⟨n, hn, rfl⟩
  · refine ⟨.error 2, fun g e => ⟨g, ?_, .refl⟩, fun g e => zRa_err2 (t := 2) (b := 0) ?_ (by decide)⟩
    · unfold fX11_ahead; rw [c_mailOf hS e hl, zb3_s, show fX11_needAhead n 0 g = _ from c_needAhead_no h (m := 0) (by omega), zb3_e]
    · unfold fX12_ahead; simp only [zb_s, zb2_s, zb3_s, zb3_e, zjoin_e, zput_e, r_thr0, r_thr1, zi10, zi01, if_true, if_false, r_noLetter hS (e.thr hS 0) hl, r_noAhead_no h]
  rcases zix w (n := 3) (by omega) with h | ⟨k, hk, rfl⟩
  · refine ⟨.error 5, fun g e => ⟨g, ?_, .refl⟩, fun g e => zRa_err2 (t := 3) (b := 0) ?_ (by decide)⟩
    · unfold fX11_ahead; rw [c_mailOf hS e hl, zb3_s, show fX11_needAhead (nI n) 0 g = _ from c_needAhead (m := 0) hn (by omega), zb3_s]
      by_cases h0 : w < 0
      · rw [if_pos h0]
      · have h2 : ¬ w ≤ 2 := fun q => zbad_nlt h h0 (by
          rw [Int32.lt_iff_toInt_lt]
          rw [Int32.le_iff_toInt_le] at q
          rw [nI_toInt (by omega)]
          have : (2 : Int32).toInt = 2 := by decide
          omega)
        rw [if_neg h0, if_neg h2]
    · unfold fX12_ahead; simp only [zb_s, zb2_s, zb3_s, zb3_e, zjoin_e, zput_e, r_thr0, r_thr1, zi10, zi01, if_true, if_false, r_noLetter hS (e.thr hS 0) hl, r_noAhead hn, show fX12_in w 0 2 (zset g 493 0 0) = some 0 from r_in_no (n := 2) h (by omega)]
  have hc : ∀ g, zCI S g → ∃ g1, fX11_ahead (nI l) (nI n) (nI k) g = (if k = 0 then zb (fX3_lastKind 447 g1) (fun r_10 => some (.ok r_10, g1)) else if k = 1 then some (.ok (g1 447 2), g1) else zb (fX10_wordsIn 2 447 g1) (fun r_9 => some (.ok r_9, g1))) ∧ zCA S g l n g1 := by
    intro g e
    obtain ⟨g1, a1, a2⟩ := c_look0 hS e (fun _ _ _ _ => rfl) hl
    obtain ⟨g2, b1, b2⟩ := c_go0 hS e hl (n := n) (by omega) a2
    refine ⟨g2, ?_, b2⟩
    unfold fX11_ahead
    rw [c_mailOf hS e hl, zb3_s, show fX11_needAhead (nI n) 0 g = _ from c_needAhead (m := 0) hn (by omega), zb3_s, e.week]
    simp (disch := omega) only [nL_lt, nL_gt, nL_le, nL_ge, nL_eq, nL_qe, nI_ltI, nI_leI, nI_eq, nL_add, nL_dda, nI_add, nL_sub, pk_sub, nL_mul, nL_clamp, nI_cl, zchk_n, zchk_l, zb_s, zb2_s, zb3_s, zb3_e, zput_e, zjoin_e, zs_hit, zs_miss, nle_t, nle_f, nlt_t, nlt_f, neq_t, neq_f, ↓reduceIte, and_self, and_true, true_and, and_false, false_and, not_true_eq_false, not_false_eq_true, Nat.add_zero, a1, b1]
  have hr : ∀ g, zRI S g → ∃ g1, fX12_ahead (nI l) (nI n) (nI k) g = (if k = 0 then zb (fX12_last g1) (fun r_16 => some (r_16, g1)) else if k = 1 then some (g1 493 19, g1) else zb (fX12_wordsNow g1) (fun r_15 => some (r_15, g1))) ∧ zRA S (zset g 493 0 0) l n g1 := by
    intro g e
    obtain ⟨g1, a1, a2⟩ := r_ahead0 hS (e.thr hS 0) .refl hl (n := n) (by omega)
    refine ⟨g1, ?_, a2⟩
    unfold fX12_ahead
    simp only [zb_s, zb2_s, zb3_s, zb3_e, zjoin_e, zput_e, r_thr0, r_thr1, zi10, zi01, if_true, if_false, r_noLetter hS (e.thr hS 0) hl, r_noAhead hn, show fX12_in (nI k) 0 2 (zset g 493 0 0) = some 1 from r_in (lo := 0) (hi := 2) (by omega) (by omega) (by omega), a1]
    simp (disch := omega) only [nL_lt, nL_gt, nL_le, nL_ge, nL_eq, nL_qe, nI_ltI, nI_leI, nI_eq, nL_add, nL_dda, nI_add, nL_sub, pk_sub, nL_mul, nL_clamp, nI_cl, zchk_n, zchk_l, zb_s, zb2_s, zb3_s, zb3_e, zput_e, zjoin_e, zs_hit, zs_miss, nle_t, nle_f, nlt_t, nlt_f, neq_t, neq_f, ↓reduceIte, and_self, and_true, true_and, and_false, false_and, not_true_eq_false, not_false_eq_true, Nat.add_zero]
  have hk : k = 0 ∨ k = 1 ∨ k = 2 := by omega
  rcases hk with rfl | rfl | rfl
  · refine ⟨.ok (nI (zlk (zat S l n).1)), fun g e => ?_, fun g e => ?_⟩
    · obtain ⟨g1, a1, a2⟩ := hc g e
      exact ⟨g1, a1.trans (by simp (disch := omega) only [nL_lt, nL_gt, nL_le, nL_ge, nL_eq, nL_qe, nI_ltI, nI_leI, nI_eq, nL_add, nL_dda, nI_add, nL_sub, pk_sub, nL_mul, nL_clamp, nI_cl, zchk_n, zchk_l, zb_s, zb2_s, zb3_s, zb3_e, zput_e, zjoin_e, zs_hit, zs_miss, nle_t, nle_f, nlt_t, nlt_f, neq_t, neq_f, ↓reduceIte, and_self, and_true, true_and, and_false, false_and, not_true_eq_false, not_false_eq_true, Nat.add_zero, c_lastA hS hl a2]), a2.fc⟩
    · obtain ⟨g1, a1, a2⟩ := hr g e
      exact zRa_ok (a1.trans (by simp (disch := omega) only [nL_lt, nL_gt, nL_le, nL_ge, nL_eq, nL_qe, nI_ltI, nI_leI, nI_eq, nL_add, nL_dda, nI_add, nL_sub, pk_sub, nL_mul, nL_clamp, nI_cl, zchk_n, zchk_l, zb_s, zb2_s, zb3_s, zb3_e, zput_e, zjoin_e, zs_hit, zs_miss, nle_t, nle_f, nlt_t, nlt_f, neq_t, neq_f, ↓reduceIte, and_self, and_true, true_and, and_false, false_and, not_true_eq_false, not_false_eq_true, Nat.add_zero, r_lastA hS hl a2])) a2.2
  · refine ⟨.ok (nI (zat S l n).1.1), fun g e => ?_, fun g e => ?_⟩
    · obtain ⟨g1, a1, a2⟩ := hc g e
      exact ⟨g1, a1.trans (by simp (disch := omega) only [nL_lt, nL_gt, nL_le, nL_ge, nL_eq, nL_qe, nI_ltI, nI_leI, nI_eq, nL_add, nL_dda, nI_add, nL_sub, pk_sub, nL_mul, nL_clamp, nI_cl, zchk_n, zchk_l, zb_s, zb2_s, zb3_s, zb3_e, zput_e, zjoin_e, zs_hit, zs_miss, nle_t, nle_f, nlt_t, nlt_f, neq_t, neq_f, ↓reduceIte, and_self, and_true, true_and, and_false, false_and, not_true_eq_false, not_false_eq_true, Nat.add_zero, a2.mail.1]), a2.fc⟩
    · obtain ⟨g1, a1, a2⟩ := hr g e
      exact zRa_ok (a1.trans (by simp (disch := omega) only [nL_lt, nL_gt, nL_le, nL_ge, nL_eq, nL_qe, nI_ltI, nI_leI, nI_eq, nL_add, nL_dda, nI_add, nL_sub, pk_sub, nL_mul, nL_clamp, nI_cl, zchk_n, zchk_l, zb_s, zb2_s, zb3_s, zb3_e, zput_e, zjoin_e, zs_hit, zs_miss, nle_t, nle_f, nlt_t, nlt_f, neq_t, neq_f, ↓reduceIte, and_self, and_true, true_and, and_false, false_and, not_true_eq_false, not_false_eq_true, Nat.add_zero, a2.1.1])) a2.2
  · refine ⟨.ok (yws (zSV S).2.2.1 (zat S l n).1), fun g e => ?_, fun g e => ?_⟩
    · obtain ⟨g1, a1, a2⟩ := hc g e
      exact ⟨g1, a1.trans (by simp (disch := omega) only [nL_lt, nL_gt, nL_le, nL_ge, nL_eq, nL_qe, nI_ltI, nI_leI, nI_eq, nL_add, nL_dda, nI_add, nL_sub, pk_sub, nL_mul, nL_clamp, nI_cl, zchk_n, zchk_l, zb_s, zb2_s, zb3_s, zb3_e, zput_e, zjoin_e, zs_hit, zs_miss, nle_t, nle_f, nlt_t, nlt_f, neq_t, neq_f, ↓reduceIte, and_self, and_true, true_and, and_false, false_and, not_true_eq_false, not_false_eq_true, Nat.add_zero, c_wordsA hS e hl a2]), a2.fc⟩
    · obtain ⟨g1, a1, a2⟩ := hr g e
      exact zRa_ok (a1.trans (by simp (disch := omega) only [nL_lt, nL_gt, nL_le, nL_ge, nL_eq, nL_qe, nI_ltI, nI_leI, nI_eq, nL_add, nL_dda, nI_add, nL_sub, pk_sub, nL_mul, nL_clamp, nI_cl, zchk_n, zchk_l, zb_s, zb2_s, zb3_s, zb3_e, zput_e, zjoin_e, zs_hit, zs_miss, nle_t, nle_f, nlt_t, nlt_f, neq_t, neq_f, ↓reduceIte, and_self, and_true, true_and, and_false, false_and, not_true_eq_false, not_false_eq_true, Nat.add_zero, r_wordsA hS (e.thr hS 0) hl a2])) a2.2
theorem m_bound {S : zS} (hS : zSW S) (v n : Int32) : zAsk [1, 2] S (fX11_bound v n) (fX12_bound v n) := by
  rcases zix v (zsz hS) with h | ⟨l, hl, rfl⟩
  · refine ⟨.error 1, fun g e => ⟨g, ?_, .refl⟩, fun g e => zRa_err2 (t := 1) (b := 0) ?_ (by decide)⟩
    · unfold fX11_bound; rw [c_mailOf_no e h, zb3_e]
    · unfold fX12_bound; simp only [zb_s, zb2_s, zb3_s, zb3_e, zjoin_e, zput_e, r_thr0, r_thr1, zi10, zi01, if_true, if_false, r_noLetter_no hS (e.thr hS 0) h]
  rcases zix n (n := 41) (by omega) with h | ⟨n, hn, rfl⟩
  · refine ⟨.error 2, fun g e => ⟨g, ?_, .refl⟩, fun g e => zRa_err2 (t := 2) (b := 0) ?_ (by decide)⟩
    · unfold fX11_bound; rw [c_mailOf hS e hl, zb3_s, show fX11_needAhead n 0 g = _ from c_needAhead_no h (m := 0) (by omega), zb3_e]
    · unfold fX12_bound; simp only [zb_s, zb2_s, zb3_s, zb3_e, zjoin_e, zput_e, r_thr0, r_thr1, zi10, zi01, if_true, if_false, r_noLetter hS (e.thr hS 0) hl, r_noAhead_no h]
  refine ⟨.ok (zbnd (zSV S) (zat S l n).1), fun g e => ?_, fun g e => ?_⟩
  · obtain ⟨g1, a1, a2⟩ := c_look0 hS e (fun _ _ _ _ => rfl) hl
    obtain ⟨g2, b1, b2⟩ := c_go0 hS e hl (n := n) (by omega) a2
    refine ⟨g2, ?_, b2.fc⟩
    unfold fX11_bound
    rw [c_mailOf hS e hl, zb3_s, show fX11_needAhead (nI n) 0 g = _ from c_needAhead (m := 0) hn (by omega), zb3_s, e.week, a1, zb_s, b1, zb_s, c_boundA hS e hl b2, zb_s]
  · obtain ⟨g1, a1, a2⟩ := r_ahead0 hS (e.thr hS 0) .refl hl (n := n) (by omega)
    refine zRa_ok (g1 := g1) ?_ a2.2
    unfold fX12_bound
    simp only [zb_s, zb2_s, zb3_s, zb3_e, zjoin_e, zput_e, r_thr0, r_thr1, zi10, zi01, if_true, if_false, r_noLetter hS (e.thr hS 0) hl, r_noAhead hn, a1, r_boundA hS (e.thr hS 0) hl a2]
/-- a call that goes on week by week until p holds -/
theorem c_until {S : zS} {g s : zM} (hS : zSW S) (e : zCI S g) {l : Nat} (hl : l < (zSB S).1) (h : zCA S g l 0 s) {β : Type} (F : Nat → Int32 → zM → Option (β × zM)) (p : Nat → Bool) (R : Nat → β) (E : β) (hs : ∀ n i s, zCA S g l i s → i < 41 → ∃ s1, zCA S g l (i + 1) s1 ∧ F (n + 1) (nI i) s = if p i = true then some (R i, s) else F n (nI (i + 1)) s1) (he : ∀ n s, F (n + 1) (nI 41) s = some (E, s)) : ∃ g1, F zFU 0 s = some ((match zff p 41 with | some i => R i | none => E), g1) ∧ zFC g g1 := by
  refine zL_Q0 (fun n i (s : zM) => F n (nI i) s) (fun i s => zCA S g l i s ∧ ∀ j, j < i → p j = false) 41 (fun x => ∃ g1, x = some ((match zff p 41 with | some i => R i | none => E), g1) ∧ zFC g g1) s (by omega) ⟨h, fun j hj => absurd hj (by omega)⟩ (fun n i s hi hh => ?_) (fun n s hh => ?_)
  · obtain ⟨b1, b2⟩ := hh
    obtain ⟨s1, a1, a2⟩ := hs n i s b1 hi
    rw [a2]
    cases q : p i
    · right
      refine ⟨s1, ⟨a1, fun j hj => ?_⟩, by simp⟩
      rcases Nat.lt_succ_iff_lt_or_eq.mp hj with q3 | q3
      · exact b2 j q3
      · rw [q3]; exact q
    · left
      rw [zff_some hi b2 q]
      exact ⟨s, by simp, b1.fc⟩
  · obtain ⟨b1, b2⟩ := hh
    rw [zff_none b2]
    exact ⟨s, he n s, b1.fc⟩
theorem r_until {S : zS} {g0 g s : zM} (hS : zSW S) (e : zRI S g) {l : Nat} (hl : l < (zSB S).1) (h : zRA S g l 0 s) {β : Type} (F : Nat → Int32 → zM → Option (β × zM)) (p : Nat → Bool) (R : Nat → β) (E : β) (hs : ∀ n i s, zRA S g l i s → i < 41 → ∃ s1 s2, zRA S g l (i + 1) s1 ∧ zFQ g s2 ∧ F (n + 1) (nI i) s = if p i = true then some (R i, s2) else F n (nI (i + 1)) s1) (he : ∀ n s, F (n + 1) (nI 41) s = some (E, s)) : ∃ g1, F zFU 0 s = some ((match zff p 41 with | some i => R i | none => E), g1) ∧ zFQ g g1 := by
  refine zL_Q0 (fun n i (s : zM) => F n (nI i) s) (fun i s => zRA S g l i s ∧ ∀ j, j < i → p j = false) 41 (fun x => ∃ g1, x = some ((match zff p 41 with | some i => R i | none => E), g1) ∧ zFQ g g1) s (by omega) ⟨h, fun j hj => absurd hj (by omega)⟩ (fun n i s hi hh => ?_) (fun n s hh => ?_)
  · obtain ⟨b1, b2⟩ := hh
    obtain ⟨s1, s2, a1, a3, a2⟩ := hs n i s b1 hi
    rw [a2]
    cases q : p i
    · right
      refine ⟨s1, ⟨a1, fun j hj => ?_⟩, by simp⟩
      rcases Nat.lt_succ_iff_lt_or_eq.mp hj with q3 | q3
      · exact b2 j q3
      · rw [q3]; exact q
    · left
      rw [zff_some hi b2 q]
      exact ⟨s2, by simp, a3⟩
  · obtain ⟨b1, b2⟩ := hh
    rw [zff_none b2]
    exact ⟨s, he n s, b1.2⟩
theorem zmatch_ok (o : Option Nat) : (match o with | some i => (Except.ok (nI i) : Except Nat Int32) | none => .ok (-1)) = .ok (zoi o) := by cases o <;> rfl
theorem zmatch_oi (o : Option Nat) : (match o with | some i => nI i | none => -1) = zoi o := by cases o <;> rfl
theorem m_stops {S : zS} (hS : zSW S) (v : Int32) : zAsk [1] S (fX11_stops v) (fX12_stops v) := by
  rcases zix v (zsz hS) with h | ⟨l, hl, rfl⟩
  · refine ⟨.error 1, fun g e => ⟨g, ?_, .refl⟩, fun g e => zRa_err2 (t := 1) (b := 0) ?_ (by decide)⟩
    · unfold fX11_stops; rw [c_mailOf_no e h, zb3_e]
    · unfold fX12_stops; simp only [zb_s, zb2_s, zb3_s, zb3_e, zjoin_e, zput_e, r_thr0, r_thr1, zi10, zi01, if_true, if_false, r_noLetter_no hS (e.thr hS 0) h]
  refine ⟨.ok (zoi (zff (fun n => (zgr (zSL S) (zat S l n).1 (zat S l n).2).isNone) 41)), fun g e => ?_, fun g e => ?_⟩
  · obtain ⟨g1, a1, a2⟩ := c_look0 hS e (fun _ _ _ _ => rfl) hl
    -- growth itself touches 34, 35
    unfold fX11_stops
    rw [c_mailOf hS e hl, zb3_s, e.week, a1, zb_s]
    refine zL_Q0 (fun n i (s : zM) => fX11_stops_L26 n (nI i) s) (fun i s => zCA S g l i s ∧ ∀ j, j < i → (zgr (zSL S) (zat S l j).1 (zat S l j).2).isNone = false) 41 (fun x => ∃ g1, x = some (.ok (zoi (zff (fun n => (zgr (zSL S) (zat S l n).1 (zat S l n).2).isNone) 41)), g1) ∧ zFC g g1) g1 (by omega) ⟨a2, fun j hj => absurd hj (by omega)⟩ (fun n i s hi hh => ?_) (fun n s hh => ?_)
    · obtain ⟨b1, b2⟩ := hh
      have hs1 : s 446 1 = (zat S l i).2 := b1.1.2.1
      obtain ⟨s1, d1, d2⟩ := c_growth hS.law (b1.law e) b1.mail (by omega) (zat_W hS hl i) (s 446 1)
      have b1' : zCA S g l i s1 := ⟨⟨b1.mail.fr (d2 _ (by omega) (by omega)) (d2 _ (by omega) (by omega)) (d2 _ (by omega) (by omega)), by rw [d2 446 (by omega) (by omega)]; exact b1.1.2.1, by rw [d2 446 (by omega) (by omega)]; exact b1.1.2.2⟩, fun c h1 h2 h3 => by rw [d2 c h1 h2]; exact b1.2 c h1 h2 h3⟩
      obtain ⟨s2, f1, f2⟩ := c_week hS e hl b1'
      simp only [fX11_stops_L26]
      rw [hs1] at d1
      cases q : zgr (zSL S) (zat S l i).1 (zat S l i).2 with
      | none =>
        left
        rw [zff_some hi b2 (by rw [q]; rfl)]
        rw [q] at d1
        exact ⟨s1, by simp (disch := omega) only [nL_lt, nL_gt, nL_le, nL_ge, nL_eq, nL_qe, nI_ltI, nI_leI, nI_eq, nL_add, nL_dda, nI_add, nL_sub, pk_sub, nL_mul, nL_clamp, nI_cl, zchk_n, zchk_l, zb_s, zb2_s, zb3_s, zb3_e, zput_e, zjoin_e, zs_hit, zs_miss, nle_t, nle_f, nlt_t, nlt_f, neq_t, neq_f, ↓reduceIte, and_self, and_true, true_and, and_false, false_and, not_true_eq_false, not_false_eq_true, Nat.add_zero, hs1, d1]; rfl, b1'.fc⟩
      | some k =>
        right
        have := (zgr_lt hS.law q).1
        rw [q] at d1
        refine ⟨s2, ⟨f2, fun j hj => ?_⟩, by simp (disch := omega) only [nL_lt, nL_gt, nL_le, nL_ge, nL_eq, nL_qe, nI_ltI, nI_leI, nI_eq, nL_add, nL_dda, nI_add, nL_sub, pk_sub, nL_mul, nL_clamp, nI_cl, zchk_n, zchk_l, zb_s, zb2_s, zb3_s, zb3_e, zput_e, zjoin_e, zs_hit, zs_miss, nle_t, nle_f, nlt_t, nlt_f, neq_t, neq_f, ↓reduceIte, and_self, and_true, true_and, and_false, false_and, not_true_eq_false, not_false_eq_true, Nat.add_zero, hs1, d1, zoi_some, nI_m1, f1]⟩
        rcases Nat.lt_succ_iff_lt_or_eq.mp hj with q3 | q3
        · exact b2 j q3
        · rw [q3, q]; rfl
    · obtain ⟨b1, b2⟩ := hh
      simp only [fX11_stops_L26]
      rw [zff_none b2]
      exact ⟨s, by simp (disch := omega) only [nL_lt, nL_gt, nL_le, nL_ge, nL_eq, nL_qe, nI_ltI, nI_leI, nI_eq, nL_add, nL_dda, nI_add, nL_sub, pk_sub, nL_mul, nL_clamp, nI_cl, zchk_n, zchk_l, zb_s, zb2_s, zb3_s, zb3_e, zput_e, zjoin_e, zs_hit, zs_miss, nle_t, nle_f, nlt_t, nlt_f, neq_t, neq_f, ↓reduceIte, and_self, and_true, true_and, and_false, false_and, not_true_eq_false, not_false_eq_true, Nat.add_zero]; rfl, b1.fc⟩
  · have e0 := e.thr hS 0
    obtain ⟨g1, a1, a2⟩ := r_look0 hS e0 .refl hl
    obtain ⟨g2, b1, b2⟩ := r_until (g0 := g) hS e0 hl a2 (fun n v s => fX12_stops_L27 n v s) (fun n => (zgr (zSL S) (zat S l n).1 (zat S l n).2).isNone) nI (-1) (fun n i s hs hi => by
      obtain ⟨s1, d1, d2⟩ := r_canGrow hS.law (hs.ri hS e0).law (zat_W hS hl i) hs.1
      have hs' : zRA S (zset g 493 0 0) l i s1 := ⟨hs.1.fr (d2 _ (by omega)) (d2 _ (by omega)), hs.2.trans (.of d2)⟩
      obtain ⟨s2, f1, f2⟩ := r_week hS e0 hl hs'
      refine ⟨s2, s1, f2, hs'.2, ?_⟩
      simp only [fX12_stops_L27]
      cases q : zgr (zSL S) (zat S l i).1 (zat S l i).2 with
      | none => rw [q] at d1; simp (disch := omega) only [nL_lt, nL_gt, nL_le, nL_ge, nL_eq, nL_qe, nI_ltI, nI_leI, nI_eq, nL_add, nL_dda, nI_add, nL_sub, pk_sub, nL_mul, nL_clamp, nI_cl, zchk_n, zchk_l, zb_s, zb2_s, zb3_s, zb3_e, zput_e, zjoin_e, zs_hit, zs_miss, nle_t, nle_f, nlt_t, nlt_f, neq_t, neq_f, ↓reduceIte, and_self, and_true, true_and, and_false, false_and, not_true_eq_false, not_false_eq_true, Nat.add_zero, d1, Option.isSome_none, Option.isNone_none, zbi_f]
      | some k => rw [q] at d1; simp (disch := omega) only [nL_lt, nL_gt, nL_le, nL_ge, nL_eq, nL_qe, nI_ltI, nI_leI, nI_eq, nL_add, nL_dda, nI_add, nL_sub, pk_sub, nL_mul, nL_clamp, nI_cl, zchk_n, zchk_l, zb_s, zb2_s, zb3_s, zb3_e, zput_e, zjoin_e, zs_hit, zs_miss, nle_t, nle_f, nlt_t, nlt_f, neq_t, neq_f, ↓reduceIte, and_self, and_true, true_and, and_false, false_and, not_true_eq_false, not_false_eq_true, Nat.add_zero, d1, Option.isSome_some, Option.isNone_some, zbi_t, zi10, f1, Bool.false_eq_true]) (fun n s => by
      simp only [fX12_stops_L27]
      simp (disch := omega) only [nL_lt, nL_gt, nL_le, nL_ge, nL_eq, nL_qe, nI_ltI, nI_leI, nI_eq, nL_add, nL_dda, nI_add, nL_sub, pk_sub, nL_mul, nL_clamp, nI_cl, zchk_n, zchk_l, zb_s, zb2_s, zb3_s, zb3_e, zput_e, zjoin_e, zs_hit, zs_miss, nle_t, nle_f, nlt_t, nlt_f, neq_t, neq_f, ↓reduceIte, and_self, and_true, true_and, and_false, false_and, not_true_eq_false, not_false_eq_true, Nat.add_zero])
    refine zRa_ok (g1 := g2) ?_ b2
    unfold fX12_stops
    simp only [zb_s, zb2_s, zb3_s, zb3_e, zjoin_e, zput_e, r_thr0, r_thr1, zi10, zi01, if_true, if_false, r_noLetter hS e0 hl, a1]
    rw [b1, zmatch_oi]
