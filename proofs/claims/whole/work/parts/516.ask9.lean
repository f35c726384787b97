/-! CUTS, OUT, FORKS, TEMPERS -/
/-- whether a LETTER that is n weeks ahead of L says k, or not -/
def zct1 (S : zS) (L : zL) (n k : Nat) (b : Bool) : Bool := decide (zla S L n = k) != b
theorem zFC.fs {g s : zM} (f : zFS 446 g s) : zFC g s := f.fc (by omega)
theorem c_lookF {S : zS} {g0 g : zM} (hS : zSW S) (e : zCI S g0) (h0 : zFS 446 g0 g) {l : Nat} (hl : l < (zSB S).1) : ∃ g1, fX7_look 446 (4 + 1 + 3 * l) (g 3 2) g = some g1 ∧ zSR g1 446 ((zSB S).2.1 l, (zSB S).2.2.1, none) ∧ zFS 446 g0 g1 := by
  have h8 := hS.eight
  have es : zCI S g := e.fr hS (zFC.fs h0)
  obtain ⟨g1, a1, a2, a3⟩ := c_look (h := 446) (es.mail hl) (by omega) (hS.letter hl).2.1 (zSB S).2.2.1
  exact ⟨g1, by rw [es.week]; exact a1, a2, h0.trans (.of a3)⟩
theorem zSR.mail {g g1 : zM} {L L' : zL} {w : Int32} {f : Option Nat} (e : zSR g 446 (L, w, f)) (h : zCM g1 447 L') (f0 : g1 446 = g 446) : zSR g1 446 (L', w, f) := ⟨h, by rw [f0]; exact e.2.1, by rw [f0]; exact e.2.2⟩
theorem m_cuts {S : zS} (hS : zSW S) (v kv nv : Int32) (b : Bool) : zAsk [1, 2] S (fX11_cuts v kv nv (zbi b)) (fX12_cuts v kv nv (zbi b)) := by
  rcases zix v (zsz hS) with h | ⟨l, hl, rfl⟩
  · refine ⟨.error 1, fun g e => ⟨g, ?_, .refl⟩, fun g e => zRa_err2 (t := 1) (b := 0) ?_ (by decide)⟩
    · unfold fX11_cuts; rw [c_mailOf_no e h, zb3_e]
    · unfold fX12_cuts; simp only [zb_s, zb2_s, zb3_s, zb3_e, zjoin_e, zput_e, r_thr0, r_thr1, zi10, zi01, if_true, if_false, r_noLetter_no hS (e.thr hS 0) h]
  rcases zix kv (n := 12) (by omega) with h | ⟨k, hk, rfl⟩
  · refine ⟨.error 1, fun g e => ⟨g, ?_, .refl⟩, fun g e => zRa_err2 (t := 1) (b := 0) ?_ (by decide)⟩
    · unfold fX11_cuts; rw [c_mailOf hS e hl, zb3_s, c_needKind_no h, zb3_e]
    · unfold fX12_cuts; simp only [zb_s, zb2_s, zb3_s, zb3_e, zjoin_e, zput_e, r_thr0, r_thr1, zi10, zi01, if_true, if_false, r_noLetter hS (e.thr hS 0) hl, r_noKind_no h]
  rcases zix nv (n := 41) (by omega) with h | ⟨n, hn, rfl⟩
  · refine ⟨.error 2, fun g e => ⟨g, ?_, .refl⟩, fun g e => zRa_err2 (t := 2) (b := 0) ?_ (by decide)⟩
    · unfold fX11_cuts; rw [c_mailOf hS e hl, zb3_s, c_needKind hk, zb3_s, show fX11_needAhead nv 0 g = _ from c_needAhead_no h (m := 0) (by omega), zb3_e]
    · unfold fX12_cuts; simp only [zb_s, zb2_s, zb3_s, zb3_e, zjoin_e, zput_e, r_thr0, r_thr1, zi10, zi01, if_true, if_false, r_noLetter hS (e.thr hS 0) hl, r_noKind hk, r_noAhead_no h]
  have h8 := hS.eight
  have hL := hS.letter hl
  have h24 := hL.2.1
  have hb : ∃ p : Nat → Bool, ∀ off, p off = zct1 S (zLsh ((zSB S).2.1 l) off) n k b := ⟨_, fun _ => rfl⟩
  obtain ⟨p, hp⟩ := hb
  refine ⟨.ok (zoi (zff p ((zSB S).2.1 l).1)), fun g e => ?_, fun g e => ?_⟩
  · have main : ∃ g2, fX11_cuts_L19 (nI k) (nI n) (zbi b) (4 + 1 + 3 * l) zFU 0 g = some (.ok (zoi (zff p ((zSB S).2.1 l).1)), g2) ∧ zFC g g2 := by
      refine zL_Q0 (fun n' i (s : zM) => fX11_cuts_L19 (nI k) (nI n) (zbi b) (4 + 1 + 3 * l) n' (nI i) s) (fun i s => zFS 446 g s ∧ ∀ j, j < i → p j = false) ((zSB S).2.1 l).1 (fun x => ∃ g2, x = some (.ok (zoi (zff p ((zSB S).2.1 l).1)), g2) ∧ zFC g g2) g (by omega) ⟨.refl, fun j hj => absurd hj (by omega)⟩ (fun n' i s hi hh => ?_) (fun n' s hh => ?_)
      · obtain ⟨b1, b2⟩ := hh
        have es : zCI S s := e.fr hS (zFC.fs b1)
        obtain ⟨s1, c1, c2, c3⟩ := c_lookF hS e b1 hl
        obtain ⟨s2, d1, d2, d3⟩ := c_shorten c2.1 h24 (n := i) (Nat.le_of_lt hi)
        have c4 : zFS 446 g s2 := c3.trans (fun c _ _ h3 => d3 c (by omega))
        have hLs := zLsh_W hL hi
        obtain ⟨s3, f1, f2, f3⟩ := c_la hS e c4 (c2.mail d2 (d3 446 (by omega))) hLs (n := n) (by omega)
        have hz := zla_lt hS hLs n
        simp only [fX11_cuts_L19, (es.mail hl).1]
        have key : (if nI (zla S (zLsh ((zSB S).2.1 l) i) n) = nI k then if (1 : Int32) = zbi b then fX11_cuts_L19 (nI k) (nI n) (zbi b) (4 + 1 + 3 * l) n' (nI (i + 1)) s3 else some (.ok (nI i), s3) else if (0 : Int32) = zbi b then fX11_cuts_L19 (nI k) (nI n) (zbi b) (4 + 1 + 3 * l) n' (nI (i + 1)) s3 else some (.ok (nI i), s3)) = if p i = true then some (Except.ok (nI i), s3) else fX11_cuts_L19 (nI k) (nI n) (zbi b) (4 + 1 + 3 * l) n' (nI (i + 1)) s3 := by
          rw [hp]
          unfold zct1
          have hne : (nI (zla S (zLsh ((zSB S).2.1 l) i) n) = nI k) ↔ zla S (zLsh ((zSB S).2.1 l) i) n = k := nI_eq (by omega) (by omega)
          by_cases q : zla S (zLsh ((zSB S).2.1 l) i) n = k
          · rw [if_pos (hne.mpr q)]
            cases b <;> simp [q, zbi]
          · rw [if_neg (fun h => q (hne.mp h))]
            cases b <;> simp [q, zbi]
        have whole : fX11_cuts_L19 (nI k) (nI n) (zbi b) (4 + 1 + 3 * l) (n' + 1) (nI i) s = if p i = true then some (Except.ok (nI i), s3) else fX11_cuts_L19 (nI k) (nI n) (zbi b) (4 + 1 + 3 * l) n' (nI (i + 1)) s3 := by
          rw [← key]
          simp only [fX11_cuts_L19, (es.mail hl).1]
          rw [c1]
          simp (disch := omega) only [nI_leI, nle_f, ↓reduceIte, zb_s]
          rw [d1]
          simp only [zb_s, f1, f2, nI_1]
        simp only [fX11_cuts_L19, (es.mail hl).1] at whole
        cases q : p i
        · right
          refine ⟨s3, ⟨f3, fun j hj => ?_⟩, by rw [whole, q]; rfl⟩
          rcases Nat.lt_succ_iff_lt_or_eq.mp hj with q3 | q3
          · exact b2 j q3
          · rw [q3]; exact q
        · left
          rw [zff_some hi b2 q]
          exact ⟨s3, by rw [whole, q]; rfl, zFC.fs f3⟩
      · obtain ⟨b1, b2⟩ := hh
        have es : zCI S s := e.fr hS (zFC.fs b1)
        simp only [fX11_cuts_L19, (es.mail hl).1]
        rw [zff_none b2]
        exact ⟨s, by simp (disch := omega) only [nL_lt, nL_gt, nL_le, nL_ge, nL_eq, nL_qe, nI_ltI, nI_leI, nI_eq, nL_add, nL_dda, nI_add, nL_sub, pk_sub, nL_mul, nL_clamp, nI_cl, zchk_n, zchk_l, zb_s, zb2_s, zb3_s, zb3_e, zput_e, zjoin_e, zs_hit, zs_miss, nle_t, nle_f, nlt_t, nlt_f, neq_t, neq_f, ↓reduceIte, and_self, and_true, true_and, and_false, false_and, not_true_eq_false, not_false_eq_true, Nat.add_zero]; rfl, zFC.fs b1⟩
    obtain ⟨g2, a1, a2⟩ := main
    refine ⟨g2, ?_, a2⟩
    unfold fX11_cuts
    rw [c_mailOf hS e hl, zb3_s, c_needKind hk, zb3_s, show fX11_needAhead (nI n) 0 g = _ from c_needAhead (m := 0) hn (by omega), zb3_s]
    exact a1
  · have e0 := e.thr hS 0
    have main : ∃ g2, fX12_cuts_L50 (nI l) (nI k) (nI n) (zbi b) zFU 0 (zset g 493 0 0) = some (zoi (zff p ((zSB S).2.1 l).1), g2) ∧ zFQ (zset g 493 0 0) g2 := by
      refine zL_Q0 (fun n' i (s : zM) => fX12_cuts_L50 (nI l) (nI k) (nI n) (zbi b) n' (nI i) s) (fun i s => zFQ (zset g 493 0 0) s ∧ ∀ j, j < i → p j = false) ((zSB S).2.1 l).1 (fun x => ∃ g2, x = some (zoi (zff p ((zSB S).2.1 l).1), g2) ∧ zFQ (zset g 493 0 0) g2) (zset g 493 0 0) (by omega) ⟨.refl, fun j hj => absurd hj (by omega)⟩ (fun n' i s hi hh => ?_) (fun n' s hh => ?_)
      · obtain ⟨b1, b2⟩ := hh
        have es := e0.fq hS b1
        obtain ⟨s1, c1, c2⟩ := r_look0 hS es b1 hl
        obtain ⟨r1, r2, r3⟩ := c2.1
        have r1 : s1 493 19 = nI ((zSB S).2.1 l).1 := r1
        have hLs := zLsh_W hL hi
        have hrow : zRR (zset s1 493 19 (nI (((zSB S).2.1 l).1 - i))) (zLsh ((zSB S).2.1 l) i) (zLsh ((zSB S).2.1 l) i).1 (zSB S).2.2.1 := by
          refine ⟨?_, fun j hj => ?_, ?_, ?_, ?_, ?_, ?_⟩
          · simp (disch := omega) only [nL_lt, nL_gt, nL_le, nL_ge, nL_eq, nL_qe, nI_ltI, nI_leI, nI_eq, nL_add, nL_dda, nI_add, nL_sub, pk_sub, nL_mul, nL_clamp, nI_cl, zchk_n, zchk_l, zb_s, zb2_s, zb3_s, zb3_e, zput_e, zjoin_e, zs_hit, zs_miss, nle_t, nle_f, nlt_t, nlt_f, neq_t, neq_f, ↓reduceIte, and_self, and_true, true_and, and_false, false_and, not_true_eq_false, not_false_eq_true, Nat.add_zero]; rfl
          · have hj' : j < ((zSB S).2.1 l).1 - i := hj
            simp (disch := omega) only [nL_lt, nL_gt, nL_le, nL_ge, nL_eq, nL_qe, nI_ltI, nI_leI, nI_eq, nL_add, nL_dda, nI_add, nL_sub, pk_sub, nL_mul, nL_clamp, nI_cl, zchk_n, zchk_l, zb_s, zb2_s, zb3_s, zb3_e, zput_e, zjoin_e, zs_hit, zs_miss, nle_t, nle_f, nlt_t, nlt_f, neq_t, neq_f, ↓reduceIte, and_self, and_true, true_and, and_false, false_and, not_true_eq_false, not_false_eq_true, Nat.add_zero]; exact r2 j (by show j < ((zSB S).2.1 l).1; omega)
          · simp (disch := omega) only [nL_lt, nL_gt, nL_le, nL_ge, nL_eq, nL_qe, nI_ltI, nI_leI, nI_eq, nL_add, nL_dda, nI_add, nL_sub, pk_sub, nL_mul, nL_clamp, nI_cl, zchk_n, zchk_l, zb_s, zb2_s, zb3_s, zb3_e, zput_e, zjoin_e, zs_hit, zs_miss, nle_t, nle_f, nlt_t, nlt_f, neq_t, neq_f, ↓reduceIte, and_self, and_true, true_and, and_false, false_and, not_true_eq_false, not_false_eq_true, Nat.add_zero]; exact r3.1
          · simp (disch := omega) only [nL_lt, nL_gt, nL_le, nL_ge, nL_eq, nL_qe, nI_ltI, nI_leI, nI_eq, nL_add, nL_dda, nI_add, nL_sub, pk_sub, nL_mul, nL_clamp, nI_cl, zchk_n, zchk_l, zb_s, zb2_s, zb3_s, zb3_e, zput_e, zjoin_e, zs_hit, zs_miss, nle_t, nle_f, nlt_t, nlt_f, neq_t, neq_f, ↓reduceIte, and_self, and_true, true_and, and_false, false_and, not_true_eq_false, not_false_eq_true, Nat.add_zero]; exact r3.2.1
          · simp (disch := omega) only [nL_lt, nL_gt, nL_le, nL_ge, nL_eq, nL_qe, nI_ltI, nI_leI, nI_eq, nL_add, nL_dda, nI_add, nL_sub, pk_sub, nL_mul, nL_clamp, nI_cl, zchk_n, zchk_l, zb_s, zb2_s, zb3_s, zb3_e, zput_e, zjoin_e, zs_hit, zs_miss, nle_t, nle_f, nlt_t, nlt_f, neq_t, neq_f, ↓reduceIte, and_self, and_true, true_and, and_false, false_and, not_true_eq_false, not_false_eq_true, Nat.add_zero]; exact r3.2.2.1
          · simp (disch := omega) only [nL_lt, nL_gt, nL_le, nL_ge, nL_eq, nL_qe, nI_ltI, nI_leI, nI_eq, nL_add, nL_dda, nI_add, nL_sub, pk_sub, nL_mul, nL_clamp, nI_cl, zchk_n, zchk_l, zb_s, zb2_s, zb3_s, zb3_e, zput_e, zjoin_e, zs_hit, zs_miss, nle_t, nle_f, nlt_t, nlt_f, neq_t, neq_f, ↓reduceIte, and_self, and_true, true_and, and_false, false_and, not_true_eq_false, not_false_eq_true, Nat.add_zero]; exact r3.2.2.2.1
          · simp (disch := omega) only [nL_lt, nL_gt, nL_le, nL_ge, nL_eq, nL_qe, nI_ltI, nI_leI, nI_eq, nL_add, nL_dda, nI_add, nL_sub, pk_sub, nL_mul, nL_clamp, nI_cl, zchk_n, zchk_l, zb_s, zb2_s, zb3_s, zb3_e, zput_e, zjoin_e, zs_hit, zs_miss, nle_t, nle_f, nlt_t, nlt_f, neq_t, neq_f, ↓reduceIte, and_self, and_true, true_and, and_false, false_and, not_true_eq_false, not_false_eq_true, Nat.add_zero]; exact r3.2.2.2.2
        have c4 : zFQ (zset g 493 0 0) (zset s1 493 19 (nI (((zSB S).2.1 l).1 - i))) := c2.2.trans ⟨fun c h1 h2 h3 => by simp (disch := omega) only [nL_lt, nL_gt, nL_le, nL_ge, nL_eq, nL_qe, nI_ltI, nI_leI, nI_eq, nL_add, nL_dda, nI_add, nL_sub, pk_sub, nL_mul, nL_clamp, nI_cl, zchk_n, zchk_l, zb_s, zb2_s, zb3_s, zb3_e, zput_e, zjoin_e, zs_hit, zs_miss, nle_t, nle_f, nlt_t, nlt_f, neq_t, neq_f, ↓reduceIte, and_self, and_true, true_and, and_false, false_and, not_true_eq_false, not_false_eq_true, Nat.add_zero, zs_cell], fun k hk => by simp (disch := omega) only [nL_lt, nL_gt, nL_le, nL_ge, nL_eq, nL_qe, nI_ltI, nI_leI, nI_eq, nL_add, nL_dda, nI_add, nL_sub, pk_sub, nL_mul, nL_clamp, nI_cl, zchk_n, zchk_l, zb_s, zb2_s, zb3_s, zb3_e, zput_e, zjoin_e, zs_hit, zs_miss, nle_t, nle_f, nlt_t, nlt_f, neq_t, neq_f, ↓reduceIte, and_self, and_true, true_and, and_false, false_and, not_true_eq_false, not_false_eq_true, Nat.add_zero]⟩
        obtain ⟨s3, f1, f2, f3⟩ := r_la hS e0 c4 hrow hLs (n := n) (by omega)
        have hz := zla_lt hS hLs n
        have hne : (nI (zla S (zLsh ((zSB S).2.1 l) i) n) = nI k) ↔ zla S (zLsh ((zSB S).2.1 l) i) n = k := nI_eq (by omega) (by omega)
        have whole : fX12_cuts_L50 (nI l) (nI k) (nI n) (zbi b) (n' + 1) (nI i) s = if p i = true then some (nI i, s3) else fX12_cuts_L50 (nI l) (nI k) (nI n) (zbi b) n' (nI (i + 1)) s3 := by
          simp only [fX12_cuts_L50, r_lines hS es hl, zb_s, c1, r1]
          simp (disch := omega) only [nI_leI, nle_f, ↓reduceIte, zput_e, pk_sub]
          rw [f1]
          simp only [zb_s, f2, nI_1]
          rw [hp]
          unfold zct1
          by_cases q : zla S (zLsh ((zSB S).2.1 l) i) n = k
          · rw [if_pos (hne.mpr q)]
            cases b <;> simp [q, zbi]
          · rw [if_neg (fun h => q (hne.mp h))]
            cases b <;> simp [q, zbi]
        rw [whole]
        cases q : p i
        · right
          refine ⟨s3, ⟨f3, fun j hj => ?_⟩, rfl⟩
          rcases Nat.lt_succ_iff_lt_or_eq.mp hj with q3 | q3
          · exact b2 j q3
          · rw [q3]; exact q
        · left
          rw [zff_some hi b2 q]
          exact ⟨s3, rfl, f3⟩
      · obtain ⟨b1, b2⟩ := hh
        simp only [fX12_cuts_L50, r_lines hS (e0.fq hS b1) hl, zb_s]
        rw [zff_none b2]
        exact ⟨s, by simp (disch := omega) only [nL_lt, nL_gt, nL_le, nL_ge, nL_eq, nL_qe, nI_ltI, nI_leI, nI_eq, nL_add, nL_dda, nI_add, nL_sub, pk_sub, nL_mul, nL_clamp, nI_cl, zchk_n, zchk_l, zb_s, zb2_s, zb3_s, zb3_e, zput_e, zjoin_e, zs_hit, zs_miss, nle_t, nle_f, nlt_t, nlt_f, neq_t, neq_f, ↓reduceIte, and_self, and_true, true_and, and_false, false_and, not_true_eq_false, not_false_eq_true, Nat.add_zero]; rfl, b1⟩
    obtain ⟨g2, a1, a2⟩ := main
    refine zRa_ok (g1 := g2) ?_ a2
    unfold fX12_cuts
    simp only [zb_s, zb2_s, zb3_s, zb3_e, zjoin_e, zput_e, r_thr0, r_thr1, zi10, zi01, if_true, if_false, r_noLetter hS e0 hl, r_noKind hk, r_noAhead hn]
    exact a1
theorem m_out {S : zS} (hS : zSW S) (v kv nv : Int32) (b : Bool) : zAsk [1, 2] S (fX11_out v kv nv (zbi b)) (fX12_out v kv nv (zbi b)) := by
  rcases zix v (zsz hS) with h | ⟨l, hl, rfl⟩
  · refine ⟨.error 1, fun g e => ⟨g, ?_, .refl⟩, fun g e => zRa_err2 (t := 1) (b := 0) ?_ (by decide)⟩
    · unfold fX11_out; rw [c_mailOf_no e h, zb3_e]
    · unfold fX12_out; simp only [zb_s, zb2_s, zb3_s, zb3_e, zjoin_e, zput_e, r_thr0, r_thr1, zi10, zi01, if_true, if_false, r_noLetter_no hS (e.thr hS 0) h]
  rcases zix kv (n := 12) (by omega) with h | ⟨k, hk, rfl⟩
  · refine ⟨.error 1, fun g e => ⟨g, ?_, .refl⟩, fun g e => zRa_err2 (t := 1) (b := 0) ?_ (by decide)⟩
    · unfold fX11_out; rw [c_mailOf hS e hl, zb3_s, c_needKind_no h, zb3_e]
    · unfold fX12_out; simp only [zb_s, zb2_s, zb3_s, zb3_e, zjoin_e, zput_e, r_thr0, r_thr1, zi10, zi01, if_true, if_false, r_noLetter hS (e.thr hS 0) hl, r_noKind_no h]
  rcases zix nv (n := 41) (by omega) with h | ⟨n, hn, rfl⟩
  · refine ⟨.error 2, fun g e => ⟨g, ?_, .refl⟩, fun g e => zRa_err2 (t := 2) (b := 0) ?_ (by decide)⟩
    · unfold fX11_out; rw [c_mailOf hS e hl, zb3_s, c_needKind hk, zb3_s, show fX11_needAhead nv 0 g = _ from c_needAhead_no h (m := 0) (by omega), zb3_e]
    · unfold fX12_out; simp only [zb_s, zb2_s, zb3_s, zb3_e, zjoin_e, zput_e, r_thr0, r_thr1, zi10, zi01, if_true, if_false, r_noLetter hS (e.thr hS 0) hl, r_noKind hk, r_noAhead_no h]
  have h8 := hS.eight
  have hL := hS.letter hl
  have h24 := hL.2.1
  have hb : ∃ p : Nat → Bool, ∀ x, p x = zct1 S (zLdr ((zSB S).2.1 l) x) n k b := ⟨_, fun _ => rfl⟩
  obtain ⟨p, hp⟩ := hb
  refine ⟨.ok (if ((zSB S).2.1 l).1 ≤ 1 then 0 else zbs p ((zSB S).2.1 l).1), fun g e => ?_, fun g e => ?_⟩
  · have main : ∃ g2, fX11_out_L22 (nI k) (nI n) (zbi b) (4 + 1 + 3 * l) zFU 0 0 g = some (.ok (if ((zSB S).2.1 l).1 ≤ 1 then 0 else zbs p ((zSB S).2.1 l).1), g2) ∧ zFC g g2 := by
      by_cases h1 : ((zSB S).2.1 l).1 ≤ 1
      · have h01 := hL.1
        refine ⟨g, ?_, .refl⟩
        rw [if_pos h1]
        have : ∀ m, fX11_out_L22 (nI k) (nI n) (zbi b) (4 + 1 + 3 * l) (m + 1) 0 0 g = some (.ok 0, g) := by
          intro m
          simp only [fX11_out_L22, (e.mail hl).1]
          simp (disch := omega) only [nL_lt, nL_gt, nL_le, nL_ge, nL_eq, nL_qe, nI_ltI, nI_leI, nI_eq, nL_add, nL_dda, nI_add, nL_sub, pk_sub, nL_mul, nL_clamp, nI_cl, zchk_n, zchk_l, zb_s, zb2_s, zb3_s, zb3_e, zput_e, zjoin_e, zs_hit, zs_miss, nle_t, nle_f, nlt_t, nlt_f, neq_t, neq_f, ↓reduceIte, and_self, and_true, true_and, and_false, false_and, not_true_eq_false, not_false_eq_true, Nat.add_zero]
        exact this 99999
      · rw [if_neg h1]
        refine zL_Q0 (fun n' i (st : Int32 × zM) => fX11_out_L22 (nI k) (nI n) (zbi b) (4 + 1 + 3 * l) n' st.1 (nI i) st.2) (fun i st => zFS 446 g st.2 ∧ st.1 = zbs p i) ((zSB S).2.1 l).1 (fun x => ∃ g2, x = some (.ok (zbs p ((zSB S).2.1 l).1), g2) ∧ zFC g g2) (0, g) (by omega) ⟨.refl, rfl⟩ (fun n' i st hi hh => ?_) (fun n' st hh => ?_)
        · obtain ⟨a, s⟩ := st
          obtain ⟨b1, b2⟩ := hh
          have b1 : zFS 446 g s := b1
          have b2 : a = zbs p i := b2
          subst b2
          have es : zCI S s := e.fr hS (zFC.fs b1)
          obtain ⟨s1, c1, c2, c3⟩ := c_lookF hS e b1 hl
          obtain ⟨s2, d1, d2, d3⟩ := c_drop c2.1 h24 (x := i) hi
          have c4 : zFS 446 g s2 := c3.trans (fun c _ _ h3 => d3 c (by omega) (by omega) (by omega))
          have hLs := zLdr_W hL (x := i) (by omega)
          obtain ⟨s3, f1, f2, f3⟩ := c_la hS e c4 (c2.mail d2 (d3 446 (by omega) (by omega) (by omega))) hLs (n := n) (by omega)
          have hz := zla_lt hS hLs n
          have hne : (nI (zla S (zLdr ((zSB S).2.1 l) i) n) = nI k) ↔ zla S (zLdr ((zSB S).2.1 l) i) n = k := nI_eq (by omega) (by omega)
          right
          refine ⟨(zbs p (i + 1), s3), ⟨f3, rfl⟩, ?_⟩
          simp only [fX11_out_L22, (es.mail hl).1]
          rw [c1]
          simp (disch := omega) only [nI_leI, nL_le, nle_f, ↓reduceIte, zb_s]
          rw [d1]
          simp only [zb_s, f1, f2, nI_1, zjoin_ite]
          rw [zbs_s, hp]
          unfold zct1
          by_cases q : zla S (zLdr ((zSB S).2.1 l) i) n = k
          · rw [if_pos (hne.mpr q)]
            cases b <;> simp [q, zbi]
          · rw [if_neg (fun h => q (hne.mp h))]
            cases b <;> simp [q, zbi]
        · obtain ⟨a, s⟩ := st
          obtain ⟨b1, b2⟩ := hh
          have b1 : zFS 446 g s := b1
          have b2 : a = zbs p ((zSB S).2.1 l).1 := b2
          have es : zCI S s := e.fr hS (zFC.fs b1)
          refine ⟨s, ?_, zFC.fs b1⟩
          rw [← b2]
          simp only [fX11_out_L22, (es.mail hl).1]
          simp (disch := omega) only [nL_lt, nL_gt, nL_le, nL_ge, nL_eq, nL_qe, nI_ltI, nI_leI, nI_eq, nL_add, nL_dda, nI_add, nL_sub, pk_sub, nL_mul, nL_clamp, nI_cl, zchk_n, zchk_l, zb_s, zb2_s, zb3_s, zb3_e, zput_e, zjoin_e, zs_hit, zs_miss, nle_t, nle_f, nlt_t, nlt_f, neq_t, neq_f, ↓reduceIte, and_self, and_true, true_and, and_false, false_and, not_true_eq_false, not_false_eq_true, Nat.add_zero]
    obtain ⟨g2, a1, a2⟩ := main
    refine ⟨g2, ?_, a2⟩
    unfold fX11_out
    rw [c_mailOf hS e hl, zb3_s, c_needKind hk, zb3_s, show fX11_needAhead (nI n) 0 g = _ from c_needAhead (m := 0) hn (by omega), zb3_s]
    exact a1
  · have e0 := e.thr hS 0
    have main : ∃ g2, fX12_out_L53 (nI l) (nI k) (nI n) (zbi b) zFU 0 0 (zset g 493 0 0) = some (if ((zSB S).2.1 l).1 ≤ 1 then 0 else zbs p ((zSB S).2.1 l).1, g2) ∧ zFQ (zset g 493 0 0) g2 := by
      by_cases h1 : ((zSB S).2.1 l).1 ≤ 1
      · have h01 := hL.1
        refine ⟨zset g 493 0 0, ?_, .refl⟩
        rw [if_pos h1]
        have : ∀ m, fX12_out_L53 (nI l) (nI k) (nI n) (zbi b) (m + 1) 0 0 (zset g 493 0 0) = some (0, zset g 493 0 0) := by
          intro m
          simp only [fX12_out_L53, r_lines hS e0 hl]
          simp (disch := omega) only [nL_lt, nL_gt, nL_le, nL_ge, nL_eq, nL_qe, nI_ltI, nI_leI, nI_eq, nL_add, nL_dda, nI_add, nL_sub, pk_sub, nL_mul, nL_clamp, nI_cl, zchk_n, zchk_l, zb_s, zb2_s, zb3_s, zb3_e, zput_e, zjoin_e, zs_hit, zs_miss, nle_t, nle_f, nlt_t, nlt_f, neq_t, neq_f, ↓reduceIte, and_self, and_true, true_and, and_false, false_and, not_true_eq_false, not_false_eq_true, Nat.add_zero]
        exact this 99999
      · rw [if_neg h1]
        refine zL_Q0 (fun n' i (st : Int32 × zM) => fX12_out_L53 (nI l) (nI k) (nI n) (zbi b) n' st.1 (nI i) st.2) (fun i st => zFQ (zset g 493 0 0) st.2 ∧ st.1 = zbs p i) ((zSB S).2.1 l).1 (fun x => ∃ g2, x = some (zbs p ((zSB S).2.1 l).1, g2) ∧ zFQ (zset g 493 0 0) g2) (0, zset g 493 0 0) (by omega) ⟨.refl, rfl⟩ (fun n' i st hi hh => ?_) (fun n' st hh => ?_)
        · obtain ⟨a, s⟩ := st
          obtain ⟨b1, b2⟩ := hh
          have b1 : zFQ (zset g 493 0 0) s := b1
          have b2 : a = zbs p i := b2
          subst b2
          have es := e0.fq hS b1
          obtain ⟨s1, c1, c2⟩ := r_look0 hS es b1 hl
          obtain ⟨r1, r2, r3⟩ := c2.1
          have r1 : s1 493 19 = nI ((zSB S).2.1 l).1 := r1
          have r2 : ∀ j, j < ((zSB S).2.1 l).1 → s1 502 j = nI (((zSB S).2.1 l).2.1 j) := r2
          have hLs := zLdr_W hL (x := i) (by omega)
          have hz := zla_lt hS hLs n
          have hne : (nI (zla S (zLdr ((zSB S).2.1 l) i) n) = nI k) ↔ zla S (zLdr ((zSB S).2.1 l) i) n = k := nI_eq (by omega) (by omega)
          right
          have whole : ∃ s3, fX12_out_L53 (nI l) (nI k) (nI n) (zbi b) (n' + 1) (zbs p i) (nI i) s = fX12_out_L53 (nI l) (nI k) (nI n) (zbi b) n' (zbs p (i + 1)) (nI (i + 1)) s3 ∧ zFQ (zset g 493 0 0) s3 := by
            simp only [fX12_out_L53, r_lines hS es hl, zb_s, c1]
            simp (disch := omega) only [nI_leI, nL_le, nle_f, ↓reduceIte]
            refine zL_Q (fun m j (s : zM) => fX12_out_L81 (nI l) (nI k) (nI n) (zbi b) (zbs p i) (nI i) _ m (nI j) s) (fun j s => i ≤ j ∧ (∀ c, c ≠ 502 → s c = s1 c) ∧ (∀ x, x < ((zSB S).2.1 l).1 → s 502 x = nI (((zSB S).2.1 l).2.1 (if i ≤ x ∧ x < j then x + 1 else x)))) (((zSB S).2.1 l).1 - 1) (fun x => ∃ s3, x = fX12_out_L53 (nI l) (nI k) (nI n) (zbi b) n' (zbs p (i + 1)) (nI (i + 1)) s3 ∧ zFQ (zset g 493 0 0) s3) (fun m j t hj ht => ?_) (fun m t ht => ?_) (((zSB S).2.1 l).1 - 1 - i) i zFU s1 (by omega) (by unfold zFU; omega) ⟨Nat.le_refl _, fun _ _ => rfl, fun x hx => by rw [if_neg (by omega)]; exact r2 x hx⟩
            · obtain ⟨t1, t2, t3⟩ := ht
              have t4 : t 493 19 = nI ((zSB S).2.1 l).1 := by rw [t2 493 (by omega)]; exact r1
              right
              refine ⟨zset t 502 j (t 502 (j + 1)), ⟨by omega, fun c hc => by simp (disch := omega) only [nL_lt, nL_gt, nL_le, nL_ge, nL_eq, nL_qe, nI_ltI, nI_leI, nI_eq, nL_add, nL_dda, nI_add, nL_sub, pk_sub, nL_mul, nL_clamp, nI_cl, zchk_n, zchk_l, zb_s, zb2_s, zb3_s, zb3_e, zput_e, zjoin_e, zs_hit, zs_miss, nle_t, nle_f, nlt_t, nlt_f, neq_t, neq_f, ↓reduceIte, and_self, and_true, true_and, and_false, false_and, not_true_eq_false, not_false_eq_true, Nat.add_zero, zs_cell]; exact t2 c hc, fun x hx => ?_⟩, ?_⟩
              · by_cases q : x = j
                · subst q
                  simp (disch := omega) only [nL_lt, nL_gt, nL_le, nL_ge, nL_eq, nL_qe, nI_ltI, nI_leI, nI_eq, nL_add, nL_dda, nI_add, nL_sub, pk_sub, nL_mul, nL_clamp, nI_cl, zchk_n, zchk_l, zb_s, zb2_s, zb3_s, zb3_e, zput_e, zjoin_e, zs_hit, zs_miss, nle_t, nle_f, nlt_t, nlt_f, neq_t, neq_f, ↓reduceIte, and_self, and_true, true_and, and_false, false_and, not_true_eq_false, not_false_eq_true, Nat.add_zero]
                  rw [t3 _ (by omega), if_neg (by omega)]
                · simp (disch := omega) only [nL_lt, nL_gt, nL_le, nL_ge, nL_eq, nL_qe, nI_ltI, nI_leI, nI_eq, nL_add, nL_dda, nI_add, nL_sub, pk_sub, nL_mul, nL_clamp, nI_cl, zchk_n, zchk_l, zb_s, zb2_s, zb3_s, zb3_e, zput_e, zjoin_e, zs_hit, zs_miss, nle_t, nle_f, nlt_t, nlt_f, neq_t, neq_f, ↓reduceIte, and_self, and_true, true_and, and_false, false_and, not_true_eq_false, not_false_eq_true, Nat.add_zero]
                  rw [t3 x hx]
                  by_cases q2 : i ≤ x ∧ x < j
                  · rw [if_pos q2, if_pos (by omega)]
                  · rw [if_neg q2, if_neg (by omega)]
              · simp only [fX12_out_L81, t4]
                simp (disch := omega) only [nL_lt, nL_gt, nL_le, nL_ge, nL_eq, nL_qe, nI_ltI, nI_leI, nI_eq, nL_add, nL_dda, nI_add, nL_sub, pk_sub, nL_mul, nL_clamp, nI_cl, zchk_n, zchk_l, zb_s, zb2_s, zb3_s, zb3_e, zput_e, zjoin_e, zs_hit, zs_miss, nle_t, nle_f, nlt_t, nlt_f, neq_t, neq_f, ↓reduceIte, and_self, and_true, true_and, and_false, false_and, not_true_eq_false, not_false_eq_true, Nat.add_zero]
            · obtain ⟨t1, t2, t3⟩ := ht
              have t4 : t 493 19 = nI ((zSB S).2.1 l).1 := by rw [t2 493 (by omega)]; exact r1
              simp only [fX12_out_L81, t4]
              have hrow : zRR (zset t 493 19 (nI (((zSB S).2.1 l).1 - 1))) (zLdr ((zSB S).2.1 l) i) (zLdr ((zSB S).2.1 l) i).1 (zSB S).2.2.1 := by
                refine ⟨?_, fun j hj => ?_, ?_, ?_, ?_, ?_, ?_⟩
                · simp (disch := omega) only [nL_lt, nL_gt, nL_le, nL_ge, nL_eq, nL_qe, nI_ltI, nI_leI, nI_eq, nL_add, nL_dda, nI_add, nL_sub, pk_sub, nL_mul, nL_clamp, nI_cl, zchk_n, zchk_l, zb_s, zb2_s, zb3_s, zb3_e, zput_e, zjoin_e, zs_hit, zs_miss, nle_t, nle_f, nlt_t, nlt_f, neq_t, neq_f, ↓reduceIte, and_self, and_true, true_and, and_false, false_and, not_true_eq_false, not_false_eq_true, Nat.add_zero]; rfl
                · have hj' : j < ((zSB S).2.1 l).1 - 1 := hj
                  simp (disch := omega) only [nL_lt, nL_gt, nL_le, nL_ge, nL_eq, nL_qe, nI_ltI, nI_leI, nI_eq, nL_add, nL_dda, nI_add, nL_sub, pk_sub, nL_mul, nL_clamp, nI_cl, zchk_n, zchk_l, zb_s, zb2_s, zb3_s, zb3_e, zput_e, zjoin_e, zs_hit, zs_miss, nle_t, nle_f, nlt_t, nlt_f, neq_t, neq_f, ↓reduceIte, and_self, and_true, true_and, and_false, false_and, not_true_eq_false, not_false_eq_true, Nat.add_zero]
                  rw [t3 j (by omega)]
                  show _ = nI (if j < i then _ else _)
                  by_cases q : j < i
                  · rw [if_neg (by omega), if_pos q]
                  · rw [if_pos (by omega), if_neg q]
                · simp (disch := omega) only [nL_lt, nL_gt, nL_le, nL_ge, nL_eq, nL_qe, nI_ltI, nI_leI, nI_eq, nL_add, nL_dda, nI_add, nL_sub, pk_sub, nL_mul, nL_clamp, nI_cl, zchk_n, zchk_l, zb_s, zb2_s, zb3_s, zb3_e, zput_e, zjoin_e, zs_hit, zs_miss, nle_t, nle_f, nlt_t, nlt_f, neq_t, neq_f, ↓reduceIte, and_self, and_true, true_and, and_false, false_and, not_true_eq_false, not_false_eq_true, Nat.add_zero]; rw [t2 493 (by omega)]; exact r3.1
                · simp (disch := omega) only [nL_lt, nL_gt, nL_le, nL_ge, nL_eq, nL_qe, nI_ltI, nI_leI, nI_eq, nL_add, nL_dda, nI_add, nL_sub, pk_sub, nL_mul, nL_clamp, nI_cl, zchk_n, zchk_l, zb_s, zb2_s, zb3_s, zb3_e, zput_e, zjoin_e, zs_hit, zs_miss, nle_t, nle_f, nlt_t, nlt_f, neq_t, neq_f, ↓reduceIte, and_self, and_true, true_and, and_false, false_and, not_true_eq_false, not_false_eq_true, Nat.add_zero]; rw [t2 493 (by omega)]; exact r3.2.1
                · simp (disch := omega) only [nL_lt, nL_gt, nL_le, nL_ge, nL_eq, nL_qe, nI_ltI, nI_leI, nI_eq, nL_add, nL_dda, nI_add, nL_sub, pk_sub, nL_mul, nL_clamp, nI_cl, zchk_n, zchk_l, zb_s, zb2_s, zb3_s, zb3_e, zput_e, zjoin_e, zs_hit, zs_miss, nle_t, nle_f, nlt_t, nlt_f, neq_t, neq_f, ↓reduceIte, and_self, and_true, true_and, and_false, false_and, not_true_eq_false, not_false_eq_true, Nat.add_zero]; rw [t2 493 (by omega)]; exact r3.2.2.1
                · simp (disch := omega) only [nL_lt, nL_gt, nL_le, nL_ge, nL_eq, nL_qe, nI_ltI, nI_leI, nI_eq, nL_add, nL_dda, nI_add, nL_sub, pk_sub, nL_mul, nL_clamp, nI_cl, zchk_n, zchk_l, zb_s, zb2_s, zb3_s, zb3_e, zput_e, zjoin_e, zs_hit, zs_miss, nle_t, nle_f, nlt_t, nlt_f, neq_t, neq_f, ↓reduceIte, and_self, and_true, true_and, and_false, false_and, not_true_eq_false, not_false_eq_true, Nat.add_zero]; rw [t2 493 (by omega)]; exact r3.2.2.2.1
                · simp (disch := omega) only [nL_lt, nL_gt, nL_le, nL_ge, nL_eq, nL_qe, nI_ltI, nI_leI, nI_eq, nL_add, nL_dda, nI_add, nL_sub, pk_sub, nL_mul, nL_clamp, nI_cl, zchk_n, zchk_l, zb_s, zb2_s, zb3_s, zb3_e, zput_e, zjoin_e, zs_hit, zs_miss, nle_t, nle_f, nlt_t, nlt_f, neq_t, neq_f, ↓reduceIte, and_self, and_true, true_and, and_false, false_and, not_true_eq_false, not_false_eq_true, Nat.add_zero]; rw [t2 493 (by omega)]; exact r3.2.2.2.2
              have c4 : zFQ (zset g 493 0 0) (zset t 493 19 (nI (((zSB S).2.1 l).1 - 1))) := c2.2.trans ⟨fun c h1 h2 h3 => by simp (disch := omega) only [nL_lt, nL_gt, nL_le, nL_ge, nL_eq, nL_qe, nI_ltI, nI_leI, nI_eq, nL_add, nL_dda, nI_add, nL_sub, pk_sub, nL_mul, nL_clamp, nI_cl, zchk_n, zchk_l, zb_s, zb2_s, zb3_s, zb3_e, zput_e, zjoin_e, zs_hit, zs_miss, nle_t, nle_f, nlt_t, nlt_f, neq_t, neq_f, ↓reduceIte, and_self, and_true, true_and, and_false, false_and, not_true_eq_false, not_false_eq_true, Nat.add_zero, zs_cell]; exact t2 c h3, fun k hk => by simp (disch := omega) only [nL_lt, nL_gt, nL_le, nL_ge, nL_eq, nL_qe, nI_ltI, nI_leI, nI_eq, nL_add, nL_dda, nI_add, nL_sub, pk_sub, nL_mul, nL_clamp, nI_cl, zchk_n, zchk_l, zb_s, zb2_s, zb3_s, zb3_e, zput_e, zjoin_e, zs_hit, zs_miss, nle_t, nle_f, nlt_t, nlt_f, neq_t, neq_f, ↓reduceIte, and_self, and_true, true_and, and_false, false_and, not_true_eq_false, not_false_eq_true, Nat.add_zero]; rw [t2 493 (by omega)]⟩
              obtain ⟨s3, f1, f2, f3⟩ := r_la hS e0 c4 hrow hLs (n := n) (by omega)
              refine ⟨s3, ?_, f3⟩
              have hsub : nI ((zSB S).2.1 l).1 - 1 = nI (((zSB S).2.1 l).1 - 1) := by simp (disch := omega) only [nL_lt, nL_gt, nL_le, nL_ge, nL_eq, nL_qe, nI_ltI, nI_leI, nI_eq, nL_add, nL_dda, nI_add, nL_sub, pk_sub, nL_mul, nL_clamp, nI_cl, zchk_n, zchk_l, zb_s, zb2_s, zb3_s, zb3_e, zput_e, zjoin_e, zs_hit, zs_miss, nle_t, nle_f, nlt_t, nlt_f, neq_t, neq_f, ↓reduceIte, and_self, and_true, true_and, and_false, false_and, not_true_eq_false, not_false_eq_true, Nat.add_zero]
              have hle : nI ((zSB S).2.1 l).1 ≤ nI (((zSB S).2.1 l).1 - 1) + 1 := by simp (disch := omega) only [nL_lt, nL_gt, nL_le, nL_ge, nL_eq, nL_qe, nI_ltI, nI_leI, nI_eq, nL_add, nL_dda, nI_add, nL_sub, pk_sub, nL_mul, nL_clamp, nI_cl, zchk_n, zchk_l, zb_s, zb2_s, zb3_s, zb3_e, zput_e, zjoin_e, zs_hit, zs_miss, nle_t, nle_f, nlt_t, nlt_f, neq_t, neq_f, ↓reduceIte, and_self, and_true, true_and, and_false, false_and, not_true_eq_false, not_false_eq_true, Nat.add_zero]
              rw [if_pos hle, hsub]
              simp only [zput_e]
              rw [f1]
              simp only [zb_s, f2, nI_1, zjoin_ite]
              rw [zbs_s, hp]
              unfold zct1
              by_cases q : zla S (zLdr ((zSB S).2.1 l) i) n = k
              · rw [if_pos (hne.mpr q)]
                cases b <;> simp [q, zbi]
              · rw [if_neg (fun h => q (hne.mp h))]
                cases b <;> simp [q, zbi]
          obtain ⟨s3, w1, w2⟩ := whole
          exact ⟨(zbs p (i + 1), s3), ⟨w2, rfl⟩, w1⟩
        · obtain ⟨a, s⟩ := st
          obtain ⟨b1, b2⟩ := hh
          have b1 : zFQ (zset g 493 0 0) s := b1
          have b2 : a = zbs p ((zSB S).2.1 l).1 := b2
          refine ⟨s, ?_, b1⟩
          rw [← b2]
          simp only [fX12_out_L53, r_lines hS (e0.fq hS b1) hl, zb_s]
          simp (disch := omega) only [nL_lt, nL_gt, nL_le, nL_ge, nL_eq, nL_qe, nI_ltI, nI_leI, nI_eq, nL_add, nL_dda, nI_add, nL_sub, pk_sub, nL_mul, nL_clamp, nI_cl, zchk_n, zchk_l, zb_s, zb2_s, zb3_s, zb3_e, zput_e, zjoin_e, zs_hit, zs_miss, nle_t, nle_f, nlt_t, nlt_f, neq_t, neq_f, ↓reduceIte, and_self, and_true, true_and, and_false, false_and, not_true_eq_false, not_false_eq_true, Nat.add_zero]
    obtain ⟨g2, a1, a2⟩ := main
    refine zRa_ok (g1 := g2) ?_ a2
    unfold fX12_out
    simp only [zb_s, zb2_s, zb3_s, zb3_e, zjoin_e, zput_e, r_thr0, r_thr1, zi10, zi01, if_true, if_false, r_noLetter hS e0 hl, r_noKind hk, r_noAhead hn]
    exact a1
