/-! calls that act: the frame of their proofs -/
def zDo (l : List Nat) (S : zS) (f : zM → Option (Except Nat Int32 × zM)) (fm : zM → Option (Int32 × zM)) : Prop := ∃ (r : Except Nat Int32) (S' : zS), zSW S' ∧ (∀ g, zCI S g → ∃ g1, f g = some (r, g1) ∧ zCI S' g1 ∧ ∀ c, 493 ≤ c → g1 c = g c) ∧ ∀ g, zRI S g → ∃ b g1, fm g = some (b, g1) ∧ zRI S' g1 ∧ (∀ c, c < 493 → g1 c = g c) ∧ g1 508 = g 508 ∧ match r with
  | .ok a => g1 493 0 = 0 ∧ b = a
  | .error c => c ∈ l ∧ g1 493 0 = nI (l.idxOf c + 1)
theorem zAsk.do {l : List Nat} {S : zS} {f : zM → Option (Except Nat Int32 × zM)} {fm : zM → Option (Int32 × zM)} (hS : zSW S) (h : zAsk l S f fm) : zDo l S f fm := by
  obtain ⟨r, h1, h2⟩ := h
  refine ⟨r, S, hS, fun g e => ?_, fun g e => ?_⟩
  · obtain ⟨g1, a1, a2⟩ := h1 g e
    exact ⟨g1, a1, e.fr hS a2, fun c hc => a2.1 c (by omega) (by omega) (Or.inr hc)⟩
  · obtain ⟨b, g1, a1, a2, a3⟩ := h2 g e
    exact ⟨b, g1, a1, e.fr hS a2, a2.1, a2.2.2.2.2.2.1, a3⟩
/-- an error, for a call that would act -/
theorem zDo.err {l : List Nat} {S : zS} {f : zM → Option (Except Nat Int32 × zM)} {fm : zM → Option (Int32 × zM)} (hS : zSW S) {c : Nat} {t b : Int32} (hc : c ∈ l ∧ t = nI (l.idxOf c + 1)) (h1 : ∀ g, zCI S g → f g = some (.error c, g)) (h2 : ∀ g, zRI S g → fm g = some (b, zset (zset g 493 0 0) 493 0 t)) : zDo l S f fm := by
  refine zAsk.do hS ⟨.error c, fun g e => ⟨g, h1 g e, .refl⟩, fun g e => zRa_err2 (h2 g e) hc⟩
/-- an answer without a throw -/
def zDoN (S : zS) (f : zM → Option (Int32 × zM)) (fm : zM → Option (Int32 × zM)) : Prop := ∃ (r : Int32) (S' : zS), zSW S' ∧ (∀ g, zCI S g → ∃ g1, f g = some (r, g1) ∧ zCI S' g1 ∧ ∀ c, 493 ≤ c → g1 c = g c) ∧ ∀ g, zRI S g → ∃ g1, fm g = some (r, g1) ∧ zRI S' g1 ∧ (∀ c, c < 493 → g1 c = g c) ∧ g1 508 = g 508
theorem m_end {S : zS} (hS : zSW S) (v : Int32) : zDoN S (fX11_end v) (fX12_end v) := by
  have h400 := hS.1
  have no : (v < 0 ∨ (¬ v < 0 ∧ ¬ v ≤ nI S.1)) → zDoN S (fX11_end v) (fX12_end v) := by
    intro h
    refine ⟨0, S, hS, fun g e => ⟨g, ?_, e, fun _ _ => rfl⟩, fun g e => ⟨zset g 493 0 0, ?_, e.thr hS 0, fun c h => zs_cell (by omega), zs_cell (by omega)⟩⟩
    · unfold fX11_end
      rw [e.1]
      rcases h with h | ⟨h1, h2⟩
      · rw [if_pos h]
      · rw [if_neg h1, if_neg h2]
    · unfold fX12_end
      rw [zput_e, zs_miss (by omega), e.1]
      rcases h with h | ⟨h1, h2⟩
      · rw [if_pos h]
      · rw [if_neg h1, if_neg h2]
  rcases zix v (n := S.1 + 1) (by omega) with h | ⟨k, hk, rfl⟩
  · rcases h with h | h
    · exact no (Or.inl h)
    · by_cases h0 : v < 0
      · exact no (Or.inl h0)
      · refine no (Or.inr ⟨h0, fun q => ?_⟩)
        rw [Int32.le_iff_toInt_le, nI_toInt (by omega)] at h q
        omega
  · refine ⟨1, (k, S.2), ⟨by show k ≤ 400; omega, fun i hi => hS.2.1 i (by have hi : i < k := hi; omega), hS.2.2⟩, fun g e => ⟨zset g 0 1 (nI k), ?_, ?_, fun c h => zs_cell (by omega)⟩, fun g e => ⟨zset (zset g 493 0 0) 493 9 (nI k), ?_, ?_, fun c h => by rw [zs_cell (by omega), zs_cell (by omega)], by rw [zs_cell (by omega), zs_cell (by omega)]⟩⟩
    · unfold fX11_end
      rw [e.1]
      simp (disch := omega) only [nL_lt, nL_gt, nL_le, nL_ge, nL_eq, nL_qe, nI_ltI, nI_leI, nI_eq, nL_add, nL_dda, nI_add, nL_sub, pk_sub, nL_mul, nL_clamp, nI_cl, zchk_n, zchk_l, zb_s, zb2_s, zb3_s, zb3_e, zput_e, zjoin_e, zs_hit, zs_miss, nle_t, nle_f, nlt_t, nlt_f, neq_t, neq_f, ↓reduceIte, and_self, and_true, true_and, and_false, false_and, not_true_eq_false, not_false_eq_true, Nat.add_zero]
    · obtain ⟨e1, e2, e3, e4, e5, e6, ⟨p, hp, e7, e8⟩, e9, e10, e11⟩ := e
      exact ⟨zs_hit ⟨rfl, rfl⟩, fun i hi => by rw [zs_cell (by omega)]; exact e2 i (by have hi : i < k := hi; omega), by rw [zs_miss (by omega)]; exact e3, e4.fr hS.2.2.1 (fun c _ _ _ _ => zs_cell (by omega)), by rw [zs_miss (by omega)]; exact e5, fun q => (e6 q).fr (hS.2.2.2.1 q) (fun c _ _ _ _ => zs_cell (by omega)), ⟨p, hp, by rw [zs_cell (by omega)]; exact e7, fun j hj => (e8 j hj).fr (hS.2.2.2.2.2 j hj).1 (fun c h1 h2 => zs_cell (by omega))⟩, by rw [zs_cell (by omega)]; exact e9, by rw [zs_cell (by omega)]; exact e10, by rw [zs_cell (by omega)]; exact e11⟩
    · unfold fX12_end
      rw [zput_e, zs_miss (by omega), e.1]
      simp (disch := omega) only [nL_lt, nL_gt, nL_le, nL_ge, nL_eq, nL_qe, nI_ltI, nI_leI, nI_eq, nL_add, nL_dda, nI_add, nL_sub, pk_sub, nL_mul, nL_clamp, nI_cl, zchk_n, zchk_l, zb_s, zb2_s, zb3_s, zb3_e, zput_e, zjoin_e, zs_hit, zs_miss, nle_t, nle_f, nlt_t, nlt_f, neq_t, neq_f, ↓reduceIte, and_self, and_true, true_and, and_false, false_and, not_true_eq_false, not_false_eq_true, Nat.add_zero]
    · obtain ⟨e1, e2, e3, e4, e5, e6, e7, e8⟩ := e
      have fc : ∀ c, c ≠ 493 → (zset (zset g 493 0 0) 493 9 (nI k)) c = g c := fun c h => by rw [zs_cell h, zs_cell h]
      have fk : ∀ x, x ≠ 0 → x ≠ 9 → (zset (zset g 493 0 0) 493 9 (nI k)) 493 x = g 493 x := fun x h1 h2 => by rw [zs_miss (by omega), zs_miss (by omega)]
      exact ⟨zs_hit ⟨rfl, rfl⟩, fun i hi => by rw [fc 499 (by omega)]; exact e2 i (by have hi : i < k := hi; omega), by rw [fk 14 (by omega) (by omega)]; exact e3, e4.fr hS.2.2.1 (fun k _ => by rw [fc 494 (by omega)]), by rw [fk 6 (by omega) (by omega)]; exact e5, fun q => (e6 q).fr (hS.2.2.2.1 q) (fun k _ => by rw [fc 495 (by omega)]), by rw [fk 7 (by omega) (by omega)]; exact e7, fun j hj => ⟨(e8 j hj).1.fr (hS.2.2.2.2.2 j hj) (fun k _ _ => by rw [fc 498 (by omega)]), fun c h1 h2 h3 h4 h5 => by rw [fc 498 (by omega), fc 494 (by omega)]; exact (e8 j hj).2 c h1 h2 h3 h4 h5⟩⟩
/-- another bag -/
theorem zCI.bag {S : zS} {g g1 : zM} (e : zCI S g) (hS : zSW S) {B : zB'} (hB : zCB g1 3 B) (f : ∀ c, (c < 3 ∨ 29 ≤ c) → c ≠ 34 → c ≠ 35 → (c < 390 ∨ c = 481 ∨ c = 482) → g1 c = g c) : zCI (zSset S B) g1 := by
  obtain ⟨e1, e2, e3, ⟨w1, w2, w3, w4, w5, w6, w7⟩, e5, e6, ⟨p, hp, e7, e8⟩, e9, e10, e11⟩ := e
  have f0 := f 0 (by omega) (by omega) (by omega) (by omega)
  have f2 := f 2 (by omega) (by omega) (by omega) (by omega)
  refine ⟨by rw [f0]; exact e1, fun i hi => by rw [f 1 (by omega) (by omega) (by omega) (by omega)]; exact e2 i hi, by rw [f0]; exact e3, ⟨hB, w2.fr (fun c h1 h2 => f c (by omega) (by omega) (by omega) (by omega)), fun k hk => ?_, by rw [f2]; exact w4, fun p hp => ?_, by rw [f2]; exact w6, by rw [f2]; exact w7⟩, by rw [f0]; exact e5, fun q => (e6 q).fr (hS.2.2.2.1 q) (fun c h1 h2 _ _ => f c (by omega) (by omega) (by omega) (by omega)), ⟨p, hp, by rw [f 76 (by omega) (by omega) (by omega) (by omega)]; exact e7, fun j hj => (e8 j hj).fr (hS.2.2.2.2.2 j hj).1 (fun c h1 h2 => f c (by omega) (by omega) (by omega) (by omega))⟩, by rw [f 76 (by omega) (by omega) (by omega) (by omega)]; exact e9, by rw [f 481 (by omega) (by omega) (by omega) (by omega)]; exact e10, by rw [f 482 (by omega) (by omega) (by omega) (by omega)]; exact e11⟩
  · rw [f (2 + 34) (by omega) (by omega) (by omega) (by omega)]; exact w3 k hk
  · rw [f (2 + 35) (by omega) (by omega) (by omega) (by omega), f (2 + 36) (by omega) (by omega) (by omega) (by omega)]; exact w5 p hp
theorem zSrem_B (S : zS) : zSB (zSrem S) = zSB S := rfl
theorem m_seed {S : zS} (hS : zSW S) (v : Int32) : zDoN S (fX11_seed v) (fX12_seed v) := by
  have hB := hS.2.2.1.1
  refine ⟨(zSB S).2.2.2.1, zSset S (zBseed (zSB S) v), zSset_W hS hB, fun g e => ⟨zset g 3 3 v, ?_, e.bag hS ?_ (fun c h1 h2 h3 h4 => zs_cell (by omega)), fun c h => zs_cell (by omega)⟩, fun g e => ⟨zset (zset g 493 0 0) 494 7 v, ?_, ?_, fun c h => by rw [zs_cell (by omega), zs_cell (by omega)], by rw [zs_cell (by omega), zs_cell (by omega)]⟩⟩
  · unfold fX11_seed
    rw [zput_e, e.2.2.2.1.1.2.2.2.1]
  · obtain ⟨e1, e2, e3, e4, e5⟩ := e.2.2.2.1.1
    refine ⟨?_, fun l hl => (e2 l hl).fr (zs_cell (by omega)) (zs_cell (by omega)) (zs_cell (by omega)), ?_, ?_, ?_⟩
    · simp (disch := omega) only [nL_lt, nL_gt, nL_le, nL_ge, nL_eq, nL_qe, nI_ltI, nI_leI, nI_eq, nL_add, nL_dda, nI_add, nL_sub, pk_sub, nL_mul, nL_clamp, nI_cl, zchk_n, zchk_l, zb_s, zb2_s, zb3_s, zb3_e, zput_e, zjoin_e, zs_hit, zs_miss, nle_t, nle_f, nlt_t, nlt_f, neq_t, neq_f, ↓reduceIte, and_self, and_true, true_and, and_false, false_and, not_true_eq_false, not_false_eq_true, Nat.add_zero]; exact e1
    · simp (disch := omega) only [nL_lt, nL_gt, nL_le, nL_ge, nL_eq, nL_qe, nI_ltI, nI_leI, nI_eq, nL_add, nL_dda, nI_add, nL_sub, pk_sub, nL_mul, nL_clamp, nI_cl, zchk_n, zchk_l, zb_s, zb2_s, zb3_s, zb3_e, zput_e, zjoin_e, zs_hit, zs_miss, nle_t, nle_f, nlt_t, nlt_f, neq_t, neq_f, ↓reduceIte, and_self, and_true, true_and, and_false, false_and, not_true_eq_false, not_false_eq_true, Nat.add_zero]; exact e3
    · simp (disch := omega) only [nL_lt, nL_gt, nL_le, nL_ge, nL_eq, nL_qe, nI_ltI, nI_leI, nI_eq, nL_add, nL_dda, nI_add, nL_sub, pk_sub, nL_mul, nL_clamp, nI_cl, zchk_n, zchk_l, zb_s, zb2_s, zb3_s, zb3_e, zput_e, zjoin_e, zs_hit, zs_miss, nle_t, nle_f, nlt_t, nlt_f, neq_t, neq_f, ↓reduceIte, and_self, and_true, true_and, and_false, false_and, not_true_eq_false, not_false_eq_true, Nat.add_zero]; rfl
    · simp (disch := omega) only [nL_lt, nL_gt, nL_le, nL_ge, nL_eq, nL_qe, nI_ltI, nI_leI, nI_eq, nL_add, nL_dda, nI_add, nL_sub, pk_sub, nL_mul, nL_clamp, nI_cl, zchk_n, zchk_l, zb_s, zb2_s, zb3_s, zb3_e, zput_e, zjoin_e, zs_hit, zs_miss, nle_t, nle_f, nlt_t, nlt_f, neq_t, neq_f, ↓reduceIte, and_self, and_true, true_and, and_false, false_and, not_true_eq_false, not_false_eq_true, Nat.add_zero]; exact e5
  · have e7 : g 494 7 = (zSB S).2.2.2.1 := by have := e.2.2.2.1.1.2.2.2.1; simpa using this
    unfold fX12_seed
    simp (disch := omega) only [nL_lt, nL_gt, nL_le, nL_ge, nL_eq, nL_qe, nI_ltI, nI_leI, nI_eq, nL_add, nL_dda, nI_add, nL_sub, pk_sub, nL_mul, nL_clamp, nI_cl, zchk_n, zchk_l, zb_s, zb2_s, zb3_s, zb3_e, zput_e, zjoin_e, zs_hit, zs_miss, nle_t, nle_f, nlt_t, nlt_f, neq_t, neq_f, ↓reduceIte, and_self, and_true, true_and, and_false, false_and, not_true_eq_false, not_false_eq_true, Nat.add_zero, e7]
  · have e0 := e.thr hS 0
    refine e0.bag hS ⟨fun c _ h _ _ => zs_cell h, fun k _ => by rw [zs_cell (by omega)], fun k hk => zs_miss (by omega), fun k _ _ _ _ h => zs_miss (by omega)⟩ (e0.2.2.2.1.1.seed v)
/-- letter l changed, in class and reference -/
theorem zCB.set {g g1 : zM} {B : zB'} (e : zCB g 3 B) {l : Nat} {L : zL} (h8 : B.1 ≤ 8) (hl : l < B.1) (hL : zCM g1 (4 + 1 + 3 * l) L) (f : ∀ c, 3 ≤ c → c < 29 → (c < 4 + 1 + 3 * l ∨ 4 + 1 + 3 * l + 3 ≤ c) → g1 c = g c) : zCB g1 3 (zBset B l L) := by
  obtain ⟨e1, e2, e3, e4, e5⟩ := e
  have f3 := f 3 (by omega) (by omega) (by omega)
  refine ⟨by rw [f3]; exact e1, fun m hm => ?_, by rw [f3]; exact e3, by rw [f3]; exact e4, by rw [f3]; exact e5⟩
  have hm' : m < B.1 := hm
  show zCM g1 (3 + 1 + 1 + 3 * m) (zup B.2.1 l L m)
  by_cases q : m = l
  · rw [zup_hit q, q]; exact hL
  · rw [zup_miss q]
    exact (e2 m hm').fr (f _ (by omega) (by omega) (by omega)) (f _ (by omega) (by omega) (by omega)) (f _ (by omega) (by omega) (by omega))
theorem zRB.set {g g1 : zM} {B : zB'} (e : zRB g 494 0 B) {l : Nat} {L : zL} (hB : zBW B) (hl : l < B.1) (hL : zRM g1 494 (36 + 53 * l) L) (f : ∀ k, k < 460 → (k < 36 + 53 * l ∨ 36 + 53 * l + 53 ≤ k) → g1 494 k = g 494 k) : zRB g1 494 0 (zBset B l L) := by
  have h8 := hB.1
  obtain ⟨e1, e2, e3, e4, e5⟩ := e
  simp only [Nat.zero_add] at e1 e2 e3 e4 e5
  refine ⟨by rw [f 0 (by omega) (by omega)]; exact e1, fun m hm => ?_, by rw [f (0 + 4) (by omega) (by omega)]; exact e3, by rw [f (0 + 7) (by omega) (by omega)]; exact e4, by rw [f (0 + 6) (by omega) (by omega)]; exact e5⟩
  have hm' : m < B.1 := hm
  show zRM g1 494 (0 + 36 + 53 * m) (zup B.2.1 l L m)
  rw [Nat.zero_add]
  by_cases q : m = l
  · rw [zup_hit q, q]; exact hL
  · rw [zup_miss q]
    refine (e2 m hm').fr (fun k h1 h2 => f k (by omega) ?_) (hB.2 m hm').2.1
    rcases Nat.lt_or_ge m l with q2 | q2 <;> omega
def zLo (L : zL) (b : Bool) : zL := (L.1, L.2.1, L.2.2.1, L.2.2.2.1, L.2.2.2.2.1, b, L.2.2.2.2.2.2)
def zLh (L : zL) (b : Bool) : zL := (L.1, L.2.1, L.2.2.1, L.2.2.2.1, L.2.2.2.2.1, L.2.2.2.2.2.1, b)
theorem zbi_eq {a b : Bool} : zbi a = zbi b ↔ a = b := by cases a <;> cases b <;> decide
theorem m_open {S : zS} (hS : zSW S) (v : Int32) (b : Bool) : zDo [1] S (fX11_open v (zbi b)) (fX12_open v (zbi b)) := by
  have h8 := hS.eight
  rcases zix v (zsz hS) with h | ⟨l, hl, rfl⟩
  · refine zDo.err hS (c := 1) (t := 1) (b := 0) (by decide) (fun g e => ?_) (fun g e => ?_)
    · unfold fX11_open; rw [c_mailOf_no e h, zb3_e]
    · unfold fX12_open; simp only [zb_s, zb2_s, zb3_s, zb3_e, zjoin_e, zput_e, r_thr0, r_thr1, zi10, zi01, if_true, if_false, r_noLetter_no hS (e.thr hS 0) h]
  have hL := hS.letter hl
  have hSr := zSrem_W hS
  refine ⟨.ok (zbi (((zSB S).2.1 l).2.2.2.2.2.1 != b)), zSset (zSrem S) (zBset (zSB S) l (zLo ((zSB S).2.1 l) b)), zSset_W hSr (zBset_W hSr.2.2.1.1 hL), fun g e => ?_, fun g e => ?_⟩
  · obtain ⟨g1, a1, a2, a3, a4⟩ := c_remember hS e
    have em := a2.mail (l := l) hl
    obtain ⟨m1, m2, m3, m4, m5, m6, m7⟩ := em
    have m6 : g1 (4 + 1 + 3 * l) 5 = zbi ((zSB S).2.1 l).2.2.2.2.2.1 := m6
    have res : fX11_open (nI l) (zbi b) g = some (.ok (zbi (((zSB S).2.1 l).2.2.2.2.2.1 != b)), zset g1 (4 + 1 + 3 * l) 5 (zbi b)) := by
      unfold fX11_open
      rw [c_mailOf hS e hl, zb3_s, a1, zb_s, m6]
      by_cases q : ((zSB S).2.1 l).2.2.2.2.2.1 = b
      · rw [if_pos (zbi_eq.mpr q), zbo_b, zput_e, q]; simp [zbi]
      · rw [if_neg (fun h => q (zbi_eq.mp h)), zbo_b, zput_e]
        have hq : (((zSB S).2.1 l).2.2.2.2.2.1 != b) = true := by rw [bne_iff_ne]; exact q
        rw [hq]
        rfl
    refine ⟨_, res, a2.bag hSr (zCB.set a2.2.2.2.1.1 h8 hl ⟨?_, fun i hi => ?_, fun i hi => ?_, ?_, ?_, ?_, ?_⟩ (fun c h1 h2 h3 => zs_cell (by omega))) (fun c h1 h2 h3 h4 => zs_cell (by omega)), fun c h => by rw [zs_cell (by omega)]; exact a4 c (by omega)⟩
    · simp (disch := omega) only [nL_lt, nL_gt, nL_le, nL_ge, nL_eq, nL_qe, nI_ltI, nI_leI, nI_eq, nL_add, nL_dda, nI_add, nL_sub, pk_sub, nL_mul, nL_clamp, nI_cl, zchk_n, zchk_l, zb_s, zb2_s, zb3_s, zb3_e, zput_e, zjoin_e, zs_hit, zs_miss, nle_t, nle_f, nlt_t, nlt_f, neq_t, neq_f, ↓reduceIte, and_self, and_true, true_and, and_false, false_and, not_true_eq_false, not_false_eq_true, Nat.add_zero]; exact m1
    · simp (disch := omega) only [nL_lt, nL_gt, nL_le, nL_ge, nL_eq, nL_qe, nI_ltI, nI_leI, nI_eq, nL_add, nL_dda, nI_add, nL_sub, pk_sub, nL_mul, nL_clamp, nI_cl, zchk_n, zchk_l, zb_s, zb2_s, zb3_s, zb3_e, zput_e, zjoin_e, zs_hit, zs_miss, nle_t, nle_f, nlt_t, nlt_f, neq_t, neq_f, ↓reduceIte, and_self, and_true, true_and, and_false, false_and, not_true_eq_false, not_false_eq_true, Nat.add_zero]; exact m2 i hi
    · simp (disch := omega) only [nL_lt, nL_gt, nL_le, nL_ge, nL_eq, nL_qe, nI_ltI, nI_leI, nI_eq, nL_add, nL_dda, nI_add, nL_sub, pk_sub, nL_mul, nL_clamp, nI_cl, zchk_n, zchk_l, zb_s, zb2_s, zb3_s, zb3_e, zput_e, zjoin_e, zs_hit, zs_miss, nle_t, nle_f, nlt_t, nlt_f, neq_t, neq_f, ↓reduceIte, and_self, and_true, true_and, and_false, false_and, not_true_eq_false, not_false_eq_true, Nat.add_zero]; exact m3 i hi
    · simp (disch := omega) only [nL_lt, nL_gt, nL_le, nL_ge, nL_eq, nL_qe, nI_ltI, nI_leI, nI_eq, nL_add, nL_dda, nI_add, nL_sub, pk_sub, nL_mul, nL_clamp, nI_cl, zchk_n, zchk_l, zb_s, zb2_s, zb3_s, zb3_e, zput_e, zjoin_e, zs_hit, zs_miss, nle_t, nle_f, nlt_t, nlt_f, neq_t, neq_f, ↓reduceIte, and_self, and_true, true_and, and_false, false_and, not_true_eq_false, not_false_eq_true, Nat.add_zero]; exact m4
    · simp (disch := omega) only [nL_lt, nL_gt, nL_le, nL_ge, nL_eq, nL_qe, nI_ltI, nI_leI, nI_eq, nL_add, nL_dda, nI_add, nL_sub, pk_sub, nL_mul, nL_clamp, nI_cl, zchk_n, zchk_l, zb_s, zb2_s, zb3_s, zb3_e, zput_e, zjoin_e, zs_hit, zs_miss, nle_t, nle_f, nlt_t, nlt_f, neq_t, neq_f, ↓reduceIte, and_self, and_true, true_and, and_false, false_and, not_true_eq_false, not_false_eq_true, Nat.add_zero]; exact m5
    · simp (disch := omega) only [nL_lt, nL_gt, nL_le, nL_ge, nL_eq, nL_qe, nI_ltI, nI_leI, nI_eq, nL_add, nL_dda, nI_add, nL_sub, pk_sub, nL_mul, nL_clamp, nI_cl, zchk_n, zchk_l, zb_s, zb2_s, zb3_s, zb3_e, zput_e, zjoin_e, zs_hit, zs_miss, nle_t, nle_f, nlt_t, nlt_f, neq_t, neq_f, ↓reduceIte, and_self, and_true, true_and, and_false, false_and, not_true_eq_false, not_false_eq_true, Nat.add_zero]; rfl
    · simp (disch := omega) only [nL_lt, nL_gt, nL_le, nL_ge, nL_eq, nL_qe, nI_ltI, nI_leI, nI_eq, nL_add, nL_dda, nI_add, nL_sub, pk_sub, nL_mul, nL_clamp, nI_cl, zchk_n, zchk_l, zb_s, zb2_s, zb3_s, zb3_e, zput_e, zjoin_e, zs_hit, zs_miss, nle_t, nle_f, nlt_t, nlt_f, neq_t, neq_f, ↓reduceIte, and_self, and_true, true_and, and_false, false_and, not_true_eq_false, not_false_eq_true, Nat.add_zero]; exact m7
  · have e0 := e.thr hS 0
    obtain ⟨g1, a1, a2, a3, a4⟩ := r_remembers hS e0
    have em := a2.letter (l := l) hl
    obtain ⟨m1, m2, m3, m4, m5, m6, m7⟩ := em
    have of3 : fX12_of (nI l) 3 g1 = some (zbi ((zSB S).2.1 l).2.2.2.2.2.1) := by
      rw [show fX12_of (nI l) 3 g1 = _ from r_of hSr a2 hl (c := 3) (by omega)]
      exact congrArg some m6
    have at3 : fX12_at (nI l) 3 g1 = some (nI (36 + 53 * l + 3)) := by unfold fX12_at; simp (disch := omega) only [nL_lt, nL_gt, nL_le, nL_ge, nL_eq, nL_qe, nI_ltI, nI_leI, nI_eq, nL_add, nL_dda, nI_add, nL_sub, pk_sub, nL_mul, nL_clamp, nI_cl, zchk_n, zchk_l, zb_s, zb2_s, zb3_s, zb3_e, zput_e, zjoin_e, zs_hit, zs_miss, nle_t, nle_f, nlt_t, nlt_f, neq_t, neq_f, ↓reduceIte, and_self, and_true, true_and, and_false, false_and, not_true_eq_false, not_false_eq_true, Nat.add_zero]
    have res : fX12_open (nI l) (zbi b) g = some (zbi (((zSB S).2.1 l).2.2.2.2.2.1 != b), zset g1 494 (36 + 53 * l + 3) (zbi b)) := by
      unfold fX12_open fX12_turns
      simp only [zb_s, zb2_s, zb3_s, zb3_e, zjoin_e, zput_e, r_thr0, r_thr1, zi10, zi01, if_true, if_false, r_noLetter hS e0 hl, a1, of3, at3]
      cases q : ((zSB S).2.1 l).2.2.2.2.2.1 <;> cases b <;> simp only [zbi_f, zbi_t, zi01, zi10, if_true, if_false] <;> simp (disch := omega) only [nL_lt, nL_gt, nL_le, nL_ge, nL_eq, nL_qe, nI_ltI, nI_leI, nI_eq, nL_add, nL_dda, nI_add, nL_sub, pk_sub, nL_mul, nL_clamp, nI_cl, zchk_n, zchk_l, zb_s, zb2_s, zb3_s, zb3_e, zput_e, zjoin_e, zs_hit, zs_miss, nle_t, nle_f, nlt_t, nlt_f, neq_t, neq_f, ↓reduceIte, and_self, and_true, true_and, and_false, false_and, not_true_eq_false, not_false_eq_true, Nat.add_zero] <;> rfl
    have f1 : zFO g1 (zset g1 494 (36 + 53 * l + 3) (zbi b)) := ⟨fun c _ h _ _ => zs_cell h, fun k _ => by rw [zs_cell (by omega)], fun k hk => zs_miss (by omega), fun k h1 _ _ _ _ => zs_miss (by omega)⟩
    refine ⟨_, _, res, a2.bag hSr f1 (zRB.set a2.2.2.2.1.1 hSr.2.2.1.1 hl ⟨?_, fun i hi => ?_, fun i hi => ?_, ?_, ?_, ?_, ?_⟩ (fun k h1 h2 => zs_miss (by omega))), fun c h => by rw [zs_cell (by omega), a3 c (by omega) (by omega), zs_cell (by omega)], by rw [zs_cell (by omega), a3 508 (by omega) (by omega), zs_cell (by omega)], by rw [zs_cell (by omega), a4 0 (by omega)]; simp (disch := omega) only [nL_lt, nL_gt, nL_le, nL_ge, nL_eq, nL_qe, nI_ltI, nI_leI, nI_eq, nL_add, nL_dda, nI_add, nL_sub, pk_sub, nL_mul, nL_clamp, nI_cl, zchk_n, zchk_l, zb_s, zb2_s, zb3_s, zb3_e, zput_e, zjoin_e, zs_hit, zs_miss, nle_t, nle_f, nlt_t, nlt_f, neq_t, neq_f, ↓reduceIte, and_self, and_true, true_and, and_false, false_and, not_true_eq_false, not_false_eq_true, Nat.add_zero], rfl⟩
    · rw [zs_miss (by omega)]; exact m1
    · rw [zs_miss (by omega)]; exact m2 i hi
    · rw [zs_miss (by omega)]; exact m3 i hi
    · rw [zs_miss (by omega)]; exact m4
    · rw [zs_miss (by omega)]; exact m5
    · rw [zs_hit ⟨rfl, rfl⟩]; rfl
    · rw [zs_miss (by omega)]; exact m7
theorem m_heat {S : zS} (hS : zSW S) (v : Int32) (b : Bool) : zDo [1] S (fX11_heat v (zbi b)) (fX12_heat v (zbi b)) := by
  have h8 := hS.eight
  rcases zix v (zsz hS) with h | ⟨l, hl, rfl⟩
  · refine zDo.err hS (c := 1) (t := 1) (b := 0) (by decide) (fun g e => ?_) (fun g e => ?_)
    · unfold fX11_heat; rw [c_mailOf_no e h, zb3_e]
    · unfold fX12_heat; simp only [zb_s, zb2_s, zb3_s, zb3_e, zjoin_e, zput_e, r_thr0, r_thr1, zi10, zi01, if_true, if_false, r_noLetter_no hS (e.thr hS 0) h]
  have hL := hS.letter hl
  have hSr := zSrem_W hS
  refine ⟨.ok (zbi (((zSB S).2.1 l).2.2.2.2.2.2 != b)), zSset (zSrem S) (zBset (zSB S) l (zLh ((zSB S).2.1 l) b)), zSset_W hSr (zBset_W hSr.2.2.1.1 hL), fun g e => ?_, fun g e => ?_⟩
  · obtain ⟨g1, a1, a2, a3, a4⟩ := c_remember hS e
    have em := a2.mail (l := l) hl
    obtain ⟨m1, m2, m3, m4, m5, m6, m7⟩ := em
    have m7 : g1 (4 + 1 + 3 * l) 6 = zbi ((zSB S).2.1 l).2.2.2.2.2.2 := m7
    have res : fX11_heat (nI l) (zbi b) g = some (.ok (zbi (((zSB S).2.1 l).2.2.2.2.2.2 != b)), zset g1 (4 + 1 + 3 * l) 6 (zbi b)) := by
      unfold fX11_heat
      rw [c_mailOf hS e hl, zb3_s, a1, zb_s, m7]
      by_cases q : ((zSB S).2.1 l).2.2.2.2.2.2 = b
      · rw [if_pos (zbi_eq.mpr q), zbo_b, zput_e, q]; simp [zbi]
      · rw [if_neg (fun h => q (zbi_eq.mp h)), zbo_b, zput_e]
        have hq : (((zSB S).2.1 l).2.2.2.2.2.2 != b) = true := by rw [bne_iff_ne]; exact q
        rw [hq]
        rfl
    refine ⟨_, res, a2.bag hSr (zCB.set a2.2.2.2.1.1 h8 hl ⟨?_, fun i hi => ?_, fun i hi => ?_, ?_, ?_, ?_, ?_⟩ (fun c h1 h2 h3 => zs_cell (by omega))) (fun c h1 h2 h3 h4 => zs_cell (by omega)), fun c h => by rw [zs_cell (by omega)]; exact a4 c (by omega)⟩
    · simp (disch := omega) only [nL_lt, nL_gt, nL_le, nL_ge, nL_eq, nL_qe, nI_ltI, nI_leI, nI_eq, nL_add, nL_dda, nI_add, nL_sub, pk_sub, nL_mul, nL_clamp, nI_cl, zchk_n, zchk_l, zb_s, zb2_s, zb3_s, zb3_e, zput_e, zjoin_e, zs_hit, zs_miss, nle_t, nle_f, nlt_t, nlt_f, neq_t, neq_f, ↓reduceIte, and_self, and_true, true_and, and_false, false_and, not_true_eq_false, not_false_eq_true, Nat.add_zero]; exact m1
    · simp (disch := omega) only [nL_lt, nL_gt, nL_le, nL_ge, nL_eq, nL_qe, nI_ltI, nI_leI, nI_eq, nL_add, nL_dda, nI_add, nL_sub, pk_sub, nL_mul, nL_clamp, nI_cl, zchk_n, zchk_l, zb_s, zb2_s, zb3_s, zb3_e, zput_e, zjoin_e, zs_hit, zs_miss, nle_t, nle_f, nlt_t, nlt_f, neq_t, neq_f, ↓reduceIte, and_self, and_true, true_and, and_false, false_and, not_true_eq_false, not_false_eq_true, Nat.add_zero]; exact m2 i hi
    · simp (disch := omega) only [nL_lt, nL_gt, nL_le, nL_ge, nL_eq, nL_qe, nI_ltI, nI_leI, nI_eq, nL_add, nL_dda, nI_add, nL_sub, pk_sub, nL_mul, nL_clamp, nI_cl, zchk_n, zchk_l, zb_s, zb2_s, zb3_s, zb3_e, zput_e, zjoin_e, zs_hit, zs_miss, nle_t, nle_f, nlt_t, nlt_f, neq_t, neq_f, ↓reduceIte, and_self, and_true, true_and, and_false, false_and, not_true_eq_false, not_false_eq_true, Nat.add_zero]; exact m3 i hi
    · simp (disch := omega) only [nL_lt, nL_gt, nL_le, nL_ge, nL_eq, nL_qe, nI_ltI, nI_leI, nI_eq, nL_add, nL_dda, nI_add, nL_sub, pk_sub, nL_mul, nL_clamp, nI_cl, zchk_n, zchk_l, zb_s, zb2_s, zb3_s, zb3_e, zput_e, zjoin_e, zs_hit, zs_miss, nle_t, nle_f, nlt_t, nlt_f, neq_t, neq_f, ↓reduceIte, and_self, and_true, true_and, and_false, false_and, not_true_eq_false, not_false_eq_true, Nat.add_zero]; exact m4
    · simp (disch := omega) only [nL_lt, nL_gt, nL_le, nL_ge, nL_eq, nL_qe, nI_ltI, nI_leI, nI_eq, nL_add, nL_dda, nI_add, nL_sub, pk_sub, nL_mul, nL_clamp, nI_cl, zchk_n, zchk_l, zb_s, zb2_s, zb3_s, zb3_e, zput_e, zjoin_e, zs_hit, zs_miss, nle_t, nle_f, nlt_t, nlt_f, neq_t, neq_f, ↓reduceIte, and_self, and_true, true_and, and_false, false_and, not_true_eq_false, not_false_eq_true, Nat.add_zero]; exact m5
    · simp (disch := omega) only [nL_lt, nL_gt, nL_le, nL_ge, nL_eq, nL_qe, nI_ltI, nI_leI, nI_eq, nL_add, nL_dda, nI_add, nL_sub, pk_sub, nL_mul, nL_clamp, nI_cl, zchk_n, zchk_l, zb_s, zb2_s, zb3_s, zb3_e, zput_e, zjoin_e, zs_hit, zs_miss, nle_t, nle_f, nlt_t, nlt_f, neq_t, neq_f, ↓reduceIte, and_self, and_true, true_and, and_false, false_and, not_true_eq_false, not_false_eq_true, Nat.add_zero]; exact m6
    · simp (disch := omega) only [nL_lt, nL_gt, nL_le, nL_ge, nL_eq, nL_qe, nI_ltI, nI_leI, nI_eq, nL_add, nL_dda, nI_add, nL_sub, pk_sub, nL_mul, nL_clamp, nI_cl, zchk_n, zchk_l, zb_s, zb2_s, zb3_s, zb3_e, zput_e, zjoin_e, zs_hit, zs_miss, nle_t, nle_f, nlt_t, nlt_f, neq_t, neq_f, ↓reduceIte, and_self, and_true, true_and, and_false, false_and, not_true_eq_false, not_false_eq_true, Nat.add_zero]; rfl
  · have e0 := e.thr hS 0
    obtain ⟨g1, a1, a2, a3, a4⟩ := r_remembers hS e0
    have em := a2.letter (l := l) hl
    obtain ⟨m1, m2, m3, m4, m5, m6, m7⟩ := em
    have of4 : fX12_of (nI l) 4 g1 = some (zbi ((zSB S).2.1 l).2.2.2.2.2.2) := by
      rw [show fX12_of (nI l) 4 g1 = _ from r_of hSr a2 hl (c := 4) (by omega)]
      exact congrArg some m7
    have at4 : fX12_at (nI l) 4 g1 = some (nI (36 + 53 * l + 4)) := by unfold fX12_at; simp (disch := omega) only [nL_lt, nL_gt, nL_le, nL_ge, nL_eq, nL_qe, nI_ltI, nI_leI, nI_eq, nL_add, nL_dda, nI_add, nL_sub, pk_sub, nL_mul, nL_clamp, nI_cl, zchk_n, zchk_l, zb_s, zb2_s, zb3_s, zb3_e, zput_e, zjoin_e, zs_hit, zs_miss, nle_t, nle_f, nlt_t, nlt_f, neq_t, neq_f, ↓reduceIte, and_self, and_true, true_and, and_false, false_and, not_true_eq_false, not_false_eq_true, Nat.add_zero]
    have res : fX12_heat (nI l) (zbi b) g = some (zbi (((zSB S).2.1 l).2.2.2.2.2.2 != b), zset g1 494 (36 + 53 * l + 4) (zbi b)) := by
      unfold fX12_heat fX12_turns
      simp only [zb_s, zb2_s, zb3_s, zb3_e, zjoin_e, zput_e, r_thr0, r_thr1, zi10, zi01, if_true, if_false, r_noLetter hS e0 hl, a1, of4, at4]
      cases q : ((zSB S).2.1 l).2.2.2.2.2.2 <;> cases b <;> simp only [zbi_f, zbi_t, zi01, zi10, if_true, if_false] <;> simp (disch := omega) only [nL_lt, nL_gt, nL_le, nL_ge, nL_eq, nL_qe, nI_ltI, nI_leI, nI_eq, nL_add, nL_dda, nI_add, nL_sub, pk_sub, nL_mul, nL_clamp, nI_cl, zchk_n, zchk_l, zb_s, zb2_s, zb3_s, zb3_e, zput_e, zjoin_e, zs_hit, zs_miss, nle_t, nle_f, nlt_t, nlt_f, neq_t, neq_f, ↓reduceIte, and_self, and_true, true_and, and_false, false_and, not_true_eq_false, not_false_eq_true, Nat.add_zero] <;> rfl
    have f1 : zFO g1 (zset g1 494 (36 + 53 * l + 4) (zbi b)) := ⟨fun c _ h _ _ => zs_cell h, fun k _ => by rw [zs_cell (by omega)], fun k hk => zs_miss (by omega), fun k h1 _ _ _ _ => zs_miss (by omega)⟩
    refine ⟨_, _, res, a2.bag hSr f1 (zRB.set a2.2.2.2.1.1 hSr.2.2.1.1 hl ⟨?_, fun i hi => ?_, fun i hi => ?_, ?_, ?_, ?_, ?_⟩ (fun k h1 h2 => zs_miss (by omega))), fun c h => by rw [zs_cell (by omega), a3 c (by omega) (by omega), zs_cell (by omega)], by rw [zs_cell (by omega), a3 508 (by omega) (by omega), zs_cell (by omega)], by rw [zs_cell (by omega), a4 0 (by omega)]; simp (disch := omega) only [nL_lt, nL_gt, nL_le, nL_ge, nL_eq, nL_qe, nI_ltI, nI_leI, nI_eq, nL_add, nL_dda, nI_add, nL_sub, pk_sub, nL_mul, nL_clamp, nI_cl, zchk_n, zchk_l, zb_s, zb2_s, zb3_s, zb3_e, zput_e, zjoin_e, zs_hit, zs_miss, nle_t, nle_f, nlt_t, nlt_f, neq_t, neq_f, ↓reduceIte, and_self, and_true, true_and, and_false, false_and, not_true_eq_false, not_false_eq_true, Nat.add_zero], rfl⟩
    · rw [zs_miss (by omega)]; exact m1
    · rw [zs_miss (by omega)]; exact m2 i hi
    · rw [zs_miss (by omega)]; exact m3 i hi
    · rw [zs_miss (by omega)]; exact m4
    · rw [zs_miss (by omega)]; exact m5
    · rw [zs_miss (by omega)]; exact m6
    · rw [zs_hit ⟨rfl, rfl⟩]; rfl
