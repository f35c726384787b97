/-! calls that ask over all LETTERS, and AHEAD -/
/-- class and reference, both answering a number without a throw -/
def zAskN (S : zS) (f : zM → Option Int32) (fm : zM → Option (Int32 × zM)) : Prop := ∃ r : Int32, (∀ g, zCI S g → f g = some r) ∧ ∀ g, zRI S g → ∃ g1, fm g = some (r, g1) ∧ zFR g g1
theorem m_spies {S : zS} (hS : zSW S) (v : Int32) : zAskN S (fX11_spies v) (fX12_spies v) := by
  have h8 := hS.eight
  refine ⟨zbs (fun l => decide (yws (zSV S).2.2.1 ((zSB S).2.1 l) = v)) (zSB S).1, fun g e => ?_, fun g e => ?_⟩
  · unfold fX11_spies
    refine zL_F0 (fun n i a => fX11_spies_L4 v g n a (nI i)) (fun i a => if decide (yws (zSV S).2.2.1 ((zSB S).2.1 i) = v) = true then a ||| ((1 : Int32) <<< (nI i &&& 31)) else a) (zSB S).1 some 0 (by omega) (fun n i a hi => ?_) (fun n a => ?_)
    · simp only [fX11_spies_L4, e.size]
      simp (disch := omega) only [nL_lt, nL_gt, nL_le, nL_ge, nL_eq, nL_qe, nI_ltI, nI_leI, nI_eq, nL_add, nL_dda, nI_add, nL_sub, pk_sub, nL_mul, nL_clamp, nI_cl, zchk_n, zchk_l, zb_s, zb2_s, zb3_s, zb3_e, zput_e, zjoin_e, zs_hit, zs_miss, nle_t, nle_f, nlt_t, nlt_f, neq_t, neq_f, ↓reduceIte, and_self, and_true, true_and, and_false, false_and, not_true_eq_false, not_false_eq_true, Nat.add_zero]
      rw [c_wordsIn (h := 2) e.2.2.2.1.2.2.1 (e.mail hi) (hS.letter hi), zb_s]
      by_cases q : yws (zSV S).2.2.1 ((zSB S).2.1 i) = v <;> simp [q]
    · simp only [fX11_spies_L4, e.size]
      simp (disch := omega) only [nL_lt, nL_gt, nL_le, nL_ge, nL_eq, nL_qe, nI_ltI, nI_leI, nI_eq, nL_add, nL_dda, nI_add, nL_sub, pk_sub, nL_mul, nL_clamp, nI_cl, zchk_n, zchk_l, zb_s, zb2_s, zb3_s, zb3_e, zput_e, zjoin_e, zs_hit, zs_miss, nle_t, nle_f, nlt_t, nlt_f, neq_t, neq_f, ↓reduceIte, and_self, and_true, true_and, and_false, false_and, not_true_eq_false, not_false_eq_true, Nat.add_zero]
  · have e0 := e.thr hS 0
    unfold fX12_spies
    rw [zput_e]
    refine zL_Q0 (fun n i (st : Int32 × zM) => fX12_spies_L9 v n st.1 (nI i) st.2) (fun i st => st.1 = zbs (fun l => decide (yws (zSV S).2.2.1 ((zSB S).2.1 l) = v)) i ∧ zFQ (zset g 493 0 0) st.2) (zSB S).1 (fun x => ∃ g1, x = some (_, g1) ∧ zFR g g1) (0, zset g 493 0 0) (by omega) ⟨rfl, .refl⟩ (fun n i st hi hh => ?_) (fun n st hh => ?_)
    · obtain ⟨a, s⟩ := st
      obtain ⟨rfl, b2⟩ := hh
      have es := e0.fq hS b2
      obtain ⟨g1, a1, a2, a3⟩ := r_looksAt hS es hi
      have e1 := es.fq hS a3
      right
      refine ⟨(zbs (fun l => decide (yws (zSV S).2.2.1 ((zSB S).2.1 l) = v)) (i + 1), g1), ⟨rfl, b2.trans a3⟩, ?_⟩
      simp only [fX12_spies_L9, r_letters es, zb_s, a1, r_wordsNow e1.2.2.2.1.2.2.1 a2 (hS.letter hi), zbs_s]
      simp (disch := omega) only [nL_lt, nL_gt, nL_le, nL_ge, nL_eq, nL_qe, nI_ltI, nI_leI, nI_eq, nL_add, nL_dda, nI_add, nL_sub, pk_sub, nL_mul, nL_clamp, nI_cl, zchk_n, zchk_l, zb_s, zb2_s, zb3_s, zb3_e, zput_e, zjoin_e, zs_hit, zs_miss, nle_t, nle_f, nlt_t, nlt_f, neq_t, neq_f, ↓reduceIte, and_self, and_true, true_and, and_false, false_and, not_true_eq_false, not_false_eq_true, Nat.add_zero]
      by_cases q : yws (zSV S).2.2.1 ((zSB S).2.1 i) = v <;> simp [q]
    · obtain ⟨a, s⟩ := st
      obtain ⟨rfl, b2⟩ := hh
      refine ⟨s, ?_, zFR.thr.trans b2.fr⟩
      simp only [fX12_spies_L9, r_letters (e0.fq hS b2), zb_s]
      simp (disch := omega) only [nL_lt, nL_gt, nL_le, nL_ge, nL_eq, nL_qe, nI_ltI, nI_leI, nI_eq, nL_add, nL_dda, nI_add, nL_sub, pk_sub, nL_mul, nL_clamp, nI_cl, zchk_n, zchk_l, zb_s, zb2_s, zb3_s, zb3_e, zput_e, zjoin_e, zs_hit, zs_miss, nle_t, nle_f, nlt_t, nlt_f, neq_t, neq_f, ↓reduceIte, and_self, and_true, true_and, and_false, false_and, not_true_eq_false, not_false_eq_true, Nat.add_zero]
/-- how many LINES of L came in week w -/
def zcm (L : zL) (w : Int32) : Nat → Nat
  | 0 => 0
  | i + 1 => zcm L w i + (if L.2.2.1 i = w then 1 else 0)
theorem zcm_le {L : zL} {w : Int32} : ∀ i, zcm L w i ≤ i
  | 0 => Nat.le_refl _
  | i + 1 => by
    show zcm L w i + _ ≤ _
    have := zcm_le (L := L) (w := w) i
    split <;> omega
theorem c_linesOf {g : zM} {h : Nat} {L : zL} (e : zCM g h L) (hL : L.1 ≤ 24) (w : Int32) : fX3_linesOf h w g = some (nI (zcm L w L.1)) := by
  unfold fX3_linesOf
  refine zL_Q0 (fun n i st => fX3_linesOf_L4 h w g n st (nI i)) (fun i st => st = nI (zcm L w i)) L.1 (fun x => x = some (nI (zcm L w L.1))) 0 (by omega) rfl (fun n i st hi hh => ?_) (fun n st hh => ?_)
  · subst hh
    right
    refine ⟨_, rfl, ?_⟩
    simp only [fX3_linesOf_L4, e.1]
    simp (disch := omega) only [nL_lt, nL_gt, nL_le, nL_ge, nL_eq, nL_qe, nI_ltI, nI_leI, nI_eq, nL_add, nL_dda, nI_add, nL_sub, pk_sub, nL_mul, nL_clamp, nI_cl, zchk_n, zchk_l, zb_s, zb2_s, zb3_s, zb3_e, zput_e, zjoin_e, zs_hit, zs_miss, nle_t, nle_f, nlt_t, nlt_f, neq_t, neq_f, ↓reduceIte, and_self, and_true, true_and, and_false, false_and, not_true_eq_false, not_false_eq_true, Nat.add_zero]
    rw [e.2.2.1 i hi]
    show _ = fX3_linesOf_L4 h w g n (nI (zcm L w i + if L.2.2.1 i = w then 1 else 0)) (nI (i + 1))
    by_cases q : L.2.2.1 i = w <;> simp [q]
  · subst hh
    simp only [fX3_linesOf_L4, e.1]
    simp (disch := omega) only [nL_lt, nL_gt, nL_le, nL_ge, nL_eq, nL_qe, nI_ltI, nI_leI, nI_eq, nL_add, nL_dda, nI_add, nL_sub, pk_sub, nL_mul, nL_clamp, nI_cl, zchk_n, zchk_l, zb_s, zb2_s, zb3_s, zb3_e, zput_e, zjoin_e, zs_hit, zs_miss, nle_t, nle_f, nlt_t, nlt_f, neq_t, neq_f, ↓reduceIte, and_self, and_true, true_and, and_false, false_and, not_true_eq_false, not_false_eq_true, Nat.add_zero]
theorem r_cameIn {S : zS} {g : zM} (hS : zSW S) (e : zRI S g) {l : Nat} (hl : l < (zSB S).1) (w : Int32) : fX12_cameIn (nI l) w g = some (nI (zcm ((zSB S).2.1 l) w ((zSB S).2.1 l).1)) := by
  have hL := hS.letter hl
  have h24 := hL.2.1
  unfold fX12_cameIn
  refine zL_Q0 (fun n i st => fX12_cameIn_L5 (nI l) w g n st (nI i)) (fun i st => st = nI (zcm ((zSB S).2.1 l) w i)) ((zSB S).2.1 l).1 (fun x => x = some (nI (zcm ((zSB S).2.1 l) w ((zSB S).2.1 l).1))) 0 (by omega) rfl (fun n i st hi hh => ?_) (fun n st hh => ?_)
  · subst hh
    right
    refine ⟨_, rfl, ?_⟩
    simp only [fX12_cameIn_L5, r_lines hS e hl, r_whenOf hS e hl hi, zb_s]
    simp (disch := omega) only [nL_lt, nL_gt, nL_le, nL_ge, nL_eq, nL_qe, nI_ltI, nI_leI, nI_eq, nL_add, nL_dda, nI_add, nL_sub, pk_sub, nL_mul, nL_clamp, nI_cl, zchk_n, zchk_l, zb_s, zb2_s, zb3_s, zb3_e, zput_e, zjoin_e, zs_hit, zs_miss, nle_t, nle_f, nlt_t, nlt_f, neq_t, neq_f, ↓reduceIte, and_self, and_true, true_and, and_false, false_and, not_true_eq_false, not_false_eq_true, Nat.add_zero]
    show _ = fX12_cameIn_L5 (nI l) w g n (nI (zcm ((zSB S).2.1 l) w i + if ((zSB S).2.1 l).2.2.1 i = w then 1 else 0)) (nI (i + 1))
    by_cases q : ((zSB S).2.1 l).2.2.1 i = w <;> simp [q]
  · subst hh
    simp only [fX12_cameIn_L5, r_lines hS e hl, zb_s]
    simp (disch := omega) only [nL_lt, nL_gt, nL_le, nL_ge, nL_eq, nL_qe, nI_ltI, nI_leI, nI_eq, nL_add, nL_dda, nI_add, nL_sub, pk_sub, nL_mul, nL_clamp, nI_cl, zchk_n, zchk_l, zb_s, zb2_s, zb3_s, zb3_e, zput_e, zjoin_e, zs_hit, zs_miss, nle_t, nle_f, nlt_t, nlt_f, neq_t, neq_f, ↓reduceIte, and_self, and_true, true_and, and_false, false_and, not_true_eq_false, not_false_eq_true, Nat.add_zero]
theorem zoi_none : zoi none = -1 := rfl
theorem zoi_some (k : Nat) : zoi (some k) = nI k := rfl
/-- how many LINES of the best so far came then -/
def zcb (S : zS) (w : Int32) (o : Option Nat) : Nat := match o with
  | none => 0
  | some k => zcm ((zSB S).2.1 k) w ((zSB S).2.1 k).1
theorem m_latest {S : zS} (hS : zSW S) (w : Int32) : zAskN S (fX11_latest w) (fX12_latest w) := by
  have h8 := hS.eight
  -- the best of the first i
  have key : ∃ b : Nat → Option Nat, ∀ i, i ≤ (zSB S).1 → (b 0 = none) ∧ (∀ k, b i = some k → k < i ∧ 0 < zcm ((zSB S).2.1 k) w ((zSB S).2.1 k).1) ∧ (i < (zSB S).1 → b (i + 1) = if zcb S w (b i) < zcm ((zSB S).2.1 i) w ((zSB S).2.1 i).1 then some i else b i) := by
    refine ⟨fun i => zfo (fun l (a : Option Nat) => if zcb S w a < zcm ((zSB S).2.1 l) w ((zSB S).2.1 l).1 then some l else a) i 0 none, fun i hi => ⟨rfl, ?_, fun h => by simp only [zfo_s]⟩⟩
    induction i with
    | zero => intro k h; exact nomatch h
    | succ i ih =>
      intro k h
      simp only [zfo_s] at h
      have ih := ih (by omega)
      simp only at ih
      generalize zfo (fun l (a : Option Nat) => if zcb S w a < zcm ((zSB S).2.1 l) w ((zSB S).2.1 l).1 then some l else a) i 0 none = a at *
      by_cases q : zcb S w a < zcm ((zSB S).2.1 i) w ((zSB S).2.1 i).1
      · rw [if_pos q] at h
        cases h
        exact ⟨by omega, Nat.lt_of_le_of_lt (Nat.zero_le _) q⟩
      · rw [if_neg q] at h
        have := ih k h
        exact ⟨by omega, this.2⟩
  obtain ⟨b, hb⟩ := key
  have cb : ∀ k, k < (zSB S).1 → zcm ((zSB S).2.1 k) w ((zSB S).2.1 k).1 ≤ 24 := fun k hk => Nat.le_trans (zcm_le _) (hS.letter hk).2.1
  refine ⟨zoi (b (zSB S).1), fun g e => ?_, fun g e => ?_⟩
  · unfold fX11_latest
    refine zL_Q0 (fun n i (st : Int32 × Int32) => fX11_latest_L7 w g n st.1 st.2 (nI i)) (fun i st => st.1 = nI (zcb S w (b i)) ∧ st.2 = zoi (b i)) (zSB S).1 (fun x => x = some (zoi (b (zSB S).1))) (0, -1) (by omega) ⟨by rw [(hb 0 (by omega)).1]; rfl, by rw [(hb 0 (by omega)).1]; rfl⟩ (fun n i st hi hh => ?_) (fun n st hh => ?_)
    · obtain ⟨x, y⟩ := st
      obtain ⟨rfl, rfl⟩ := hh
      right
      refine ⟨(nI (zcb S w (b (i + 1))), zoi (b (i + 1))), ⟨rfl, rfl⟩, ?_⟩
      simp only [fX11_latest_L7, e.size]
      rw [(hb i (by omega)).2.2 hi]
      have c1 := cb i hi
      have c2 : zcb S w (b i) ≤ 24 := by
        cases q : b i with
        | none => exact Nat.zero_le _
        | some k => exact cb k (by have := ((hb i (by omega)).2.1 k q).1; omega)
      simp (disch := omega) only [nL_lt, nL_gt, nL_le, nL_ge, nL_eq, nL_qe, nI_ltI, nI_leI, nI_eq, nL_add, nL_dda, nI_add, nL_sub, pk_sub, nL_mul, nL_clamp, nI_cl, zchk_n, zchk_l, zb_s, zb2_s, zb3_s, zb3_e, zput_e, zjoin_e, zs_hit, zs_miss, nle_t, nle_f, nlt_t, nlt_f, neq_t, neq_f, ↓reduceIte, and_self, and_true, true_and, and_false, false_and, not_true_eq_false, not_false_eq_true, Nat.add_zero]
      rw [c_linesOf (e.mail hi) (hS.letter hi).2.1, zb_s]
      by_cases q : zcb S w (b i) < zcm ((zSB S).2.1 i) w ((zSB S).2.1 i).1
      · rw [if_pos q]
        simp (disch := omega) only [nL_lt, nL_gt, nL_le, nL_ge, nL_eq, nL_qe, nI_ltI, nI_leI, nI_eq, nL_add, nL_dda, nI_add, nL_sub, pk_sub, nL_mul, nL_clamp, nI_cl, zchk_n, zchk_l, zb_s, zb2_s, zb3_s, zb3_e, zput_e, zjoin_e, zs_hit, zs_miss, nle_t, nle_f, nlt_t, nlt_f, neq_t, neq_f, ↓reduceIte, and_self, and_true, true_and, and_false, false_and, not_true_eq_false, not_false_eq_true, Nat.add_zero, zoi_some]
        rfl
      · rw [if_neg q]
        simp (disch := omega) only [nL_lt, nL_gt, nL_le, nL_ge, nL_eq, nL_qe, nI_ltI, nI_leI, nI_eq, nL_add, nL_dda, nI_add, nL_sub, pk_sub, nL_mul, nL_clamp, nI_cl, zchk_n, zchk_l, zb_s, zb2_s, zb3_s, zb3_e, zput_e, zjoin_e, zs_hit, zs_miss, nle_t, nle_f, nlt_t, nlt_f, neq_t, neq_f, ↓reduceIte, and_self, and_true, true_and, and_false, false_and, not_true_eq_false, not_false_eq_true, Nat.add_zero]
    · obtain ⟨x, y⟩ := st
      obtain ⟨rfl, rfl⟩ := hh
      simp only [fX11_latest_L7, e.size]
      simp (disch := omega) only [nL_lt, nL_gt, nL_le, nL_ge, nL_eq, nL_qe, nI_ltI, nI_leI, nI_eq, nL_add, nL_dda, nI_add, nL_sub, pk_sub, nL_mul, nL_clamp, nI_cl, zchk_n, zchk_l, zb_s, zb2_s, zb3_s, zb3_e, zput_e, zjoin_e, zs_hit, zs_miss, nle_t, nle_f, nlt_t, nlt_f, neq_t, neq_f, ↓reduceIte, and_self, and_true, true_and, and_false, false_and, not_true_eq_false, not_false_eq_true, Nat.add_zero]
  · have e0 := e.thr hS 0
    unfold fX12_latest
    rw [zput_e]
    refine ⟨zset g 493 0 0, ?_, zFR.thr⟩
    refine zL_Q0 (fun n i st => fX12_latest_L9 w (zset g 493 0 0) n st (nI i)) (fun i st => st = zoi (b i)) (zSB S).1 (fun x => x = some (zoi (b (zSB S).1), zset g 493 0 0)) (-1) (by omega) (by rw [(hb 0 (by omega)).1]; rfl) (fun n i st hi hh => ?_) (fun n st hh => ?_)
    · subst hh
      right
      refine ⟨_, rfl, ?_⟩
      rw [(hb i (by omega)).2.2 hi]
      have c1 := cb i hi
      simp only [fX12_latest_L9, r_letters e0, zb_s, r_cameIn hS e0 hi]
      cases q : b i with
      | none =>
        simp (disch := omega) only [nL_lt, nL_gt, nL_le, nL_ge, nL_eq, nL_qe, nI_ltI, nI_leI, nI_eq, nL_add, nL_dda, nI_add, nL_sub, pk_sub, nL_mul, nL_clamp, nI_cl, zchk_n, zchk_l, zb_s, zb2_s, zb3_s, zb3_e, zput_e, zjoin_e, zs_hit, zs_miss, nle_t, nle_f, nlt_t, nlt_f, neq_t, neq_f, ↓reduceIte, and_self, and_true, true_and, and_false, false_and, not_true_eq_false, not_false_eq_true, Nat.add_zero, zoi_none]
        have hzc : zcb S w none = 0 := rfl
        by_cases q2 : zcm ((zSB S).2.1 i) w ((zSB S).2.1 i).1 = 0
        · simp (disch := omega) only [nL_lt, nL_gt, nL_le, nL_ge, nL_eq, nL_qe, nI_ltI, nI_leI, nI_eq, nL_add, nL_dda, nI_add, nL_sub, pk_sub, nL_mul, nL_clamp, nI_cl, zchk_n, zchk_l, zb_s, zb2_s, zb3_s, zb3_e, zput_e, zjoin_e, zs_hit, zs_miss, nle_t, nle_f, nlt_t, nlt_f, neq_t, neq_f, ↓reduceIte, and_self, and_true, true_and, and_false, false_and, not_true_eq_false, not_false_eq_true, Nat.add_zero, zoi_none, hzc]
        · simp (disch := omega) only [nL_lt, nL_gt, nL_le, nL_ge, nL_eq, nL_qe, nI_ltI, nI_leI, nI_eq, nL_add, nL_dda, nI_add, nL_sub, pk_sub, nL_mul, nL_clamp, nI_cl, zchk_n, zchk_l, zb_s, zb2_s, zb3_s, zb3_e, zput_e, zjoin_e, zs_hit, zs_miss, nle_t, nle_f, nlt_t, nlt_f, neq_t, neq_f, ↓reduceIte, and_self, and_true, true_and, and_false, false_and, not_true_eq_false, not_false_eq_true, Nat.add_zero, zoi_some, hzc, show ((-1 : Int32) < 0) = True from by decide]
      | some k =>
        have hk := (hb i (by omega)).2.1 k q
        have c2 := cb k (by omega)
        rw [zoi_some, r_cameIn hS e0 (show k < (zSB S).1 by omega)]
        by_cases q2 : zcm ((zSB S).2.1 i) w ((zSB S).2.1 i).1 = 0
        · simp (disch := omega) only [nL_lt, nL_gt, nL_le, nL_ge, nL_eq, nL_qe, nI_ltI, nI_leI, nI_eq, nL_add, nL_dda, nI_add, nL_sub, pk_sub, nL_mul, nL_clamp, nI_cl, zchk_n, zchk_l, zb_s, zb2_s, zb3_s, zb3_e, zput_e, zjoin_e, zs_hit, zs_miss, nle_t, nle_f, nlt_t, nlt_f, neq_t, neq_f, ↓reduceIte, and_self, and_true, true_and, and_false, false_and, not_true_eq_false, not_false_eq_true, Nat.add_zero, zoi_some]
        · have hzc : zcb S w (some k) = zcm ((zSB S).2.1 k) w ((zSB S).2.1 k).1 := rfl
          by_cases q3 : zcm ((zSB S).2.1 k) w ((zSB S).2.1 k).1 < zcm ((zSB S).2.1 i) w ((zSB S).2.1 i).1
          · simp (disch := omega) only [nL_lt, nL_gt, nL_le, nL_ge, nL_eq, nL_qe, nI_ltI, nI_leI, nI_eq, nL_add, nL_dda, nI_add, nL_sub, pk_sub, nL_mul, nL_clamp, nI_cl, zchk_n, zchk_l, zb_s, zb2_s, zb3_s, zb3_e, zput_e, zjoin_e, zs_hit, zs_miss, nle_t, nle_f, nlt_t, nlt_f, neq_t, neq_f, ↓reduceIte, and_self, and_true, true_and, and_false, false_and, not_true_eq_false, not_false_eq_true, Nat.add_zero, zoi_some, hzc]
          · simp (disch := omega) only [nL_lt, nL_gt, nL_le, nL_ge, nL_eq, nL_qe, nI_ltI, nI_leI, nI_eq, nL_add, nL_dda, nI_add, nL_sub, pk_sub, nL_mul, nL_clamp, nI_cl, zchk_n, zchk_l, zb_s, zb2_s, zb3_s, zb3_e, zput_e, zjoin_e, zs_hit, zs_miss, nle_t, nle_f, nlt_t, nlt_f, neq_t, neq_f, ↓reduceIte, and_self, and_true, true_and, and_false, false_and, not_true_eq_false, not_false_eq_true, Nat.add_zero, zoi_some, hzc]
    · subst hh
      simp only [fX12_latest_L9, r_letters e0, zb_s]
      simp (disch := omega) only [nL_lt, nL_gt, nL_le, nL_ge, nL_eq, nL_qe, nI_ltI, nI_leI, nI_eq, nL_add, nL_dda, nI_add, nL_sub, pk_sub, nL_mul, nL_clamp, nI_cl, zchk_n, zchk_l, zb_s, zb2_s, zb3_s, zb3_e, zput_e, zjoin_e, zs_hit, zs_miss, nle_t, nle_f, nlt_t, nlt_f, neq_t, neq_f, ↓reduceIte, and_self, and_true, true_and, and_false, false_and, not_true_eq_false, not_false_eq_true, Nat.add_zero]
/-- LINES of all LETTERS -/
def zsum (B : zB') : Int32 := zfo (fun l a => a + nI (B.2.1 l).1) B.1 0 0
theorem c_linesInAll {g : zM} {h : Nat} {B : zB'} (e : zCB g h B) (h8 : B.1 ≤ 8) : fX0_linesInAll h g = some (zsum B) := by
  unfold fX0_linesInAll zsum
  refine zL_F0 (fun n i a => fX0_linesInAll_L4 h g n a (nI i)) (fun l a => a + nI (B.2.1 l).1) B.1 some 0 (by omega) (fun n i a hi => ?_) (fun n a => ?_)
  · simp only [fX0_linesInAll_L4, e.1]
    simp (disch := omega) only [nL_lt, nL_gt, nL_le, nL_ge, nL_eq, nL_qe, nI_ltI, nI_leI, nI_eq, nL_add, nL_dda, nI_add, nL_sub, pk_sub, nL_mul, nL_clamp, nI_cl, zchk_n, zchk_l, zb_s, zb2_s, zb3_s, zb3_e, zput_e, zjoin_e, zs_hit, zs_miss, nle_t, nle_f, nlt_t, nlt_f, neq_t, neq_f, ↓reduceIte, and_self, and_true, true_and, and_false, false_and, not_true_eq_false, not_false_eq_true, Nat.add_zero]
    rw [(e.2.1 i hi).1]
  · simp only [fX0_linesInAll_L4, e.1]
    simp (disch := omega) only [nL_lt, nL_gt, nL_le, nL_ge, nL_eq, nL_qe, nI_ltI, nI_leI, nI_eq, nL_add, nL_dda, nI_add, nL_sub, pk_sub, nL_mul, nL_clamp, nI_cl, zchk_n, zchk_l, zb_s, zb2_s, zb3_s, zb3_e, zput_e, zjoin_e, zs_hit, zs_miss, nle_t, nle_f, nlt_t, nlt_f, neq_t, neq_f, ↓reduceIte, and_self, and_true, true_and, and_false, false_and, not_true_eq_false, not_false_eq_true, Nat.add_zero]
theorem r_allLines {g : zM} {B : zB'} (e : zRB g 494 0 B) (h8 : B.1 ≤ 8) : fX12_allLines g = some (zsum B) := by
  have hl : fX12_letters g = some (nI B.1) := by unfold fX12_letters; simp (disch := omega) only [nL_lt, nL_gt, nL_le, nL_ge, nL_eq, nL_qe, nI_ltI, nI_leI, nI_eq, nL_add, nL_dda, nI_add, nL_sub, pk_sub, nL_mul, nL_clamp, nI_cl, zchk_n, zchk_l, zb_s, zb2_s, zb3_s, zb3_e, zput_e, zjoin_e, zs_hit, zs_miss, nle_t, nle_f, nlt_t, nlt_f, neq_t, neq_f, ↓reduceIte, and_self, and_true, true_and, and_false, false_and, not_true_eq_false, not_false_eq_true, Nat.add_zero, e.1]
  unfold fX12_allLines zsum
  refine zL_F0 (fun n i a => fX12_allLines_L4 g n a (nI i)) (fun l a => a + nI (B.2.1 l).1) B.1 some 0 (by omega) (fun n i a hi => ?_) (fun n a => ?_)
  · have e1 : g 494 (36 + 53 * i) = nI (B.2.1 i).1 := by have := (e.2.1 i hi).1; simpa using this
    have : fX12_lines (nI i) g = some (nI (B.2.1 i).1) := by
      unfold fX12_lines fX12_of fX12_at
      simp (disch := omega) only [nL_lt, nL_gt, nL_le, nL_ge, nL_eq, nL_qe, nI_ltI, nI_leI, nI_eq, nL_add, nL_dda, nI_add, nL_sub, pk_sub, nL_mul, nL_clamp, nI_cl, zchk_n, zchk_l, zb_s, zb2_s, zb3_s, zb3_e, zput_e, zjoin_e, zs_hit, zs_miss, nle_t, nle_f, nlt_t, nlt_f, neq_t, neq_f, ↓reduceIte, and_self, and_true, true_and, and_false, false_and, not_true_eq_false, not_false_eq_true, Nat.add_zero, e1]
    simp only [fX12_allLines_L4, hl, zb_s, this]
    simp (disch := omega) only [nL_lt, nL_gt, nL_le, nL_ge, nL_eq, nL_qe, nI_ltI, nI_leI, nI_eq, nL_add, nL_dda, nI_add, nL_sub, pk_sub, nL_mul, nL_clamp, nI_cl, zchk_n, zchk_l, zb_s, zb2_s, zb3_s, zb3_e, zput_e, zjoin_e, zs_hit, zs_miss, nle_t, nle_f, nlt_t, nlt_f, neq_t, neq_f, ↓reduceIte, and_self, and_true, true_and, and_false, false_and, not_true_eq_false, not_false_eq_true, Nat.add_zero]
  · simp only [fX12_allLines_L4, hl, zb_s]
    simp (disch := omega) only [nL_lt, nL_gt, nL_le, nL_ge, nL_eq, nL_qe, nI_ltI, nI_leI, nI_eq, nL_add, nL_dda, nI_add, nL_sub, pk_sub, nL_mul, nL_clamp, nI_cl, zchk_n, zchk_l, zb_s, zb2_s, zb3_s, zb3_e, zput_e, zjoin_e, zs_hit, zs_miss, nle_t, nle_f, nlt_t, nlt_f, neq_t, neq_f, ↓reduceIte, and_self, and_true, true_and, and_false, false_and, not_true_eq_false, not_false_eq_true, Nat.add_zero]
theorem c_openSet {g : zM} {h : Nat} {B : zB'} (e : zCB g h B) (h8 : B.1 ≤ 8) : fX0_openSet h g = some (zbs (fun l => (B.2.1 l).2.2.2.2.2.1) B.1) := by
  unfold fX0_openSet zbs
  refine zL_F0 (fun n i a => fX0_openSet_L4 h g n a (nI i)) (fun l a => if (B.2.1 l).2.2.2.2.2.1 = true then a ||| ((1 : Int32) <<< (nI l &&& 31)) else a) B.1 some 0 (by omega) (fun n i a hi => ?_) (fun n a => ?_)
  · simp only [fX0_openSet_L4, e.1]
    simp (disch := omega) only [nL_lt, nL_gt, nL_le, nL_ge, nL_eq, nL_qe, nI_ltI, nI_leI, nI_eq, nL_add, nL_dda, nI_add, nL_sub, pk_sub, nL_mul, nL_clamp, nI_cl, zchk_n, zchk_l, zb_s, zb2_s, zb3_s, zb3_e, zput_e, zjoin_e, zs_hit, zs_miss, nle_t, nle_f, nlt_t, nlt_f, neq_t, neq_f, ↓reduceIte, and_self, and_true, true_and, and_false, false_and, not_true_eq_false, not_false_eq_true, Nat.add_zero]
    rw [(e.2.1 i hi).2.2.2.2.2.1]
    cases (B.2.1 i).2.2.2.2.2.1 <;> simp [zbi]
  · simp only [fX0_openSet_L4, e.1]
    simp (disch := omega) only [nL_lt, nL_gt, nL_le, nL_ge, nL_eq, nL_qe, nI_ltI, nI_leI, nI_eq, nL_add, nL_dda, nI_add, nL_sub, pk_sub, nL_mul, nL_clamp, nI_cl, zchk_n, zchk_l, zb_s, zb2_s, zb3_s, zb3_e, zput_e, zjoin_e, zs_hit, zs_miss, nle_t, nle_f, nlt_t, nlt_f, neq_t, neq_f, ↓reduceIte, and_self, and_true, true_and, and_false, false_and, not_true_eq_false, not_false_eq_true, Nat.add_zero]
theorem c_hotSet {g : zM} {h : Nat} {B : zB'} (e : zCB g h B) (h8 : B.1 ≤ 8) : fX0_hotSet h g = some (zbs (fun l => (B.2.1 l).2.2.2.2.2.2) B.1) := by
  unfold fX0_hotSet zbs
  refine zL_F0 (fun n i a => fX0_hotSet_L4 h g n a (nI i)) (fun l a => if (B.2.1 l).2.2.2.2.2.2 = true then a ||| ((1 : Int32) <<< (nI l &&& 31)) else a) B.1 some 0 (by omega) (fun n i a hi => ?_) (fun n a => ?_)
  · simp only [fX0_hotSet_L4, e.1]
    simp (disch := omega) only [nL_lt, nL_gt, nL_le, nL_ge, nL_eq, nL_qe, nI_ltI, nI_leI, nI_eq, nL_add, nL_dda, nI_add, nL_sub, pk_sub, nL_mul, nL_clamp, nI_cl, zchk_n, zchk_l, zb_s, zb2_s, zb3_s, zb3_e, zput_e, zjoin_e, zs_hit, zs_miss, nle_t, nle_f, nlt_t, nlt_f, neq_t, neq_f, ↓reduceIte, and_self, and_true, true_and, and_false, false_and, not_true_eq_false, not_false_eq_true, Nat.add_zero]
    rw [(e.2.1 i hi).2.2.2.2.2.2]
    cases (B.2.1 i).2.2.2.2.2.2 <;> simp [zbi]
  · simp only [fX0_hotSet_L4, e.1]
    simp (disch := omega) only [nL_lt, nL_gt, nL_le, nL_ge, nL_eq, nL_qe, nI_ltI, nI_leI, nI_eq, nL_add, nL_dda, nI_add, nL_sub, pk_sub, nL_mul, nL_clamp, nI_cl, zchk_n, zchk_l, zb_s, zb2_s, zb3_s, zb3_e, zput_e, zjoin_e, zs_hit, zs_miss, nle_t, nle_f, nlt_t, nlt_f, neq_t, neq_f, ↓reduceIte, and_self, and_true, true_and, and_false, false_and, not_true_eq_false, not_false_eq_true, Nat.add_zero]
theorem r_those {S : zS} {g : zM} (hS : zSW S) (e : zRI S g) (c : Nat) (p : Nat → Bool) (hp : ∀ l, l < (zSB S).1 → fX12_of (nI l) (nI c) g = some (zbi (p l))) : fX12_those (nI c) g = some (zbs p (zSB S).1) := by
  have h8 := hS.eight
  unfold fX12_those zbs
  refine zL_F0 (fun n i a => fX12_those_L4 (nI c) g n a (nI i)) (fun l a => if p l = true then a ||| ((1 : Int32) <<< (nI l &&& 31)) else a) (zSB S).1 some 0 (by omega) (fun n i a hi => ?_) (fun n a => ?_)
  · simp only [fX12_those_L4, r_letters e, zb_s, hp i hi]
    simp (disch := omega) only [nL_lt, nL_gt, nL_le, nL_ge, nL_eq, nL_qe, nI_ltI, nI_leI, nI_eq, nL_add, nL_dda, nI_add, nL_sub, pk_sub, nL_mul, nL_clamp, nI_cl, zchk_n, zchk_l, zb_s, zb2_s, zb3_s, zb3_e, zput_e, zjoin_e, zs_hit, zs_miss, nle_t, nle_f, nlt_t, nlt_f, neq_t, neq_f, ↓reduceIte, and_self, and_true, true_and, and_false, false_and, not_true_eq_false, not_false_eq_true, Nat.add_zero]
    cases p i <;> simp [zbi]
  · simp only [fX12_those_L4, r_letters e, zb_s]
    simp (disch := omega) only [nL_lt, nL_gt, nL_le, nL_ge, nL_eq, nL_qe, nI_ltI, nI_leI, nI_eq, nL_add, nL_dda, nI_add, nL_sub, pk_sub, nL_mul, nL_clamp, nI_cl, zchk_n, zchk_l, zb_s, zb2_s, zb3_s, zb3_e, zput_e, zjoin_e, zs_hit, zs_miss, nle_t, nle_f, nlt_t, nlt_f, neq_t, neq_f, ↓reduceIte, and_self, and_true, true_and, and_false, false_and, not_true_eq_false, not_false_eq_true, Nat.add_zero]
theorem m_count {S : zS} (hS : zSW S) (v : Int32) : zAskN S (fX11_count v) (fX12_count v) := by
  have h8 := hS.eight
  have one : ∀ (r : Int32), (∀ g, zCI S g → fX11_count v g = some r) → (∀ g, zRI S g → fX12_count v g = some (r, zset g 493 0 0)) → zAskN S (fX11_count v) (fX12_count v) := fun r h1 h2 => ⟨r, h1, fun g e => ⟨_, h2 g e, zFR.thr⟩⟩
  rcases zix v (n := 11) (by omega) with h | ⟨k, hk, rfl⟩
  · have ne : ∀ k, k < 11 → ¬ v = nI k := by
      intro k hk q
      subst q
      rcases h with h | h
      · exact nI_pos (by omega) h
      · exact nI_ge hk (by omega) h
    have n0 : ¬ v = 0 := ne 0 (by omega)
    have n1 : ¬ v = 1 := ne 1 (by omega)
    have n2 : ¬ v = 2 := ne 2 (by omega)
    have n3 : ¬ v = 3 := ne 3 (by omega)
    have n4 : ¬ v = 4 := ne 4 (by omega)
    have n5 : ¬ v = 5 := ne 5 (by omega)
    have n6 : ¬ v = 6 := ne 6 (by omega)
    have n7 : ¬ v = 7 := ne 7 (by omega)
    have n8 : ¬ v = 8 := ne 8 (by omega)
    have n9 : ¬ v = 9 := ne 9 (by omega)
    have n10 : ¬ v = 10 := ne 10 (by omega)
    refine one (-1) (fun g e => ?_) (fun g e => ?_)
    · unfold fX11_count
      simp only [n0, n1, n2, n3, n4, n5, n6, n7, n8, n9, n10, if_false]
    · unfold fX12_count
      simp only [n0, n1, n2, n3, n4, n5, n6, n7, n8, n9, n10, if_false, zput_e]
  · have hk : k = 0 ∨ k = 1 ∨ k = 2 ∨ k = 3 ∨ k = 4 ∨ k = 5 ∨ k = 6 ∨ k = 7 ∨ k = 8 ∨ k = 9 ∨ k = 10 := by omega
    rcases hk with rfl | rfl | rfl | rfl | rfl | rfl | rfl | rfl | rfl | rfl | rfl
    · refine one (nI (zSB S).1) (fun g e => ?_) (fun g e => ?_)
      · unfold fX11_count; simp (disch := omega) only [nL_lt, nL_gt, nL_le, nL_ge, nL_eq, nL_qe, nI_ltI, nI_leI, nI_eq, nL_add, nL_dda, nI_add, nL_sub, pk_sub, nL_mul, nL_clamp, nI_cl, zchk_n, zchk_l, zb_s, zb2_s, zb3_s, zb3_e, zput_e, zjoin_e, zs_hit, zs_miss, nle_t, nle_f, nlt_t, nlt_f, neq_t, neq_f, ↓reduceIte, and_self, and_true, true_and, and_false, false_and, not_true_eq_false, not_false_eq_true, Nat.add_zero, e.size]
      · unfold fX12_count; simp (disch := omega) only [nL_lt, nL_gt, nL_le, nL_ge, nL_eq, nL_qe, nI_ltI, nI_leI, nI_eq, nL_add, nL_dda, nI_add, nL_sub, pk_sub, nL_mul, nL_clamp, nI_cl, zchk_n, zchk_l, zb_s, zb2_s, zb3_s, zb3_e, zput_e, zjoin_e, zs_hit, zs_miss, nle_t, nle_f, nlt_t, nlt_f, neq_t, neq_f, ↓reduceIte, and_self, and_true, true_and, and_false, false_and, not_true_eq_false, not_false_eq_true, Nat.add_zero, r_letters (e.thr hS 0)]
    · refine one (nI (zSV S).2.2.2.1) (fun g e => ?_) (fun g e => ?_)
      · unfold fX11_count; simp (disch := omega) only [nL_lt, nL_gt, nL_le, nL_ge, nL_eq, nL_qe, nI_ltI, nI_leI, nI_eq, nL_add, nL_dda, nI_add, nL_sub, pk_sub, nL_mul, nL_clamp, nI_cl, zchk_n, zchk_l, zb_s, zb2_s, zb3_s, zb3_e, zput_e, zjoin_e, zs_hit, zs_miss, nle_t, nle_f, nlt_t, nlt_f, neq_t, neq_f, ↓reduceIte, and_self, and_true, true_and, and_false, false_and, not_true_eq_false, not_false_eq_true, Nat.add_zero, e.proms]
      · unfold fX12_count; simp (disch := omega) only [nL_lt, nL_gt, nL_le, nL_ge, nL_eq, nL_qe, nI_ltI, nI_leI, nI_eq, nL_add, nL_dda, nI_add, nL_sub, pk_sub, nL_mul, nL_clamp, nI_cl, zchk_n, zchk_l, zb_s, zb2_s, zb3_s, zb3_e, zput_e, zjoin_e, zs_hit, zs_miss, nle_t, nle_f, nlt_t, nlt_f, neq_t, neq_f, ↓reduceIte, and_self, and_true, true_and, and_false, false_and, not_true_eq_false, not_false_eq_true, Nat.add_zero, r_promises (e.thr hS 0)]
    · refine one (nI (zSV S).2.2.2.2.2.2.2) (fun g e => ?_) (fun g e => ?_)
      · unfold fX11_count; simp (disch := omega) only [nL_lt, nL_gt, nL_le, nL_ge, nL_eq, nL_qe, nI_ltI, nI_leI, nI_eq, nL_add, nL_dda, nI_add, nL_sub, pk_sub, nL_mul, nL_clamp, nI_cl, zchk_n, zchk_l, zb_s, zb2_s, zb3_s, zb3_e, zput_e, zjoin_e, zs_hit, zs_miss, nle_t, nle_f, nlt_t, nlt_f, neq_t, neq_f, ↓reduceIte, and_self, and_true, true_and, and_false, false_and, not_true_eq_false, not_false_eq_true, Nat.add_zero, e.2.2.2.1.2.2.2.2.2.2]
      · unfold fX12_count; simp (disch := omega) only [nL_lt, nL_gt, nL_le, nL_ge, nL_eq, nL_qe, nI_ltI, nI_leI, nI_eq, nL_add, nL_dda, nI_add, nL_sub, pk_sub, nL_mul, nL_clamp, nI_cl, zchk_n, zchk_l, zb_s, zb2_s, zb3_s, zb3_e, zput_e, zjoin_e, zs_hit, zs_miss, nle_t, nle_f, nlt_t, nlt_f, neq_t, neq_f, ↓reduceIte, and_self, and_true, true_and, and_false, false_and, not_true_eq_false, not_false_eq_true, Nat.add_zero, e.2.2.2.1.2.2.2.2.2.2]
    · refine one (if (zSL S).2.2.2.2.2.2 = true then nI (zSL S).1 else -1) (fun g e => ?_) (fun g e => ?_)
      · unfold fX11_count; simp (disch := omega) only [nL_lt, nL_gt, nL_le, nL_ge, nL_eq, nL_qe, nI_ltI, nI_leI, nI_eq, nL_add, nL_dda, nI_add, nL_sub, pk_sub, nL_mul, nL_clamp, nI_cl, zchk_n, zchk_l, zb_s, zb2_s, zb3_s, zb3_e, zput_e, zjoin_e, zs_hit, zs_miss, nle_t, nle_f, nlt_t, nlt_f, neq_t, neq_f, ↓reduceIte, and_self, and_true, true_and, and_false, false_and, not_true_eq_false, not_false_eq_true, Nat.add_zero, e.law.1, e.law.2.2.2.2]
        cases (zSL S).2.2.2.2.2.2 <;> simp [zbi]
      · unfold fX12_count; simp (disch := omega) only [nL_lt, nL_gt, nL_le, nL_ge, nL_eq, nL_qe, nI_ltI, nI_leI, nI_eq, nL_add, nL_dda, nI_add, nL_sub, pk_sub, nL_mul, nL_clamp, nI_cl, zchk_n, zchk_l, zb_s, zb2_s, zb3_s, zb3_e, zput_e, zjoin_e, zs_hit, zs_miss, nle_t, nle_f, nlt_t, nlt_f, neq_t, neq_f, ↓reduceIte, and_self, and_true, true_and, and_false, false_and, not_true_eq_false, not_false_eq_true, Nat.add_zero, e.law.1]
        cases q : (zSL S).2.2.2.2.2.2
        · simp [zbi]
        · rw [e.law.2.1 q]; simp [zbi]
    · refine one (zSB S).2.2.1 (fun g e => ?_) (fun g e => ?_)
      · unfold fX11_count; simp (disch := omega) only [nL_lt, nL_gt, nL_le, nL_ge, nL_eq, nL_qe, nI_ltI, nI_leI, nI_eq, nL_add, nL_dda, nI_add, nL_sub, pk_sub, nL_mul, nL_clamp, nI_cl, zchk_n, zchk_l, zb_s, zb2_s, zb3_s, zb3_e, zput_e, zjoin_e, zs_hit, zs_miss, nle_t, nle_f, nlt_t, nlt_f, neq_t, neq_f, ↓reduceIte, and_self, and_true, true_and, and_false, false_and, not_true_eq_false, not_false_eq_true, Nat.add_zero, e.week]
      · unfold fX12_count; simp (disch := omega) only [nL_lt, nL_gt, nL_le, nL_ge, nL_eq, nL_qe, nI_ltI, nI_leI, nI_eq, nL_add, nL_dda, nI_add, nL_sub, pk_sub, nL_mul, nL_clamp, nI_cl, zchk_n, zchk_l, zb_s, zb2_s, zb3_s, zb3_e, zput_e, zjoin_e, zs_hit, zs_miss, nle_t, nle_f, nlt_t, nlt_f, neq_t, neq_f, ↓reduceIte, and_self, and_true, true_and, and_false, false_and, not_true_eq_false, not_false_eq_true, Nat.add_zero, e.week]
    · refine one (zSV S).2.2.2.2.2.2.1 (fun g e => ?_) (fun g e => ?_)
      · unfold fX11_count; simp (disch := omega) only [nL_lt, nL_gt, nL_le, nL_ge, nL_eq, nL_qe, nI_ltI, nI_leI, nI_eq, nL_add, nL_dda, nI_add, nL_sub, pk_sub, nL_mul, nL_clamp, nI_cl, zchk_n, zchk_l, zb_s, zb2_s, zb3_s, zb3_e, zput_e, zjoin_e, zs_hit, zs_miss, nle_t, nle_f, nlt_t, nlt_f, neq_t, neq_f, ↓reduceIte, and_self, and_true, true_and, and_false, false_and, not_true_eq_false, not_false_eq_true, Nat.add_zero, e.2.2.2.1.2.2.2.2.2.1]
      · unfold fX12_count; simp (disch := omega) only [nL_lt, nL_gt, nL_le, nL_ge, nL_eq, nL_qe, nI_ltI, nI_leI, nI_eq, nL_add, nL_dda, nI_add, nL_sub, pk_sub, nL_mul, nL_clamp, nI_cl, zchk_n, zchk_l, zb_s, zb2_s, zb3_s, zb3_e, zput_e, zjoin_e, zs_hit, zs_miss, nle_t, nle_f, nlt_t, nlt_f, neq_t, neq_f, ↓reduceIte, and_self, and_true, true_and, and_false, false_and, not_true_eq_false, not_false_eq_true, Nat.add_zero, e.2.2.2.1.2.2.2.2.2.1]
    · refine one (zsum (zSB S)) (fun g e => ?_) (fun g e => ?_)
      · unfold fX11_count; simp (disch := omega) only [nL_lt, nL_gt, nL_le, nL_ge, nL_eq, nL_qe, nI_ltI, nI_leI, nI_eq, nL_add, nL_dda, nI_add, nL_sub, pk_sub, nL_mul, nL_clamp, nI_cl, zchk_n, zchk_l, zb_s, zb2_s, zb3_s, zb3_e, zput_e, zjoin_e, zs_hit, zs_miss, nle_t, nle_f, nlt_t, nlt_f, neq_t, neq_f, ↓reduceIte, and_self, and_true, true_and, and_false, false_and, not_true_eq_false, not_false_eq_true, Nat.add_zero, c_linesInAll e.2.2.2.1.1 h8]
      · unfold fX12_count; simp (disch := omega) only [nL_lt, nL_gt, nL_le, nL_ge, nL_eq, nL_qe, nI_ltI, nI_leI, nI_eq, nL_add, nL_dda, nI_add, nL_sub, pk_sub, nL_mul, nL_clamp, nI_cl, zchk_n, zchk_l, zb_s, zb2_s, zb3_s, zb3_e, zput_e, zjoin_e, zs_hit, zs_miss, nle_t, nle_f, nlt_t, nlt_f, neq_t, neq_f, ↓reduceIte, and_self, and_true, true_and, and_false, false_and, not_true_eq_false, not_false_eq_true, Nat.add_zero, r_allLines (e.thr hS 0).2.2.2.1.1 h8]
    · refine one (zbs (fun l => ((zSB S).2.1 l).2.2.2.2.2.1) (zSB S).1) (fun g e => ?_) (fun g e => ?_)
      · unfold fX11_count; simp (disch := omega) only [nL_lt, nL_gt, nL_le, nL_ge, nL_eq, nL_qe, nI_ltI, nI_leI, nI_eq, nL_add, nL_dda, nI_add, nL_sub, pk_sub, nL_mul, nL_clamp, nI_cl, zchk_n, zchk_l, zb_s, zb2_s, zb3_s, zb3_e, zput_e, zjoin_e, zs_hit, zs_miss, nle_t, nle_f, nlt_t, nlt_f, neq_t, neq_f, ↓reduceIte, and_self, and_true, true_and, and_false, false_and, not_true_eq_false, not_false_eq_true, Nat.add_zero, c_openSet e.2.2.2.1.1 h8]
      · have e0 := e.thr hS 0
        have := r_those hS e0 3 (fun l => ((zSB S).2.1 l).2.2.2.2.2.1) (fun l hl => by rw [r_of hS e0 hl (by omega), (e0.letter hl).2.2.2.2.2.1])
        unfold fX12_count; simp (disch := omega) only [nL_lt, nL_gt, nL_le, nL_ge, nL_eq, nL_qe, nI_ltI, nI_leI, nI_eq, nL_add, nL_dda, nI_add, nL_sub, pk_sub, nL_mul, nL_clamp, nI_cl, zchk_n, zchk_l, zb_s, zb2_s, zb3_s, zb3_e, zput_e, zjoin_e, zs_hit, zs_miss, nle_t, nle_f, nlt_t, nlt_f, neq_t, neq_f, ↓reduceIte, and_self, and_true, true_and, and_false, false_and, not_true_eq_false, not_false_eq_true, Nat.add_zero, show fX12_those 3 (zset g 493 0 0) = _ from this]
    · refine one (zbs (fun l => ((zSB S).2.1 l).2.2.2.2.2.2) (zSB S).1) (fun g e => ?_) (fun g e => ?_)
      · unfold fX11_count; simp (disch := omega) only [nL_lt, nL_gt, nL_le, nL_ge, nL_eq, nL_qe, nI_ltI, nI_leI, nI_eq, nL_add, nL_dda, nI_add, nL_sub, pk_sub, nL_mul, nL_clamp, nI_cl, zchk_n, zchk_l, zb_s, zb2_s, zb3_s, zb3_e, zput_e, zjoin_e, zs_hit, zs_miss, nle_t, nle_f, nlt_t, nlt_f, neq_t, neq_f, ↓reduceIte, and_self, and_true, true_and, and_false, false_and, not_true_eq_false, not_false_eq_true, Nat.add_zero, c_hotSet e.2.2.2.1.1 h8]
      · have e0 := e.thr hS 0
        have := r_those hS e0 4 (fun l => ((zSB S).2.1 l).2.2.2.2.2.2) (fun l hl => by rw [r_of hS e0 hl (by omega), (e0.letter hl).2.2.2.2.2.2])
        unfold fX12_count; simp (disch := omega) only [nL_lt, nL_gt, nL_le, nL_ge, nL_eq, nL_qe, nI_ltI, nI_leI, nI_eq, nL_add, nL_dda, nI_add, nL_sub, pk_sub, nL_mul, nL_clamp, nI_cl, zchk_n, zchk_l, zb_s, zb2_s, zb3_s, zb3_e, zput_e, zjoin_e, zs_hit, zs_miss, nle_t, nle_f, nlt_t, nlt_f, neq_t, neq_f, ↓reduceIte, and_self, and_true, true_and, and_false, false_and, not_true_eq_false, not_false_eq_true, Nat.add_zero, show fX12_those 4 (zset g 493 0 0) = _ from this]
    · refine one (zSB S).2.2.2.2 (fun g e => ?_) (fun g e => ?_)
      · unfold fX11_count; simp (disch := omega) only [nL_lt, nL_gt, nL_le, nL_ge, nL_eq, nL_qe, nI_ltI, nI_leI, nI_eq, nL_add, nL_dda, nI_add, nL_sub, pk_sub, nL_mul, nL_clamp, nI_cl, zchk_n, zchk_l, zb_s, zb2_s, zb3_s, zb3_e, zput_e, zjoin_e, zs_hit, zs_miss, nle_t, nle_f, nlt_t, nlt_f, neq_t, neq_f, ↓reduceIte, and_self, and_true, true_and, and_false, false_and, not_true_eq_false, not_false_eq_true, Nat.add_zero, show g 3 4 = _ from e.2.2.2.1.1.2.2.2.2]
      · unfold fX12_count; simp (disch := omega) only [nL_lt, nL_gt, nL_le, nL_ge, nL_eq, nL_qe, nI_ltI, nI_leI, nI_eq, nL_add, nL_dda, nI_add, nL_sub, pk_sub, nL_mul, nL_clamp, nI_cl, zchk_n, zchk_l, zb_s, zb2_s, zb3_s, zb3_e, zput_e, zjoin_e, zs_hit, zs_miss, nle_t, nle_f, nlt_t, nlt_f, neq_t, neq_f, ↓reduceIte, and_self, and_true, true_and, and_false, false_and, not_true_eq_false, not_false_eq_true, Nat.add_zero, show g 494 6 = _ from by have := e.2.2.2.1.1.2.2.2.2; simpa using this]
    · refine one (nI S.2.2.2.2.2.2.1) (fun g e => ?_) (fun g e => ?_)
      · unfold fX11_count; simp (disch := omega) only [nL_lt, nL_gt, nL_le, nL_ge, nL_eq, nL_qe, nI_ltI, nI_leI, nI_eq, nL_add, nL_dda, nI_add, nL_sub, pk_sub, nL_mul, nL_clamp, nI_cl, zchk_n, zchk_l, zb_s, zb2_s, zb3_s, zb3_e, zput_e, zjoin_e, zs_hit, zs_miss, nle_t, nle_f, nlt_t, nlt_f, neq_t, neq_f, ↓reduceIte, and_self, and_true, true_and, and_false, false_and, not_true_eq_false, not_false_eq_true, Nat.add_zero, e.2.2.2.2.2.2.2.1]
      · unfold fX12_count; simp (disch := omega) only [nL_lt, nL_gt, nL_le, nL_ge, nL_eq, nL_qe, nI_ltI, nI_leI, nI_eq, nL_add, nL_dda, nI_add, nL_sub, pk_sub, nL_mul, nL_clamp, nI_cl, zchk_n, zchk_l, zb_s, zb2_s, zb3_s, zb3_e, zput_e, zjoin_e, zs_hit, zs_miss, nle_t, nle_f, nlt_t, nlt_f, neq_t, neq_f, ↓reduceIte, and_self, and_true, true_and, and_false, false_and, not_true_eq_false, not_false_eq_true, Nat.add_zero, e.2.2.2.2.2.2.1]
theorem m_fault {S : zS} (hS : zSW S) : zAskN S fX11_fault fX12_fault := ⟨S.2.2.1, fun g e => by unfold fX11_fault; rw [e.2.2.1], fun g e => ⟨zset g 493 0 0, by unfold fX12_fault; simp (disch := omega) only [nL_lt, nL_gt, nL_le, nL_ge, nL_eq, nL_qe, nI_ltI, nI_leI, nI_eq, nL_add, nL_dda, nI_add, nL_sub, pk_sub, nL_mul, nL_clamp, nI_cl, zchk_n, zchk_l, zb_s, zb2_s, zb3_s, zb3_e, zput_e, zjoin_e, zs_hit, zs_miss, nle_t, nle_f, nlt_t, nlt_f, neq_t, neq_f, ↓reduceIte, and_self, and_true, true_and, and_false, false_and, not_true_eq_false, not_false_eq_true, Nat.add_zero, e.2.2.1], zFR.thr⟩⟩
