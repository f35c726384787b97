/-! more calls that ask of LETTERS as they are -/
/-- two LETTERS, and not the same -/
theorem zAsk2 {S : zS} (hS : zSW S) {f : Int32 → Int32 → zM → Option (Except Nat Int32 × zM)} {fm : Int32 → Int32 → zM → Option (Int32 × zM)} (v w : Int32)
    (c1 : ∀ g, zCI S g → zbad (zSB S).1 v → f v w g = some (.error 1, g)) (c2 : ∀ g l, zCI S g → l < (zSB S).1 → zbad (zSB S).1 w → f (nI l) w g = some (.error 1, g)) (c3 : ∀ g l, zCI S g → l < (zSB S).1 → f (nI l) (nI l) g = some (.error 2, g))
    (r1 : ∀ g, zRI S g → zbad (zSB S).1 v → fm v w g = some (0, zset (zset g 493 0 0) 493 0 1)) (r2 : ∀ g l, zRI S g → l < (zSB S).1 → zbad (zSB S).1 w → fm (nI l) w g = some (0, zset (zset g 493 0 0) 493 0 1)) (r3 : ∀ g l, zRI S g → l < (zSB S).1 → fm (nI l) (nI l) g = some (0, zset (zset g 493 0 0) 493 0 2))
    (ok : ∀ l m, l < (zSB S).1 → m < (zSB S).1 → l ≠ m → zAsk [1, 2] S (f (nI l) (nI m)) (fm (nI l) (nI m))) : zAsk [1, 2] S (f v w) (fm v w) := by
  rcases zix v (zsz hS) with h | ⟨l, hl, rfl⟩
  · exact ⟨.error 1, fun g e => ⟨g, c1 g e h, .refl⟩, fun g e => zRa_err2 (t := 1) (b := 0) (r1 g e h) (by decide)⟩
  rcases zix w (zsz hS) with h | ⟨m, hm, rfl⟩
  · exact ⟨.error 1, fun g e => ⟨g, c2 g l e hl h, .refl⟩, fun g e => zRa_err2 (t := 1) (b := 0) (r2 g l e hl h) (by decide)⟩
  by_cases q : l = m
  · subst q
    exact ⟨.error 2, fun g e => ⟨g, c3 g l e hl, .refl⟩, fun g e => zRa_err2 (t := 2) (b := 0) (r3 g l e hl) (by decide)⟩
  · exact ok l m hl hm q
theorem nI_ne {S : zS} (hS : zSW S) {l m : Nat} (hl : l < (zSB S).1) (hm : m < (zSB S).1) (h : l ≠ m) : ¬ nI l = nI m := by
  have := hS.eight
  rw [nI_eq (by omega) (by omega)]
  exact h
theorem m_common {S : zS} (hS : zSW S) (v w : Int32) : zAsk [1, 2] S (fX11_common v w) (fX12_common v w) := by
  refine zAsk2 hS v w (fun g e h => ?_) (fun g l e hl h => ?_) (fun g l e hl => ?_) (fun g e h => ?_) (fun g l e hl h => ?_) (fun g l e hl => ?_) (fun l m hl hm hlm => ?_)
  · unfold fX11_common; rw [c_mailOf_no e h, zb3_e]
  · unfold fX11_common; rw [c_mailOf hS e hl, zb3_s, c_mailOf_no e h, zb3_e]
  · unfold fX11_common fX11_needTwo; rw [c_mailOf hS e hl, zb3_s, c_mailOf hS e hl, zb3_s, if_pos rfl, zb3_e]
  · unfold fX12_common; simp only [zb_s, zb2_s, zb3_s, zb3_e, zjoin_e, zput_e, r_thr0, r_thr1, zi10, zi01, if_true, if_false, r_noLetter_no hS (e.thr hS 0) h]
  · unfold fX12_common; simp only [zb_s, zb2_s, zb3_s, zb3_e, zjoin_e, zput_e, r_thr0, r_thr1, zi10, zi01, if_true, if_false, r_noLetter hS (e.thr hS 0) hl, r_noLetter_no hS (e.thr hS 0) h]
  · unfold fX12_common; simp only [zb_s, zb2_s, zb3_s, zb3_e, zjoin_e, zput_e, r_thr0, r_thr1, zi10, zi01, if_true, if_false, r_noLetter hS (e.thr hS 0) hl]
  have hL := hS.letter hl
  have h24 := hL.2.1
  have hM := hS.letter hm
  have h25 := hM.2.1
  refine ⟨.ok (zfo (fun i a => zfo (fun j a => zmx a (nI (zal ((zSB S).2.1 l) i ((zSB S).2.1 m) j))) ((zSB S).2.1 m).1 0 a) ((zSB S).2.1 l).1 0 0), fun g e => ⟨g, ?_, .refl⟩, fun g e => zRa_ok (g1 := zset g 493 0 0) ?_ .refl⟩
  · have eL := e.mail hl
    have eM := e.mail hm
    unfold fX11_common fX11_needTwo
    rw [c_mailOf hS e hl, zb3_s, c_mailOf hS e hm, zb3_s, if_neg (nI_ne hS hl hm hlm), zb3_s]
    refine zL_F0 (fun n i a => fX11_common_L24 (4 + 1 + 3 * l) (4 + 1 + 3 * m) g n a (nI i)) (fun i a => zfo (fun j a => zmx a (nI (zal ((zSB S).2.1 l) i ((zSB S).2.1 m) j))) ((zSB S).2.1 m).1 0 a) ((zSB S).2.1 l).1 (fun a => some (.ok a, g)) 0 (by omega) (fun n i a hi => ?_) (fun n a => ?_)
    · simp only [fX11_common_L24, eL.1]
      simp (disch := omega) only [nL_lt, nL_gt, nL_le, nL_ge, nL_eq, nL_qe, nI_ltI, nI_leI, nI_eq, nL_add, nL_dda, nI_add, nL_sub, pk_sub, nL_mul, nL_clamp, nI_cl, zchk_n, zchk_l, zb_s, zb2_s, zb3_s, zb3_e, zput_e, zjoin_e, zs_hit, zs_miss, nle_t, nle_f, nlt_t, nlt_f, neq_t, neq_f, ↓reduceIte, and_self, and_true, true_and, and_false, false_and, not_true_eq_false, not_false_eq_true, Nat.add_zero]
      refine zL_F0 (fun n j a => fX11_common_L36 (4 + 1 + 3 * l) (4 + 1 + 3 * m) (nI i) g _ n a (nI j)) (fun j a => zmx a (nI (zal ((zSB S).2.1 l) i ((zSB S).2.1 m) j))) ((zSB S).2.1 m).1 (fun a => fX11_common_L24 (4 + 1 + 3 * l) (4 + 1 + 3 * m) g n a (nI (i + 1))) a (by omega) (fun n j a hj => ?_) (fun n a => ?_)
      · simp only [fX11_common_L36, eM.1]
        rw [c_alike eL eM hL hM (by omega) (by omega)]
        simp (disch := omega) only [nL_lt, nL_gt, nL_le, nL_ge, nL_eq, nL_qe, nI_ltI, nI_leI, nI_eq, nL_add, nL_dda, nI_add, nL_sub, pk_sub, nL_mul, nL_clamp, nI_cl, zchk_n, zchk_l, zb_s, zb2_s, zb3_s, zb3_e, zput_e, zjoin_e, zs_hit, zs_miss, nle_t, nle_f, nlt_t, nlt_f, neq_t, neq_f, ↓reduceIte, and_self, and_true, true_and, and_false, false_and, not_true_eq_false, not_false_eq_true, Nat.add_zero]
        rfl
      · simp only [fX11_common_L36, eM.1]
        simp (disch := omega) only [nL_lt, nL_gt, nL_le, nL_ge, nL_eq, nL_qe, nI_ltI, nI_leI, nI_eq, nL_add, nL_dda, nI_add, nL_sub, pk_sub, nL_mul, nL_clamp, nI_cl, zchk_n, zchk_l, zb_s, zb2_s, zb3_s, zb3_e, zput_e, zjoin_e, zs_hit, zs_miss, nle_t, nle_f, nlt_t, nlt_f, neq_t, neq_f, ↓reduceIte, and_self, and_true, true_and, and_false, false_and, not_true_eq_false, not_false_eq_true, Nat.add_zero]
    · simp only [fX11_common_L24, eL.1]
      simp (disch := omega) only [nL_lt, nL_gt, nL_le, nL_ge, nL_eq, nL_qe, nI_ltI, nI_leI, nI_eq, nL_add, nL_dda, nI_add, nL_sub, pk_sub, nL_mul, nL_clamp, nI_cl, zchk_n, zchk_l, zb_s, zb2_s, zb3_s, zb3_e, zput_e, zjoin_e, zs_hit, zs_miss, nle_t, nle_f, nlt_t, nlt_f, neq_t, neq_f, ↓reduceIte, and_self, and_true, true_and, and_false, false_and, not_true_eq_false, not_false_eq_true, Nat.add_zero]
  · have e' := e.thr hS 0
    unfold fX12_common
    simp only [zb_s, zb2_s, zb3_s, zb3_e, zjoin_e, zput_e, r_thr0, r_thr1, zi10, zi01, if_true, if_false, r_noLetter hS e' hl, r_noLetter hS e' hm, nI_ne hS hl hm hlm]
    refine zL_F0 (fun n i a => fX12_common_L59 (nI l) (nI m) (zset g 493 0 0) n a (nI i)) (fun i a => zfo (fun j a => zmx a (nI (zal ((zSB S).2.1 l) i ((zSB S).2.1 m) j))) ((zSB S).2.1 m).1 0 a) ((zSB S).2.1 l).1 (fun a => some (a, zset g 493 0 0)) 0 (by omega) (fun n i a hi => ?_) (fun n a => ?_)
    · simp only [fX12_common_L59, r_lines hS e' hl, zb_s]
      simp (disch := omega) only [nL_lt, nL_gt, nL_le, nL_ge, nL_eq, nL_qe, nI_ltI, nI_leI, nI_eq, nL_add, nL_dda, nI_add, nL_sub, pk_sub, nL_mul, nL_clamp, nI_cl, zchk_n, zchk_l, zb_s, zb2_s, zb3_s, zb3_e, zput_e, zjoin_e, zs_hit, zs_miss, nle_t, nle_f, nlt_t, nlt_f, neq_t, neq_f, ↓reduceIte, and_self, and_true, true_and, and_false, false_and, not_true_eq_false, not_false_eq_true, Nat.add_zero]
      refine zL_F0 (fun n j a => fX12_common_L72 (nI l) (nI m) (nI i) (zset g 493 0 0) _ n a (nI j)) (fun j a => zmx a (nI (zal ((zSB S).2.1 l) i ((zSB S).2.1 m) j))) ((zSB S).2.1 m).1 (fun a => fX12_common_L59 (nI l) (nI m) (zset g 493 0 0) n a (nI (i + 1))) a (by omega) (fun n j a hj => ?_) (fun n a => ?_)
      · simp only [fX12_common_L72, r_lines hS e' hm, zb_s]
        rw [r_alike hS e' hl hm (by omega) (by omega)]
        simp (disch := omega) only [nL_lt, nL_gt, nL_le, nL_ge, nL_eq, nL_qe, nI_ltI, nI_leI, nI_eq, nL_add, nL_dda, nI_add, nL_sub, pk_sub, nL_mul, nL_clamp, nI_cl, zchk_n, zchk_l, zb_s, zb2_s, zb3_s, zb3_e, zput_e, zjoin_e, zs_hit, zs_miss, nle_t, nle_f, nlt_t, nlt_f, neq_t, neq_f, ↓reduceIte, and_self, and_true, true_and, and_false, false_and, not_true_eq_false, not_false_eq_true, Nat.add_zero]
        rfl
      · simp only [fX12_common_L72, r_lines hS e' hm, zb_s]
        simp (disch := omega) only [nL_lt, nL_gt, nL_le, nL_ge, nL_eq, nL_qe, nI_ltI, nI_leI, nI_eq, nL_add, nL_dda, nI_add, nL_sub, pk_sub, nL_mul, nL_clamp, nI_cl, zchk_n, zchk_l, zb_s, zb2_s, zb3_s, zb3_e, zput_e, zjoin_e, zs_hit, zs_miss, nle_t, nle_f, nlt_t, nlt_f, neq_t, neq_f, ↓reduceIte, and_self, and_true, true_and, and_false, false_and, not_true_eq_false, not_false_eq_true, Nat.add_zero]
    · simp only [fX12_common_L59, r_lines hS e' hl, zb_s]
      simp (disch := omega) only [nL_lt, nL_gt, nL_le, nL_ge, nL_eq, nL_qe, nI_ltI, nI_leI, nI_eq, nL_add, nL_dda, nI_add, nL_sub, pk_sub, nL_mul, nL_clamp, nI_cl, zchk_n, zchk_l, zb_s, zb2_s, zb3_s, zb3_e, zput_e, zjoin_e, zs_hit, zs_miss, nle_t, nle_f, nlt_t, nlt_f, neq_t, neq_f, ↓reduceIte, and_self, and_true, true_and, and_false, false_and, not_true_eq_false, not_false_eq_true, Nat.add_zero]
/-- the first LINE in which two are unlike -/
def zun (L M : zL) : Option Nat := match zff (fun i => decide (L.2.1 i ≠ M.2.1 i)) (min L.1 M.1) with
  | some i => some i
  | none => if L.1 = M.1 then none else some (min L.1 M.1)
theorem c_unlike {g : zM} {h r : Nat} {L M : zL} (e : zCM g h L) (e2 : zCM g r M) (hL : zLW L) (hM : zLW M) : fX3_firstUnlike h r g = some (zoi (zun L M)) := by
  have h1 := hL.2.1
  have h2 := hM.2.1
  have hmax : (if g h 2 < g r 2 then g r 2 else g h 2) = nI (max L.1 M.1) := by
    rw [e.1, e2.1]
    by_cases q : L.1 < M.1
    · rw [show max L.1 M.1 = M.1 from by omega]; simp (disch := omega) only [nL_lt, nL_gt, nL_le, nL_ge, nL_eq, nL_qe, nI_ltI, nI_leI, nI_eq, nL_add, nL_dda, nI_add, nL_sub, pk_sub, nL_mul, nL_clamp, nI_cl, zchk_n, zchk_l, zb_s, zb2_s, zb3_s, zb3_e, zput_e, zjoin_e, zs_hit, zs_miss, nle_t, nle_f, nlt_t, nlt_f, neq_t, neq_f, ↓reduceIte, and_self, and_true, true_and, and_false, false_and, not_true_eq_false, not_false_eq_true, Nat.add_zero]
    · rw [show max L.1 M.1 = L.1 from by omega]; simp (disch := omega) only [nL_lt, nL_gt, nL_le, nL_ge, nL_eq, nL_qe, nI_ltI, nI_leI, nI_eq, nL_add, nL_dda, nI_add, nL_sub, pk_sub, nL_mul, nL_clamp, nI_cl, zchk_n, zchk_l, zb_s, zb2_s, zb3_s, zb3_e, zput_e, zjoin_e, zs_hit, zs_miss, nle_t, nle_f, nlt_t, nlt_f, neq_t, neq_f, ↓reduceIte, and_self, and_true, true_and, and_false, false_and, not_true_eq_false, not_false_eq_true, Nat.add_zero]
  unfold fX3_firstUnlike
  rw [hmax]
  refine zL_Q0 (fun n i (_ : Unit) => fX3_firstUnlike_L14 h r (nI (max L.1 M.1)) g n (nI i)) (fun i _ => i ≤ min L.1 M.1 ∧ ∀ j, j < i → decide (L.2.1 j ≠ M.2.1 j) = false) (max L.1 M.1) (fun x => x = some (zoi (zun L M))) () (by omega) ⟨by omega, fun j hj => absurd hj (by omega)⟩ (fun m i s hi hh => ?_) (fun m s hh => ?_)
  · obtain ⟨b1, b2⟩ := hh
    simp only [fX3_firstUnlike_L14]
    by_cases q : i < min L.1 M.1
    · have k1 := hL.2.2 i (by omega)
      have k2 := hM.2.2 i (by omega)
      rw [c_kindAt e (by omega) h1, c_kindAt e2 (by omega) h2]
      by_cases q2 : L.2.1 i = M.2.1 i
      · right
        refine ⟨(), ⟨by omega, fun j hj => ?_⟩, ?_⟩
        · rcases Nat.lt_succ_iff_lt_or_eq.mp hj with q3 | q3
          · exact b2 j q3
          · rw [q3]; simp [q2]
        · simp (disch := omega) only [nL_lt, nL_gt, nL_le, nL_ge, nL_eq, nL_qe, nI_ltI, nI_leI, nI_eq, nL_add, nL_dda, nI_add, nL_sub, pk_sub, nL_mul, nL_clamp, nI_cl, zchk_n, zchk_l, zb_s, zb2_s, zb3_s, zb3_e, zput_e, zjoin_e, zs_hit, zs_miss, nle_t, nle_f, nlt_t, nlt_f, neq_t, neq_f, ↓reduceIte, and_self, and_true, true_and, and_false, false_and, not_true_eq_false, not_false_eq_true, Nat.add_zero]
      · left
        simp (disch := omega) only [nL_lt, nL_gt, nL_le, nL_ge, nL_eq, nL_qe, nI_ltI, nI_leI, nI_eq, nL_add, nL_dda, nI_add, nL_sub, pk_sub, nL_mul, nL_clamp, nI_cl, zchk_n, zchk_l, zb_s, zb2_s, zb3_s, zb3_e, zput_e, zjoin_e, zs_hit, zs_miss, nle_t, nle_f, nlt_t, nlt_f, neq_t, neq_f, ↓reduceIte, and_self, and_true, true_and, and_false, false_and, not_true_eq_false, not_false_eq_true, Nat.add_zero]
        unfold zun
        rw [zff_some q b2 (by simp [q2])]
        rfl
    · left
      have hi2 : i = min L.1 M.1 := by omega
      have hne : L.1 ≠ M.1 := by omega
      have hz : zun L M = some (min L.1 M.1) := by
        unfold zun
        rw [← hi2, zff_none b2]
        simp only [hne, if_false]
      rw [hz, ← hi2]
      by_cases q2 : L.1 < M.1
      · have k2 := hM.2.2 i (by omega)
        rw [c_kindAt_out e (by omega) (by omega), c_kindAt e2 (by omega) h2]
        simp (disch := omega) only [nL_lt, nL_gt, nL_le, nL_ge, nL_eq, nL_qe, nI_ltI, nI_leI, nI_eq, nL_add, nL_dda, nI_add, nL_sub, pk_sub, nL_mul, nL_clamp, nI_cl, zchk_n, zchk_l, zb_s, zb2_s, zb3_s, zb3_e, zput_e, zjoin_e, zs_hit, zs_miss, nle_t, nle_f, nlt_t, nlt_f, neq_t, neq_f, ↓reduceIte, and_self, and_true, true_and, and_false, false_and, not_true_eq_false, not_false_eq_true, Nat.add_zero, m1_nI]
        rfl
      · have k2 := hL.2.2 i (by omega)
        rw [c_kindAt e (by omega) h1, c_kindAt_out e2 (by omega) (by omega)]
        simp (disch := omega) only [nL_lt, nL_gt, nL_le, nL_ge, nL_eq, nL_qe, nI_ltI, nI_leI, nI_eq, nL_add, nL_dda, nI_add, nL_sub, pk_sub, nL_mul, nL_clamp, nI_cl, zchk_n, zchk_l, zb_s, zb2_s, zb3_s, zb3_e, zput_e, zjoin_e, zs_hit, zs_miss, nle_t, nle_f, nlt_t, nlt_f, neq_t, neq_f, ↓reduceIte, and_self, and_true, true_and, and_false, false_and, not_true_eq_false, not_false_eq_true, Nat.add_zero, nI_m1]
        rfl
  · obtain ⟨b1, b2⟩ := hh
    simp only [fX3_firstUnlike_L14]
    simp (disch := omega) only [nL_lt, nL_gt, nL_le, nL_ge, nL_eq, nL_qe, nI_ltI, nI_leI, nI_eq, nL_add, nL_dda, nI_add, nL_sub, pk_sub, nL_mul, nL_clamp, nI_cl, zchk_n, zchk_l, zb_s, zb2_s, zb3_s, zb3_e, zput_e, zjoin_e, zs_hit, zs_miss, nle_t, nle_f, nlt_t, nlt_f, neq_t, neq_f, ↓reduceIte, and_self, and_true, true_and, and_false, false_and, not_true_eq_false, not_false_eq_true, Nat.add_zero]
    have hz : zun L M = none := by
      unfold zun
      rw [zff_none (fun j hj => b2 j (by omega))]
      simp only [show L.1 = M.1 from by omega, if_true]
    rw [hz]
    rfl
theorem m_part {S : zS} (hS : zSW S) (v w : Int32) : zAsk [1, 2] S (fX11_part v w) (fX12_part v w) := by
  refine zAsk2 hS v w (fun g e h => ?_) (fun g l e hl h => ?_) (fun g l e hl => ?_) (fun g e h => ?_) (fun g l e hl h => ?_) (fun g l e hl => ?_) (fun l m hl hm hlm => ?_)
  · unfold fX11_part; rw [c_mailOf_no e h, zb3_e]
  · unfold fX11_part; rw [c_mailOf hS e hl, zb3_s, c_mailOf_no e h, zb3_e]
  · unfold fX11_part fX11_needTwo; rw [c_mailOf hS e hl, zb3_s, c_mailOf hS e hl, zb3_s, if_pos rfl, zb3_e]
  · unfold fX12_part; simp only [zb_s, zb2_s, zb3_s, zb3_e, zjoin_e, zput_e, r_thr0, r_thr1, zi10, zi01, if_true, if_false, r_noLetter_no hS (e.thr hS 0) h]
  · unfold fX12_part; simp only [zb_s, zb2_s, zb3_s, zb3_e, zjoin_e, zput_e, r_thr0, r_thr1, zi10, zi01, if_true, if_false, r_noLetter hS (e.thr hS 0) hl, r_noLetter_no hS (e.thr hS 0) h]
  · unfold fX12_part; simp only [zb_s, zb2_s, zb3_s, zb3_e, zjoin_e, zput_e, r_thr0, r_thr1, zi10, zi01, if_true, if_false, r_noLetter hS (e.thr hS 0) hl]
  have hL := hS.letter hl
  have h24 := hL.2.1
  have hM := hS.letter hm
  have h25 := hM.2.1
  refine ⟨.ok (zoi (zun ((zSB S).2.1 l) ((zSB S).2.1 m))), fun g e => ⟨g, ?_, .refl⟩, fun g e => zRa_ok (g1 := zset g 493 0 0) ?_ .refl⟩
  · unfold fX11_part fX11_needTwo
    rw [c_mailOf hS e hl, zb3_s, c_mailOf hS e hm, zb3_s, if_neg (nI_ne hS hl hm hlm), zb3_s, c_unlike (e.mail hl) (e.mail hm) hL hM, zb_s]
  · have e' := e.thr hS 0
    have k1 : ∀ x, x < ((zSB S).2.1 l).1 → fX12_kindOf (nI l) (nI x) (zset g 493 0 0) = some (nI (((zSB S).2.1 l).2.1 x)) := fun x hx => r_kindOf hS e' hl hx
    have k2 : ∀ x, x < ((zSB S).2.1 m).1 → fX12_kindOf (nI m) (nI x) (zset g 493 0 0) = some (nI (((zSB S).2.1 m).2.1 x)) := fun x hx => r_kindOf hS e' hm hx
    have l1 := r_lines hS e' hl
    have l2 := r_lines hS e' hm
    unfold fX12_part
    simp only [zb_s, zb2_s, zb3_s, zb3_e, zjoin_e, zput_e, r_thr0, r_thr1, zi10, zi01, if_true, if_false, r_noLetter hS e' hl, r_noLetter hS e' hm, nI_ne hS hl hm hlm, l1, l2]
    generalize (zSB S).2.1 l = L at *
    generalize (zSB S).2.1 m = M at *
    have hmin : (if nI M.1 < nI L.1 then nI M.1 else nI L.1) = nI (min L.1 M.1) := by
      by_cases q : M.1 < L.1
      · rw [show min L.1 M.1 = M.1 from by omega]; simp (disch := omega) only [nL_lt, nL_gt, nL_le, nL_ge, nL_eq, nL_qe, nI_ltI, nI_leI, nI_eq, nL_add, nL_dda, nI_add, nL_sub, pk_sub, nL_mul, nL_clamp, nI_cl, zchk_n, zchk_l, zb_s, zb2_s, zb3_s, zb3_e, zput_e, zjoin_e, zs_hit, zs_miss, nle_t, nle_f, nlt_t, nlt_f, neq_t, neq_f, ↓reduceIte, and_self, and_true, true_and, and_false, false_and, not_true_eq_false, not_false_eq_true, Nat.add_zero]
      · rw [show min L.1 M.1 = L.1 from by omega]; simp (disch := omega) only [nL_lt, nL_gt, nL_le, nL_ge, nL_eq, nL_qe, nI_ltI, nI_leI, nI_eq, nL_add, nL_dda, nI_add, nL_sub, pk_sub, nL_mul, nL_clamp, nI_cl, zchk_n, zchk_l, zb_s, zb2_s, zb3_s, zb3_e, zput_e, zjoin_e, zs_hit, zs_miss, nle_t, nle_f, nlt_t, nlt_f, neq_t, neq_f, ↓reduceIte, and_self, and_true, true_and, and_false, false_and, not_true_eq_false, not_false_eq_true, Nat.add_zero]
    rw [hmin]
    refine Eq.trans (zL_P (fun n k => fX12_part_L71 (nI l) (nI m) (nI (min L.1 M.1)) (zset g 493 0 0) _ n (nI k)) (fun i => decide (L.2.1 i ≠ M.2.1 i)) (min L.1 M.1) (fun k => some (nI k, zset g 493 0 0)) (if nI L.1 = nI M.1 then some (-1, zset g 493 0 0) else some (nI (min L.1 M.1), zset g 493 0 0)) (by omega) (fun n k hk => ?_) (fun n => ?_)) ?_
    · have b1 := hL.2.2 k (by omega)
      have b2 := hM.2.2 k (by omega)
      simp only [fX12_part_L71]
      rw [k1 _ (by omega), k2 _ (by omega)]
      simp (disch := omega) only [nL_lt, nL_gt, nL_le, nL_ge, nL_eq, nL_qe, nI_ltI, nI_leI, nI_eq, nL_add, nL_dda, nI_add, nL_sub, pk_sub, nL_mul, nL_clamp, nI_cl, zchk_n, zchk_l, zb_s, zb2_s, zb3_s, zb3_e, zput_e, zjoin_e, zs_hit, zs_miss, nle_t, nle_f, nlt_t, nlt_f, neq_t, neq_f, ↓reduceIte, and_self, and_true, true_and, and_false, false_and, not_true_eq_false, not_false_eq_true, Nat.add_zero]
      by_cases q : L.2.1 k = M.2.1 k <;> simp [q]
    · simp only [fX12_part_L71]
      simp (disch := omega) only [nL_lt, nL_gt, nL_le, nL_ge, nL_eq, nL_qe, nI_ltI, nI_leI, nI_eq, nL_add, nL_dda, nI_add, nL_sub, pk_sub, nL_mul, nL_clamp, nI_cl, zchk_n, zchk_l, zb_s, zb2_s, zb3_s, zb3_e, zput_e, zjoin_e, zs_hit, zs_miss, nle_t, nle_f, nlt_t, nlt_f, neq_t, neq_f, ↓reduceIte, and_self, and_true, true_and, and_false, false_and, not_true_eq_false, not_false_eq_true, Nat.add_zero]
    · unfold zun
      cases zff (fun i => decide (L.2.1 i ≠ M.2.1 i)) (min L.1 M.1) with
      | some i => rfl
      | none =>
        simp only
        have hq : nI L.1 = nI M.1 ↔ L.1 = M.1 := nI_eq (by omega) (by omega)
        by_cases q : L.1 = M.1 <;> simp [hq, q, zoi]
/-- whether a LINE of THE LAW leads from a to b -/
def zled (W : zLw) (a b : Nat) : Bool := (zff (fun i => decide (W.2.1 i = a) && decide (W.2.2.1 i = b)) W.1).isSome
theorem c_leads {g : zM} {W : zLw} (hW : zWW W) (e : zCL g 29 W) {a b : Nat} (ha : a < 12) (hb : b < 12) : fX1_leads 29 (nI a) (nI b) g = some (zbi (zled W a b)) := by
  have h12 := hW.1
  unfold fX1_leads zled
  refine Eq.trans (zL_P (fun n i => fX1_leads_L2 29 (nI a) (nI b) g n (nI i)) (fun i => decide (W.2.1 i = a) && decide (W.2.2.1 i = b)) W.1 (fun _ => some 1) (some 0) (by omega) (fun n i hi => ?_) (fun n => ?_)) ?_
  · have c1 : g 30 i = nI (W.2.1 i) := (e.2.1 i hi).1
    have c2 : g 31 i = nI (W.2.2.1 i) := (e.2.1 i hi).2.1
    have k1 := (hW.2.2.1 i hi).1
    have k2 := (hW.2.2.1 i hi).2.1
    simp only [fX1_leads_L2, e.1, Nat.reduceAdd]
    simp (disch := omega) only [nL_lt, nL_gt, nL_le, nL_ge, nL_eq, nL_qe, nI_ltI, nI_leI, nI_eq, nL_add, nL_dda, nI_add, nL_sub, pk_sub, nL_mul, nL_clamp, nI_cl, zchk_n, zchk_l, zb_s, zb2_s, zb3_s, zb3_e, zput_e, zjoin_e, zs_hit, zs_miss, nle_t, nle_f, nlt_t, nlt_f, neq_t, neq_f, ↓reduceIte, and_self, and_true, true_and, and_false, false_and, not_true_eq_false, not_false_eq_true, Nat.add_zero, c1, c2]
    by_cases q1 : W.2.1 i = a <;> by_cases q2 : W.2.2.1 i = b <;> simp [q1, q2]
  · simp only [fX1_leads_L2, e.1]
    simp (disch := omega) only [nL_lt, nL_gt, nL_le, nL_ge, nL_eq, nL_qe, nI_ltI, nI_leI, nI_eq, nL_add, nL_dda, nI_add, nL_sub, pk_sub, nL_mul, nL_clamp, nI_cl, zchk_n, zchk_l, zb_s, zb2_s, zb3_s, zb3_e, zput_e, zjoin_e, zs_hit, zs_miss, nle_t, nle_f, nlt_t, nlt_f, neq_t, neq_f, ↓reduceIte, and_self, and_true, true_and, and_false, false_and, not_true_eq_false, not_false_eq_true, Nat.add_zero]
  · cases zff (fun i => decide (W.2.1 i = a) && decide (W.2.2.1 i = b)) W.1 <;> rfl
theorem r_hasSense {g : zM} {W : zLw} (hW : zWW W) (e : zRL g 494 W) {a b : Nat} (ha : a < 12) (hb : b < 12) : fX12_hasSense (nI a) (nI b) g = some (zbi (zled W a b)) := by
  have h12 := hW.1
  unfold fX12_hasSense zled
  refine zL_Q0 (fun n i st => fX12_hasSense_L5 (nI a) (nI b) g n st (nI i)) (fun i st => st = zbi (zff (fun i => decide (W.2.1 i = a) && decide (W.2.2.1 i = b)) i).isSome) W.1 (fun x => x = some (zbi (zff (fun i => decide (W.2.1 i = a) && decide (W.2.2.1 i = b)) W.1).isSome)) 0 (by omega) rfl (fun n i st hi hh => ?_) (fun n st hh => ?_)
  · subst hh
    have c1 : g 494 (461 + 4 * i) = nI (W.2.1 i) := (e.2.2.1 i hi).1
    have c2 : g 494 (461 + 4 * i + 1) = nI (W.2.2.1 i) := (e.2.2.1 i hi).2.1
    have k1 := (hW.2.2.1 i hi).1
    have k2 := (hW.2.2.1 i hi).2.1
    right
    refine ⟨_, rfl, ?_⟩
    simp only [fX12_hasSense_L5, r_lawLines hW e, fX12_lawFrom, fX12_lawTo]
    rw [zff_up]
    simp (disch := omega) only [nL_lt, nL_gt, nL_le, nL_ge, nL_eq, nL_qe, nI_ltI, nI_leI, nI_eq, nL_add, nL_dda, nI_add, nL_sub, pk_sub, nL_mul, nL_clamp, nI_cl, zchk_n, zchk_l, zb_s, zb2_s, zb3_s, zb3_e, zput_e, zjoin_e, zs_hit, zs_miss, nle_t, nle_f, nlt_t, nlt_f, neq_t, neq_f, ↓reduceIte, and_self, and_true, true_and, and_false, false_and, not_true_eq_false, not_false_eq_true, Nat.add_zero, c1, c2]
    cases zff (fun i => decide (W.2.1 i = a) && decide (W.2.2.1 i = b)) i <;> by_cases q1 : W.2.1 i = a <;> by_cases q2 : W.2.2.1 i = b <;> simp [q1, q2, zbi]
  · subst hh
    simp only [fX12_hasSense_L5, r_lawLines hW e]
    simp (disch := omega) only [nL_lt, nL_gt, nL_le, nL_ge, nL_eq, nL_qe, nI_ltI, nI_leI, nI_eq, nL_add, nL_dda, nI_add, nL_sub, pk_sub, nL_mul, nL_clamp, nI_cl, zchk_n, zchk_l, zb_s, zb2_s, zb3_s, zb3_e, zput_e, zjoin_e, zs_hit, zs_miss, nle_t, nle_f, nlt_t, nlt_f, neq_t, neq_f, ↓reduceIte, and_self, and_true, true_and, and_false, false_and, not_true_eq_false, not_false_eq_true, Nat.add_zero, zbo_b]
theorem m_senseless {S : zS} (hS : zSW S) (v : Int32) : zAsk [1] S (fX11_senseless v) (fX12_senseless v) := by
  rcases zix v (zsz hS) with h | ⟨l, hl, rfl⟩
  · refine ⟨.error 1, fun g e => ⟨g, ?_, .refl⟩, fun g e => zRa_err2 (t := 1) (b := 0) ?_ (by decide)⟩
    · unfold fX11_senseless; rw [c_mailOf_no e h, zb3_e]
    · unfold fX12_senseless; simp only [zb_s, zb2_s, zb3_s, zb3_e, zjoin_e, zput_e, r_thr0, r_thr1, zi10, zi01, if_true, if_false, r_noLetter_no hS (e.thr hS 0) h]
  have hL := hS.letter hl
  have h24 := hL.2.1
  have h01 := hL.1
  refine ⟨.ok (zoi (zff (fun i => decide (1 ≤ i) && !zled (zSL S) (((zSB S).2.1 l).2.1 (i - 1)) (((zSB S).2.1 l).2.1 i)) ((zSB S).2.1 l).1)), fun g e => ⟨g, ?_, .refl⟩, fun g e => zRa_ok (g1 := zset g 493 0 0) ?_ .refl⟩
  · have eL := e.mail hl
    unfold fX11_senseless
    rw [c_mailOf hS e hl, zb3_s]
    refine Eq.trans (zL_P1 (fun n i => fX11_senseless_L8 (4 + 1 + 3 * l) g n (nI i)) (fun i => !zled (zSL S) (((zSB S).2.1 l).2.1 (i - 1)) (((zSB S).2.1 l).2.1 i)) 1 ((zSB S).2.1 l).1 (fun i => some (.ok (nI i), g)) (some (.ok (-1), g)) (by omega) h01 (fun n i h1 hi => ?_) (fun n => ?_)) ?_
    · have b1 := hL.2.2 i hi
      have b2 := hL.2.2 (i - 1) (by omega)
      simp only [fX11_senseless_L8, eL.1]
      rw [nL_sub h1, c_kindAt eL (by omega) h24, c_kindAt eL hi h24]
      simp (disch := omega) only [nL_lt, nL_gt, nL_le, nL_ge, nL_eq, nL_qe, nI_ltI, nI_leI, nI_eq, nL_add, nL_dda, nI_add, nL_sub, pk_sub, nL_mul, nL_clamp, nI_cl, zchk_n, zchk_l, zb_s, zb2_s, zb3_s, zb3_e, zput_e, zjoin_e, zs_hit, zs_miss, nle_t, nle_f, nlt_t, nlt_f, neq_t, neq_f, ↓reduceIte, and_self, and_true, true_and, and_false, false_and, not_true_eq_false, not_false_eq_true, Nat.add_zero, c_leads hS.law e.law b2 b1]
      cases zled (zSL S) (((zSB S).2.1 l).2.1 (i - 1)) (((zSB S).2.1 l).2.1 i) <;> simp [zbi]
    · simp only [fX11_senseless_L8, eL.1]
      simp (disch := omega) only [nL_lt, nL_gt, nL_le, nL_ge, nL_eq, nL_qe, nI_ltI, nI_leI, nI_eq, nL_add, nL_dda, nI_add, nL_sub, pk_sub, nL_mul, nL_clamp, nI_cl, zchk_n, zchk_l, zb_s, zb2_s, zb3_s, zb3_e, zput_e, zjoin_e, zs_hit, zs_miss, nle_t, nle_f, nlt_t, nlt_f, neq_t, neq_f, ↓reduceIte, and_self, and_true, true_and, and_false, false_and, not_true_eq_false, not_false_eq_true, Nat.add_zero]
    · cases zff (fun i => decide (1 ≤ i) && !zled (zSL S) (((zSB S).2.1 l).2.1 (i - 1)) (((zSB S).2.1 l).2.1 i)) ((zSB S).2.1 l).1 <;> rfl
  · have e' := e.thr hS 0
    unfold fX12_senseless
    simp only [zb_s, zb2_s, zb3_s, zb3_e, zjoin_e, zput_e, r_thr0, r_thr1, zi10, zi01, if_true, if_false, r_noLetter hS e' hl]
    refine Eq.trans (zL_P1 (fun n i => fX12_senseless_L22 (nI l) (zset g 493 0 0) n (nI i)) (fun i => !zled (zSL S) (((zSB S).2.1 l).2.1 (i - 1)) (((zSB S).2.1 l).2.1 i)) 1 ((zSB S).2.1 l).1 (fun i => some (nI i, zset g 493 0 0)) (some (-1, zset g 493 0 0)) (by omega) h01 (fun n i h1 hi => ?_) (fun n => ?_)) ?_
    · have b1 := hL.2.2 i hi
      have b2 := hL.2.2 (i - 1) (by omega)
      simp only [fX12_senseless_L22, r_lines hS e' hl]
      rw [nL_sub h1, r_kindOf hS e' hl (by omega), r_kindOf hS e' hl hi]
      simp (disch := omega) only [nL_lt, nL_gt, nL_le, nL_ge, nL_eq, nL_qe, nI_ltI, nI_leI, nI_eq, nL_add, nL_dda, nI_add, nL_sub, pk_sub, nL_mul, nL_clamp, nI_cl, zchk_n, zchk_l, zb_s, zb2_s, zb3_s, zb3_e, zput_e, zjoin_e, zs_hit, zs_miss, nle_t, nle_f, nlt_t, nlt_f, neq_t, neq_f, ↓reduceIte, and_self, and_true, true_and, and_false, false_and, not_true_eq_false, not_false_eq_true, Nat.add_zero, r_hasSense hS.law e'.law b2 b1]
      cases zled (zSL S) (((zSB S).2.1 l).2.1 (i - 1)) (((zSB S).2.1 l).2.1 i) <;> simp [zbi]
    · simp only [fX12_senseless_L22, r_lines hS e' hl]
      simp (disch := omega) only [nL_lt, nL_gt, nL_le, nL_ge, nL_eq, nL_qe, nI_ltI, nI_leI, nI_eq, nL_add, nL_dda, nI_add, nL_sub, pk_sub, nL_mul, nL_clamp, nI_cl, zchk_n, zchk_l, zb_s, zb2_s, zb3_s, zb3_e, zput_e, zjoin_e, zs_hit, zs_miss, nle_t, nle_f, nlt_t, nlt_f, neq_t, neq_f, ↓reduceIte, and_self, and_true, true_and, and_false, false_and, not_true_eq_false, not_false_eq_true, Nat.add_zero]
    · cases zff (fun i => decide (1 ≤ i) && !zled (zSL S) (((zSB S).2.1 l).2.1 (i - 1)) (((zSB S).2.1 l).2.1 i)) ((zSB S).2.1 l).1 <;> rfl
theorem zbs_s {p : Nat → Bool} {N : Nat} : zbs p (N + 1) = if p N = true then zbs p N ||| ((1 : Int32) <<< (nI N &&& 31)) else zbs p N := by
  unfold zbs
  rw [zfo_s]
theorem m_guess {S : zS} (hS : zSW S) (v : Int32) : zAsk [1] S (fX11_guess v) (fX12_guess v) := by
  rcases zix v (zsz hS) with h | ⟨l, hl, rfl⟩
  · refine ⟨.error 1, fun g e => ⟨g, ?_, .refl⟩, fun g e => zRa_err2 (t := 1) (b := 0) ?_ (by decide)⟩
    · unfold fX11_guess; rw [c_mailOf_no e h, zb3_e]
    · unfold fX12_guess; simp only [zb_s, zb2_s, zb3_s, zb3_e, zjoin_e, zput_e, r_thr0, r_thr1, zi10, zi01, if_true, if_false, r_noLetter_no hS (e.thr hS 0) h]
  have hL := hS.letter hl
  have h24 := hL.2.1
  have h01 := hL.1
  have hk : zlk ((zSB S).2.1 l) < 12 := hL.2.2 _ (by omega)
  refine ⟨.ok (zbs (fun k => decide ((zSV S).2.2.1 k = (zSV S).2.2.1 (zlk ((zSB S).2.1 l)))) 12), fun g e => ⟨g, ?_, .refl⟩, fun g e => ?_⟩
  · have eL := e.mail hl
    have ew : ∀ k, k < 12 → fX10_wordsFor 2 (nI k) g = some ((zSV S).2.2.1 k) := by
      intro k hk
      unfold fX10_wordsFor
      simp (disch := omega) only [nL_lt, nL_gt, nL_le, nL_ge, nL_eq, nL_qe, nI_ltI, nI_leI, nI_eq, nL_add, nL_dda, nI_add, nL_sub, pk_sub, nL_mul, nL_clamp, nI_cl, zchk_n, zchk_l, zb_s, zb2_s, zb3_s, zb3_e, zput_e, zjoin_e, zs_hit, zs_miss, nle_t, nle_f, nlt_t, nlt_f, neq_t, neq_f, ↓reduceIte, and_self, and_true, true_and, and_false, false_and, not_true_eq_false, not_false_eq_true, Nat.add_zero]
      rw [e.2.2.2.1.2.2.1 k hk]
    unfold fX11_guess
    rw [c_mailOf hS e hl, zb3_s, c_lastKind eL hL, zb_s, ew _ hk, zb_s]
    refine zL_F0 (fun n i a => fX11_guess_L21 ((zSV S).2.2.1 (zlk ((zSB S).2.1 l))) g n a (nI i)) (fun i a => if decide ((zSV S).2.2.1 i = (zSV S).2.2.1 (zlk ((zSB S).2.1 l))) = true then a ||| ((1 : Int32) <<< (nI i &&& 31)) else a) 12 (fun a => some (.ok a, g)) 0 (by omega) (fun n i a hi => ?_) (fun n a => ?_)
    · simp only [fX11_guess_L21, ew i hi]
      simp (disch := omega) only [nL_lt, nL_gt, nL_le, nL_ge, nL_eq, nL_qe, nI_ltI, nI_leI, nI_eq, nL_add, nL_dda, nI_add, nL_sub, pk_sub, nL_mul, nL_clamp, nI_cl, zchk_n, zchk_l, zb_s, zb2_s, zb3_s, zb3_e, zput_e, zjoin_e, zs_hit, zs_miss, nle_t, nle_f, nlt_t, nlt_f, neq_t, neq_f, ↓reduceIte, and_self, and_true, true_and, and_false, false_and, not_true_eq_false, not_false_eq_true, Nat.add_zero]
      by_cases q : (zSV S).2.2.1 i = (zSV S).2.2.1 (zlk ((zSB S).2.1 l)) <;> simp [q]
    · simp only [fX11_guess_L21]
      simp (disch := omega) only [nL_lt, nL_gt, nL_le, nL_ge, nL_eq, nL_qe, nI_ltI, nI_leI, nI_eq, nL_add, nL_dda, nI_add, nL_sub, pk_sub, nL_mul, nL_clamp, nI_cl, zchk_n, zchk_l, zb_s, zb2_s, zb3_s, zb3_e, zput_e, zjoin_e, zs_hit, zs_miss, nle_t, nle_f, nlt_t, nlt_f, neq_t, neq_f, ↓reduceIte, and_self, and_true, true_and, and_false, false_and, not_true_eq_false, not_false_eq_true, Nat.add_zero]
  · obtain ⟨g1, a1, a2, a3⟩ := r_looksAt hS (e.thr hS 0) hl
    have e' := e.fr hS (zFR.thr.trans a3.fr)
    refine zRa_ok (g1 := g1) ?_ a3
    unfold fX12_guess
    simp only [zb_s, zb2_s, zb3_s, zb3_e, zjoin_e, zput_e, r_thr0, r_thr1, zi10, zi01, if_true, if_false, r_noLetter hS (e.thr hS 0) hl, a1]
    refine zL_F0 (fun n i a => fX12_guess_L29 g1 n a (nI i)) (fun i a => if decide ((zSV S).2.2.1 i = (zSV S).2.2.1 (zlk ((zSB S).2.1 l))) = true then a ||| ((1 : Int32) <<< (nI i &&& 31)) else a) 12 (fun a => some (a, g1)) 0 (by omega) (fun n i a hi => ?_) (fun n a => ?_)
    · have w1 := e'.2.2.2.1.2.2.1 i hi
      have w2 := e'.2.2.2.1.2.2.1 _ hk
      simp only [fX12_guess_L29, r_last a2 hL]
      simp (disch := omega) only [nL_lt, nL_gt, nL_le, nL_ge, nL_eq, nL_qe, nI_ltI, nI_leI, nI_eq, nL_add, nL_dda, nI_add, nL_sub, pk_sub, nL_mul, nL_clamp, nI_cl, zchk_n, zchk_l, zb_s, zb2_s, zb3_s, zb3_e, zput_e, zjoin_e, zs_hit, zs_miss, nle_t, nle_f, nlt_t, nlt_f, neq_t, neq_f, ↓reduceIte, and_self, and_true, true_and, and_false, false_and, not_true_eq_false, not_false_eq_true, Nat.add_zero, w1, w2]
      by_cases q : (zSV S).2.2.1 i = (zSV S).2.2.1 (zlk ((zSB S).2.1 l)) <;> simp [q]
    · simp only [fX12_guess_L29]
      simp (disch := omega) only [nL_lt, nL_gt, nL_le, nL_ge, nL_eq, nL_qe, nI_ltI, nI_leI, nI_eq, nL_add, nL_dda, nI_add, nL_sub, pk_sub, nL_mul, nL_clamp, nI_cl, zchk_n, zchk_l, zb_s, zb2_s, zb3_s, zb3_e, zput_e, zjoin_e, zs_hit, zs_miss, nle_t, nle_f, nlt_t, nlt_f, neq_t, neq_f, ↓reduceIte, and_self, and_true, true_and, and_false, false_and, not_true_eq_false, not_false_eq_true, Nat.add_zero]
