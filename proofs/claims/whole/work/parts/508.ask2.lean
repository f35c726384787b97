/-! calls that ask of LETTERS as they are -/
theorem r_noLine {S : zS} {g : zM} (hS : zSW S) (e : zRI S g) {l x : Nat} (hl : l < (zSB S).1) (hx : x < ((zSB S).2.1 l).1) : fX12_noLine (nI l) (nI x) g = some 0 := by
  have := (hS.letter hl).2.1
  unfold fX12_noLine
  simp only [zb_s, zb2_s, zb3_s, zb3_e, zjoin_e, zput_e, r_thr0, r_thr1, zi10, zi01, if_true, if_false, r_noLetter hS e hl, r_lines hS e hl, r_inS hx (by omega)]
theorem r_noLine_no {S : zS} {g : zM} (hS : zSW S) (e : zRI S g) {l : Nat} (hl : l < (zSB S).1) {x : Int32} (hx : zbad ((zSB S).2.1 l).1 x) : fX12_noLine (nI l) x g = some 1 := by
  have := (hS.letter hl).2.1
  unfold fX12_noLine
  simp only [zb_s, zb2_s, zb3_s, zb3_e, zjoin_e, zput_e, r_thr0, r_thr1, zi10, zi01, if_true, if_false, r_noLetter hS e hl, r_lines hS e hl, r_inS_no hx (by omega)]
theorem r_noLine_no1 {S : zS} {g : zM} (hS : zSW S) (e : zRI S g) {v x : Int32} (h : zbad (zSB S).1 v) : fX12_noLine v x g = some 1 := by
  unfold fX12_noLine
  simp only [zb_s, zb2_s, zb3_s, zb3_e, zjoin_e, zput_e, r_thr0, r_thr1, zi10, zi01, if_true, if_false, r_noLetter_no hS e h]
theorem m_line {S : zS} (hS : zSW S) (v x : Int32) (b : Bool) : zAsk [1] S (fX11_line v x (zbi b)) (fX12_line v x (zbi b)) := by
  rcases zix v (zsz hS) with h | ⟨l, hl, rfl⟩
  · refine ⟨.error 1, fun g e => ⟨g, ?_, .refl⟩, fun g e => zRa_err2 (t := 1) (b := 0) ?_ (by decide)⟩
    · unfold fX11_line; rw [c_mailOf_no e h, zb3_e]
    · unfold fX12_line; simp only [zb_s, zb2_s, zb3_s, zb3_e, zjoin_e, zput_e, r_thr0, r_thr1, zi10, zi01, if_true, if_false, r_noLine_no1 hS (e.thr hS 0) h]
  have hL := hS.letter hl
  have h24 := hL.2.1
  rcases zix x (n := ((zSB S).2.1 l).1) (by omega) with h | ⟨k, hk, rfl⟩
  · refine ⟨.error 1, fun g e => ⟨g, ?_, .refl⟩, fun g e => zRa_err2 (t := 1) (b := 0) ?_ (by decide)⟩
    · unfold fX11_line; rw [c_mailOf hS e hl, zb3_s, c_needLine_no (e.mail hl) h, zb3_e]
    · unfold fX12_line; simp only [zb_s, zb2_s, zb3_s, zb3_e, zjoin_e, zput_e, r_thr0, r_thr1, zi10, zi01, if_true, if_false, r_noLine_no hS (e.thr hS 0) hl h]
  · refine ⟨.ok (if b = true then ((zSB S).2.1 l).2.2.1 k else nI (((zSB S).2.1 l).2.1 k)), fun g e => ⟨g, ?_, .refl⟩, fun g e => zRa_ok (g1 := zset g 493 0 0) ?_ .refl⟩
    · unfold fX11_line
      rw [c_mailOf hS e hl, zb3_s, c_needLine (e.mail hl) h24 hk, zb3_s, c_kindAt (e.mail hl) hk h24, c_weekAt (e.mail hl) hk h24]
      cases b <;> simp [zbi, zb]
    · have e' := e.thr hS 0
      have h5 : fX12_of (nI l) (5 + nI k) (zset g 493 0 0) = some (nI (((zSB S).2.1 l).2.1 k)) := by
        have := r_kindOf hS e' hl hk
        unfold fX12_kindOf at this
        cases q : fX12_of (nI l) (5 + nI k) (zset g 493 0 0) with
        | none => rw [q] at this; exact nomatch this
        | some x => rw [q] at this; exact this
      unfold fX12_line
      simp only [zb_s, zb2_s, zb3_s, zb3_e, zjoin_e, zput_e, r_thr0, r_thr1, zi10, zi01, if_true, if_false, r_noLine hS e' hl hk, r_whenOf hS e' hl hk, h5]
      cases b <;> simp [zbi]
theorem m_has {S : zS} (hS : zSW S) (v : Int32) : zAsk [1] S (fX11_has v) (fX12_has v) := by
  rcases zix v (zsz hS) with h | ⟨l, hl, rfl⟩
  · refine ⟨.error 1, fun g e => ⟨g, ?_, .refl⟩, fun g e => zRa_err2 (t := 1) (b := 0) ?_ (by decide)⟩
    · unfold fX11_has; rw [c_mailOf_no e h, zb3_e]
    · unfold fX12_has; simp only [zb_s, zb2_s, zb3_s, zb3_e, zjoin_e, zput_e, r_thr0, r_thr1, zi10, zi01, if_true, if_false, r_noLetter_no hS (e.thr hS 0) h]
  have hL := hS.letter hl
  have h24 := hL.2.1
  refine ⟨.ok (zks ((zSB S).2.1 l)), fun g e => ⟨g, ?_, .refl⟩, fun g e => zRa_ok (g1 := zset g 493 0 0) ?_ .refl⟩
  · unfold fX11_has; rw [c_mailOf hS e hl, zb3_s, c_kindSet (e.mail hl) h24]; rfl
  · have e' := e.thr hS 0
    unfold fX12_has zks
    simp only [zb_s, zb2_s, zb3_s, zb3_e, zjoin_e, zput_e, r_thr0, r_thr1, zi10, zi01, if_true, if_false, r_noLetter hS e' hl]
    refine zL_F0 (fun n i a => fX12_has_L24 (nI l) (zset g 493 0 0) n a (nI i)) (fun i a => a ||| ((1 : Int32) <<< (nI (((zSB S).2.1 l).2.1 i) &&& 31))) ((zSB S).2.1 l).1 (fun a => some (a, zset g 493 0 0)) 0 (by omega) (fun n i a hi => ?_) (fun n a => ?_)
    · simp only [fX12_has_L24, r_lines hS e' hl, zb_s, r_kindOf hS e' hl hi]
      simp (disch := omega) only [nL_lt, nL_gt, nL_le, nL_ge, nL_eq, nL_qe, nI_ltI, nI_leI, nI_eq, nL_add, nL_dda, nI_add, nL_sub, pk_sub, nL_mul, nL_clamp, nI_cl, zchk_n, zchk_l, zb_s, zb2_s, zb3_s, zb3_e, zput_e, zjoin_e, zs_hit, zs_miss, nle_t, nle_f, nlt_t, nlt_f, neq_t, neq_f, ↓reduceIte, and_self, and_true, true_and, and_false, false_and, not_true_eq_false, not_false_eq_true, Nat.add_zero]
    · simp only [fX12_has_L24, r_lines hS e' hl, zb_s]
      simp (disch := omega) only [nL_lt, nL_gt, nL_le, nL_ge, nL_eq, nL_qe, nI_ltI, nI_leI, nI_eq, nL_add, nL_dda, nI_add, nL_sub, pk_sub, nL_mul, nL_clamp, nI_cl, zchk_n, zchk_l, zb_s, zb2_s, zb3_s, zb3_e, zput_e, zjoin_e, zs_hit, zs_miss, nle_t, nle_f, nlt_t, nlt_f, neq_t, neq_f, ↓reduceIte, and_self, and_true, true_and, and_false, false_and, not_true_eq_false, not_false_eq_true, Nat.add_zero]
/-- how many LINES from i on are as those of M from j on -/
def zal (L : zL) (i : Nat) (M : zL) (j : Nat) : Nat := match zff (fun k => decide (L.2.1 (i + k) ≠ M.2.1 (j + k))) (min (L.1 - i) (M.1 - j)) with
  | some k => k
  | none => min (L.1 - i) (M.1 - j)
theorem c_alike {g : zM} {h r : Nat} {L M : zL} (e : zCM g h L) (e2 : zCM g r M) (hL : zLW L) (hM : zLW M) {i j : Nat} (hi : i ≤ L.1) (hj : j ≤ M.1) : fX3_alikeFrom h (nI i) r (nI j) g = some (nI (zal L i M j)) := by
  have h1 := hL.2.1
  have h2 := hM.2.1
  unfold fX3_alikeFrom zal
  have := zL_P (fun n k => fX3_alikeFrom_L6 h (nI i) r (nI j) g n (nI k) (nI k)) (fun k => decide (L.2.1 (i + k) ≠ M.2.1 (j + k))) (min (L.1 - i) (M.1 - j)) (fun k => some (nI k)) (some (nI (min (L.1 - i) (M.1 - j)))) (by omega) (fun n k hk => ?_) (fun n => ?_)
  · refine Eq.trans this ?_
    cases zff (fun k => decide (L.2.1 (i + k) ≠ M.2.1 (j + k))) (min (L.1 - i) (M.1 - j)) <;> rfl
  · have b1 := hL.2.2 (i + k) (by omega)
    have b2 := hM.2.2 (j + k) (by omega)
    simp only [fX3_alikeFrom_L6, e.1, e2.1]
    rw [nI_add, nI_add, c_kindAt e (by omega) h1, c_kindAt e2 (by omega) h2]
    simp (disch := omega) only [nL_lt, nL_gt, nL_le, nL_ge, nL_eq, nL_qe, nI_ltI, nI_leI, nI_eq, nL_add, nL_dda, nI_add, nL_sub, pk_sub, nL_mul, nL_clamp, nI_cl, zchk_n, zchk_l, zb_s, zb2_s, zb3_s, zb3_e, zput_e, zjoin_e, zs_hit, zs_miss, nle_t, nle_f, nlt_t, nlt_f, neq_t, neq_f, ↓reduceIte, and_self, and_true, true_and, and_false, false_and, not_true_eq_false, not_false_eq_true, Nat.add_zero]
    by_cases q : L.2.1 (i + k) = M.2.1 (j + k) <;> simp [q]
  · simp only [fX3_alikeFrom_L6, e.1, e2.1]
    rw [nI_add, nI_add]
    by_cases q : L.1 - i ≤ M.1 - j
    · rw [show min (L.1 - i) (M.1 - j) = L.1 - i from by omega]
      simp (disch := omega) only [nL_lt, nL_gt, nL_le, nL_ge, nL_eq, nL_qe, nI_ltI, nI_leI, nI_eq, nL_add, nL_dda, nI_add, nL_sub, pk_sub, nL_mul, nL_clamp, nI_cl, zchk_n, zchk_l, zb_s, zb2_s, zb3_s, zb3_e, zput_e, zjoin_e, zs_hit, zs_miss, nle_t, nle_f, nlt_t, nlt_f, neq_t, neq_f, ↓reduceIte, and_self, and_true, true_and, and_false, false_and, not_true_eq_false, not_false_eq_true, Nat.add_zero]
    · rw [show min (L.1 - i) (M.1 - j) = M.1 - j from by omega]
      simp (disch := omega) only [nL_lt, nL_gt, nL_le, nL_ge, nL_eq, nL_qe, nI_ltI, nI_leI, nI_eq, nL_add, nL_dda, nI_add, nL_sub, pk_sub, nL_mul, nL_clamp, nI_cl, zchk_n, zchk_l, zb_s, zb2_s, zb3_s, zb3_e, zput_e, zjoin_e, zs_hit, zs_miss, nle_t, nle_f, nlt_t, nlt_f, neq_t, neq_f, ↓reduceIte, and_self, and_true, true_and, and_false, false_and, not_true_eq_false, not_false_eq_true, Nat.add_zero]
theorem r_alike {S : zS} {g : zM} (hS : zSW S) (e : zRI S g) {l m i j : Nat} (hl : l < (zSB S).1) (hm : m < (zSB S).1) (hi : i ≤ ((zSB S).2.1 l).1) (hj : j ≤ ((zSB S).2.1 m).1) : fX12_alikeFrom (nI l) (nI i) (nI m) (nI j) g = some (nI (zal ((zSB S).2.1 l) i ((zSB S).2.1 m) j)) := by
  have hL := hS.letter hl
  have hM := hS.letter hm
  have h1 := hL.2.1
  have h2 := hM.2.1
  have k1 : ∀ x, x < ((zSB S).2.1 l).1 → fX12_kindOf (nI l) (nI x) g = some (nI (((zSB S).2.1 l).2.1 x)) := fun x hx => r_kindOf hS e hl hx
  have k2 : ∀ x, x < ((zSB S).2.1 m).1 → fX12_kindOf (nI m) (nI x) g = some (nI (((zSB S).2.1 m).2.1 x)) := fun x hx => r_kindOf hS e hm hx
  have l1 := r_lines hS e hl
  have l2 := r_lines hS e hm
  generalize (zSB S).2.1 l = L at *
  generalize (zSB S).2.1 m = M at *
  unfold fX12_alikeFrom zal
  have := zL_P (fun n k => fX12_alikeFrom_L3 (nI l) (nI i) (nI m) (nI j) g n (nI k)) (fun k => decide (L.2.1 (i + k) ≠ M.2.1 (j + k))) (min (L.1 - i) (M.1 - j)) (fun k => some (nI k)) (some (nI (min (L.1 - i) (M.1 - j)))) (by omega) (fun n k hk => ?_) (fun n => ?_)
  · refine Eq.trans this ?_
    cases zff (fun k => decide (L.2.1 (i + k) ≠ M.2.1 (j + k))) (min (L.1 - i) (M.1 - j)) <;> rfl
  · have b1 := hL.2.2 (i + k) (by omega)
    have b2 := hM.2.2 (j + k) (by omega)
    simp only [fX12_alikeFrom_L3, l1, l2, zb_s]
    rw [nI_add, nI_add, k1 _ (by omega), k2 _ (by omega)]
    simp (disch := omega) only [nL_lt, nL_gt, nL_le, nL_ge, nL_eq, nL_qe, nI_ltI, nI_leI, nI_eq, nL_add, nL_dda, nI_add, nL_sub, pk_sub, nL_mul, nL_clamp, nI_cl, zchk_n, zchk_l, zb_s, zb2_s, zb3_s, zb3_e, zput_e, zjoin_e, zs_hit, zs_miss, nle_t, nle_f, nlt_t, nlt_f, neq_t, neq_f, ↓reduceIte, and_self, and_true, true_and, and_false, false_and, not_true_eq_false, not_false_eq_true, Nat.add_zero]
    by_cases q : L.2.1 (i + k) = M.2.1 (j + k) <;> simp [q]
  · simp only [fX12_alikeFrom_L3, l1, l2, zb_s]
    rw [nI_add, nI_add]
    by_cases q : L.1 - i ≤ M.1 - j
    · rw [show min (L.1 - i) (M.1 - j) = L.1 - i from by omega]
      simp (disch := omega) only [nL_lt, nL_gt, nL_le, nL_ge, nL_eq, nL_qe, nI_ltI, nI_leI, nI_eq, nL_add, nL_dda, nI_add, nL_sub, pk_sub, nL_mul, nL_clamp, nI_cl, zchk_n, zchk_l, zb_s, zb2_s, zb3_s, zb3_e, zput_e, zjoin_e, zs_hit, zs_miss, nle_t, nle_f, nlt_t, nlt_f, neq_t, neq_f, ↓reduceIte, and_self, and_true, true_and, and_false, false_and, not_true_eq_false, not_false_eq_true, Nat.add_zero]
    · rw [show min (L.1 - i) (M.1 - j) = M.1 - j from by omega]
      simp (disch := omega) only [nL_lt, nL_gt, nL_le, nL_ge, nL_eq, nL_qe, nI_ltI, nI_leI, nI_eq, nL_add, nL_dda, nI_add, nL_sub, pk_sub, nL_mul, nL_clamp, nI_cl, zchk_n, zchk_l, zb_s, zb2_s, zb3_s, zb3_e, zput_e, zjoin_e, zs_hit, zs_miss, nle_t, nle_f, nlt_t, nlt_f, neq_t, neq_f, ↓reduceIte, and_self, and_true, true_and, and_false, false_and, not_true_eq_false, not_false_eq_true, Nat.add_zero]
def zmx (a : Int32) (r : Int32) : Int32 := if a < r then r else a
theorem m_echo {S : zS} (hS : zSW S) (v : Int32) : zAsk [1] S (fX11_echo v) (fX12_echo v) := by
  rcases zix v (zsz hS) with h | ⟨l, hl, rfl⟩
  · refine ⟨.error 1, fun g e => ⟨g, ?_, .refl⟩, fun g e => zRa_err2 (t := 1) (b := 0) ?_ (by decide)⟩
    · unfold fX11_echo; rw [c_mailOf_no e h, zb3_e]
    · unfold fX12_echo; simp only [zb_s, zb2_s, zb3_s, zb3_e, zjoin_e, zput_e, r_thr0, r_thr1, zi10, zi01, if_true, if_false, r_noLetter_no hS (e.thr hS 0) h]
  have hL := hS.letter hl
  have h24 := hL.2.1
  refine ⟨.ok (zfo (fun i a => zfo (fun j a => zmx a (nI (zal ((zSB S).2.1 l) i ((zSB S).2.1 l) j))) (((zSB S).2.1 l).1 - (i + 1)) (i + 1) a) ((zSB S).2.1 l).1 0 0), fun g e => ⟨g, ?_, .refl⟩, fun g e => zRa_ok (g1 := zset g 493 0 0) ?_ .refl⟩
  · have eL := e.mail hl
    unfold fX11_echo
    rw [c_mailOf hS e hl, zb3_s]
    refine zL_F0 (fun n i a => fX11_echo_L11 (4 + 1 + 3 * l) g n a (nI i)) (fun i a => zfo (fun j a => zmx a (nI (zal ((zSB S).2.1 l) i ((zSB S).2.1 l) j))) (((zSB S).2.1 l).1 - (i + 1)) (i + 1) a) ((zSB S).2.1 l).1 (fun a => some (.ok a, g)) 0 (by omega) (fun n i a hi => ?_) (fun n a => ?_)
    · simp only [fX11_echo_L11, eL.1]
      simp (disch := omega) only [nL_lt, nL_gt, nL_le, nL_ge, nL_eq, nL_qe, nI_ltI, nI_leI, nI_eq, nL_add, nL_dda, nI_add, nL_sub, pk_sub, nL_mul, nL_clamp, nI_cl, zchk_n, zchk_l, zb_s, zb2_s, zb3_s, zb3_e, zput_e, zjoin_e, zs_hit, zs_miss, nle_t, nle_f, nlt_t, nlt_f, neq_t, neq_f, ↓reduceIte, and_self, and_true, true_and, and_false, false_and, not_true_eq_false, not_false_eq_true, Nat.add_zero]
      refine zL_F (fun n j a => fX11_echo_L26 (4 + 1 + 3 * l) (nI i) g _ n a (nI j)) (fun j a => zmx a (nI (zal ((zSB S).2.1 l) i ((zSB S).2.1 l) j))) ((zSB S).2.1 l).1 (fun a => fX11_echo_L11 (4 + 1 + 3 * l) g n a (nI (i + 1))) (fun n j a hj => ?_) (fun n a => ?_) (((zSB S).2.1 l).1 - (i + 1)) (i + 1) zFU a (by omega) (by unfold zFU; omega)
      · simp only [fX11_echo_L26, eL.1]
        rw [c_alike eL eL hL hL (by omega) (by omega)]
        simp (disch := omega) only [nL_lt, nL_gt, nL_le, nL_ge, nL_eq, nL_qe, nI_ltI, nI_leI, nI_eq, nL_add, nL_dda, nI_add, nL_sub, pk_sub, nL_mul, nL_clamp, nI_cl, zchk_n, zchk_l, zb_s, zb2_s, zb3_s, zb3_e, zput_e, zjoin_e, zs_hit, zs_miss, nle_t, nle_f, nlt_t, nlt_f, neq_t, neq_f, ↓reduceIte, and_self, and_true, true_and, and_false, false_and, not_true_eq_false, not_false_eq_true, Nat.add_zero]
        rfl
      · simp only [fX11_echo_L26, eL.1]
        simp (disch := omega) only [nL_lt, nL_gt, nL_le, nL_ge, nL_eq, nL_qe, nI_ltI, nI_leI, nI_eq, nL_add, nL_dda, nI_add, nL_sub, pk_sub, nL_mul, nL_clamp, nI_cl, zchk_n, zchk_l, zb_s, zb2_s, zb3_s, zb3_e, zput_e, zjoin_e, zs_hit, zs_miss, nle_t, nle_f, nlt_t, nlt_f, neq_t, neq_f, ↓reduceIte, and_self, and_true, true_and, and_false, false_and, not_true_eq_false, not_false_eq_true, Nat.add_zero]
    · simp only [fX11_echo_L11, eL.1]
      simp (disch := omega) only [nL_lt, nL_gt, nL_le, nL_ge, nL_eq, nL_qe, nI_ltI, nI_leI, nI_eq, nL_add, nL_dda, nI_add, nL_sub, pk_sub, nL_mul, nL_clamp, nI_cl, zchk_n, zchk_l, zb_s, zb2_s, zb3_s, zb3_e, zput_e, zjoin_e, zs_hit, zs_miss, nle_t, nle_f, nlt_t, nlt_f, neq_t, neq_f, ↓reduceIte, and_self, and_true, true_and, and_false, false_and, not_true_eq_false, not_false_eq_true, Nat.add_zero]
  · have e' := e.thr hS 0
    unfold fX12_echo
    simp only [zb_s, zb2_s, zb3_s, zb3_e, zjoin_e, zput_e, r_thr0, r_thr1, zi10, zi01, if_true, if_false, r_noLetter hS e' hl]
    refine zL_F0 (fun n i a => fX12_echo_L24 (nI l) (zset g 493 0 0) n a (nI i)) (fun i a => zfo (fun j a => zmx a (nI (zal ((zSB S).2.1 l) i ((zSB S).2.1 l) j))) (((zSB S).2.1 l).1 - (i + 1)) (i + 1) a) ((zSB S).2.1 l).1 (fun a => some (a, zset g 493 0 0)) 0 (by omega) (fun n i a hi => ?_) (fun n a => ?_)
    · simp only [fX12_echo_L24, r_lines hS e' hl, zb_s]
      simp (disch := omega) only [nL_lt, nL_gt, nL_le, nL_ge, nL_eq, nL_qe, nI_ltI, nI_leI, nI_eq, nL_add, nL_dda, nI_add, nL_sub, pk_sub, nL_mul, nL_clamp, nI_cl, zchk_n, zchk_l, zb_s, zb2_s, zb3_s, zb3_e, zput_e, zjoin_e, zs_hit, zs_miss, nle_t, nle_f, nlt_t, nlt_f, neq_t, neq_f, ↓reduceIte, and_self, and_true, true_and, and_false, false_and, not_true_eq_false, not_false_eq_true, Nat.add_zero]
      refine zL_F (fun n j a => fX12_echo_L38 (nI l) (nI i) (zset g 493 0 0) _ n a (nI j)) (fun j a => zmx a (nI (zal ((zSB S).2.1 l) i ((zSB S).2.1 l) j))) ((zSB S).2.1 l).1 (fun a => fX12_echo_L24 (nI l) (zset g 493 0 0) n a (nI (i + 1))) (fun n j a hj => ?_) (fun n a => ?_) (((zSB S).2.1 l).1 - (i + 1)) (i + 1) zFU a (by omega) (by unfold zFU; omega)
      · simp only [fX12_echo_L38, r_lines hS e' hl, zb_s]
        rw [r_alike hS e' hl hl (by omega) (by omega)]
        simp (disch := omega) only [nL_lt, nL_gt, nL_le, nL_ge, nL_eq, nL_qe, nI_ltI, nI_leI, nI_eq, nL_add, nL_dda, nI_add, nL_sub, pk_sub, nL_mul, nL_clamp, nI_cl, zchk_n, zchk_l, zb_s, zb2_s, zb3_s, zb3_e, zput_e, zjoin_e, zs_hit, zs_miss, nle_t, nle_f, nlt_t, nlt_f, neq_t, neq_f, ↓reduceIte, and_self, and_true, true_and, and_false, false_and, not_true_eq_false, not_false_eq_true, Nat.add_zero]
        rfl
      · simp only [fX12_echo_L38, r_lines hS e' hl, zb_s]
        simp (disch := omega) only [nL_lt, nL_gt, nL_le, nL_ge, nL_eq, nL_qe, nI_ltI, nI_leI, nI_eq, nL_add, nL_dda, nI_add, nL_sub, pk_sub, nL_mul, nL_clamp, nI_cl, zchk_n, zchk_l, zb_s, zb2_s, zb3_s, zb3_e, zput_e, zjoin_e, zs_hit, zs_miss, nle_t, nle_f, nlt_t, nlt_f, neq_t, neq_f, ↓reduceIte, and_self, and_true, true_and, and_false, false_and, not_true_eq_false, not_false_eq_true, Nat.add_zero]
    · simp only [fX12_echo_L24, r_lines hS e' hl, zb_s]
      simp (disch := omega) only [nL_lt, nL_gt, nL_le, nL_ge, nL_eq, nL_qe, nI_ltI, nI_leI, nI_eq, nL_add, nL_dda, nI_add, nL_sub, pk_sub, nL_mul, nL_clamp, nI_cl, zchk_n, zchk_l, zb_s, zb2_s, zb3_s, zb3_e, zput_e, zjoin_e, zs_hit, zs_miss, nle_t, nle_f, nlt_t, nlt_f, neq_t, neq_f, ↓reduceIte, and_self, and_true, true_and, and_false, false_and, not_true_eq_false, not_false_eq_true, Nat.add_zero]
