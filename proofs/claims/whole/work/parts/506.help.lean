/-! what calls share -/
def zbad (n : Nat) (v : Int32) : Prop := v < 0 ∨ nI n ≤ v
theorem zix (v : Int32) {n : Nat} (hn : n < 2147483648) : zbad n v ∨ ∃ j, j < n ∧ v = nI j := by
  rcases pk_ix v (n := n) hn with h | h | h
  · exact Or.inl (Or.inl h)
  · exact Or.inl (Or.inr h)
  · exact Or.inr h
theorem zbad_nlt {n : Nat} {v : Int32} (h : zbad n v) (h0 : ¬ v < 0) : ¬ v < nI n := by
  rcases h with h | h
  · exact absurd h h0
  · exact Int32.not_lt.mpr h
abbrev zSB (S : zS) : zB' := S.2.2.2.1.1
abbrev zSV (S : zS) : zWd := S.2.2.2.1
abbrev zSL (S : zS) : zLw := S.2.2.2.1.2.1
theorem zCI.mail {S : zS} {g : zM} (e : zCI S g) {l : Nat} (hl : l < (zSB S).1) : zCM g (4 + 1 + 3 * l) ((zSB S).2.1 l) := e.2.2.2.1.1.2.1 l hl
theorem zCI.law {S : zS} {g : zM} (e : zCI S g) : zCL g 29 (zSL S) := e.2.2.2.1.2.1
theorem zCI.week {S : zS} {g : zM} (e : zCI S g) : g 3 2 = (zSB S).2.2.1 := e.2.2.2.1.1.2.2.1
theorem zCI.size {S : zS} {g : zM} (e : zCI S g) : g 3 1 = nI (zSB S).1 := e.2.2.2.1.1.1
theorem zCI.proms {S : zS} {g : zM} (e : zCI S g) : g 2 5 = nI (zSV S).2.2.2.1 := e.2.2.2.1.2.2.2.1
theorem zSW.letter {S : zS} (h : zSW S) {l : Nat} (hl : l < (zSB S).1) : zLW ((zSB S).2.1 l) := h.2.2.1.1.2 l hl
theorem zSW.eight {S : zS} (h : zSW S) : (zSB S).1 ≤ 8 := h.2.2.1.1.1
theorem zSW.law {S : zS} (h : zSW S) : zWW (zSL S) := h.2.2.1.2.1
theorem zSW.proms {S : zS} (h : zSW S) : (zSV S).2.2.2.1 ≤ 8 := h.2.2.1.2.2.1
theorem c_needLetter {S : zS} {g : zM} (hS : zSW S) (e : zCI S g) {l : Nat} (hl : l < (zSB S).1) : fX11_needLetter (nI l) g = some (.ok (), g) := by
  have := hS.eight
  unfold fX11_needLetter
  rw [e.size]
  simp (disch := omega) only [nL_lt, nL_gt, nL_le, nL_ge, nL_eq, nL_qe, nI_ltI, nI_leI, nI_eq, nL_add, nL_dda, nI_add, nL_sub, pk_sub, nL_mul, nL_clamp, nI_cl, zchk_n, zchk_l, zb_s, zb2_s, zb3_s, zb3_e, zput_e, zjoin_e, zs_hit, zs_miss, nle_t, nle_f, nlt_t, nlt_f, neq_t, neq_f, ↓reduceIte, and_self, and_true, true_and, and_false, false_and, not_true_eq_false, not_false_eq_true, Nat.add_zero]
theorem c_needLetter_no {S : zS} {g : zM} (e : zCI S g) {v : Int32} (h : zbad (zSB S).1 v) : fX11_needLetter v g = some (.error 1, g) := by
  unfold fX11_needLetter
  rw [e.size]
  by_cases h0 : v < 0
  · rw [if_pos h0]
  · rw [if_neg h0, if_neg (zbad_nlt h h0)]
theorem c_mailOf {S : zS} {g : zM} (hS : zSW S) (e : zCI S g) {l : Nat} (hl : l < (zSB S).1) : fX11_mailOf (nI l) g = some (.ok (4 + 1 + 3 * l), g) := by
  have := hS.eight
  unfold fX11_mailOf
  rw [c_needLetter hS e hl, zb3_s]
  simp (disch := omega) only [nL_lt, nL_gt, nL_le, nL_ge, nL_eq, nL_qe, nI_ltI, nI_leI, nI_eq, nL_add, nL_dda, nI_add, nL_sub, pk_sub, nL_mul, nL_clamp, nI_cl, zchk_n, zchk_l, zb_s, zb2_s, zb3_s, zb3_e, zput_e, zjoin_e, zs_hit, zs_miss, nle_t, nle_f, nlt_t, nlt_f, neq_t, neq_f, ↓reduceIte, and_self, and_true, true_and, and_false, false_and, not_true_eq_false, not_false_eq_true, Nat.add_zero]
theorem c_mailOf_no {S : zS} {g : zM} (e : zCI S g) {v : Int32} (h : zbad (zSB S).1 v) : fX11_mailOf v g = some (.error 1, g) := by
  unfold fX11_mailOf
  rw [c_needLetter_no e h, zb3_e]
theorem c_needKind {g : zM} {k : Nat} (hk : k < 12) : fX11_needKind (nI k) g = some (.ok (), g) := by
  unfold fX11_needKind
  simp (disch := omega) only [nL_lt, nL_gt, nL_le, nL_ge, nL_eq, nL_qe, nI_ltI, nI_leI, nI_eq, nL_add, nL_dda, nI_add, nL_sub, pk_sub, nL_mul, nL_clamp, nI_cl, zchk_n, zchk_l, zb_s, zb2_s, zb3_s, zb3_e, zput_e, zjoin_e, zs_hit, zs_miss, nle_t, nle_f, nlt_t, nlt_f, neq_t, neq_f, ↓reduceIte, and_self, and_true, true_and, and_false, false_and, not_true_eq_false, not_false_eq_true, Nat.add_zero]
theorem c_needKind_no {g : zM} {v : Int32} (h : zbad 12 v) : fX11_needKind v g = some (.error 1, g) := by
  unfold fX11_needKind
  by_cases h0 : v < 0
  · rw [if_pos h0]
  · have this : ¬ v < 12 := zbad_nlt h h0
    rw [if_neg h0, if_neg this]
theorem c_needPromise {S : zS} {g : zM} (hS : zSW S) (e : zCI S g) {p : Nat} (hp : p < (zSV S).2.2.2.1) : fX11_needPromise (nI p) g = some (.ok (), g) := by
  have := hS.proms
  unfold fX11_needPromise
  rw [e.proms]
  simp (disch := omega) only [nL_lt, nL_gt, nL_le, nL_ge, nL_eq, nL_qe, nI_ltI, nI_leI, nI_eq, nL_add, nL_dda, nI_add, nL_sub, pk_sub, nL_mul, nL_clamp, nI_cl, zchk_n, zchk_l, zb_s, zb2_s, zb3_s, zb3_e, zput_e, zjoin_e, zs_hit, zs_miss, nle_t, nle_f, nlt_t, nlt_f, neq_t, neq_f, ↓reduceIte, and_self, and_true, true_and, and_false, false_and, not_true_eq_false, not_false_eq_true, Nat.add_zero]
theorem c_needPromise_no {S : zS} {g : zM} (e : zCI S g) {v : Int32} (h : zbad (zSV S).2.2.2.1 v) : fX11_needPromise v g = some (.error 1, g) := by
  unfold fX11_needPromise
  rw [e.proms]
  by_cases h0 : v < 0
  · rw [if_pos h0]
  · rw [if_neg h0, if_neg (zbad_nlt h h0)]
theorem c_needAhead {g : zM} {n m : Nat} (hn : n < 41) (hm : m ≤ n) : fX11_needAhead (nI n) (nI m) g = some (.ok (), g) := by
  unfold fX11_needAhead
  simp (disch := omega) only [nL_lt, nL_gt, nL_le, nL_ge, nL_eq, nL_qe, nI_ltI, nI_leI, nI_eq, nL_add, nL_dda, nI_add, nL_sub, pk_sub, nL_mul, nL_clamp, nI_cl, zchk_n, zchk_l, zb_s, zb2_s, zb3_s, zb3_e, zput_e, zjoin_e, zs_hit, zs_miss, nle_t, nle_f, nlt_t, nlt_f, neq_t, neq_f, ↓reduceIte, and_self, and_true, true_and, and_false, false_and, not_true_eq_false, not_false_eq_true, Nat.add_zero]
theorem c_needAhead_no {g : zM} {v : Int32} (h : zbad 41 v) {m : Nat} (hm : m < 2) : fX11_needAhead v (nI m) g = some (.error 2, g) := by
  unfold fX11_needAhead
  by_cases h0 : v < nI m
  · rw [if_pos h0]
  · have h1 : ¬ v < 0 := fun q => h0 (by
      rw [Int32.lt_iff_toInt_lt] at q ⊢
      rw [nI_toInt (by omega)]
      have : (0 : Int32).toInt = 0 := by decide
      omega)
    have h2 := zbad_nlt h h1
    have h3 : ¬ v ≤ 40 := fun q => h2 (by
      rw [Int32.lt_iff_toInt_lt]
      rw [Int32.le_iff_toInt_le] at q
      rw [nI_toInt (by omega)]
      have : (40 : Int32).toInt = 40 := by decide
      omega)
    rw [if_neg h0, if_neg h3]
theorem c_isNoDigit {g : zM} {k : Nat} (hk : k < 10) : fX11_isNoDigit (nI k) g = some 0 := by
  unfold fX11_isNoDigit
  simp (disch := omega) only [nL_lt, nL_gt, nL_le, nL_ge, nL_eq, nL_qe, nI_ltI, nI_leI, nI_eq, nL_add, nL_dda, nI_add, nL_sub, pk_sub, nL_mul, nL_clamp, nI_cl, zchk_n, zchk_l, zb_s, zb2_s, zb3_s, zb3_e, zput_e, zjoin_e, zs_hit, zs_miss, nle_t, nle_f, nlt_t, nlt_f, neq_t, neq_f, ↓reduceIte, and_self, and_true, true_and, and_false, false_and, not_true_eq_false, not_false_eq_true, Nat.add_zero]
theorem c_isNoDigit_no {g : zM} {v : Int32} (h : zbad 10 v) : fX11_isNoDigit v g = some 1 := by
  unfold fX11_isNoDigit
  by_cases h0 : v < 0
  · rw [if_pos h0]
  · have this : ¬ v < 10 := zbad_nlt h h0
    rw [if_neg h0, if_neg this]
theorem c_needLine {g : zM} {r : Nat} {L : zL} (e : zCM g r L) (hL : L.1 ≤ 24) {x : Nat} (hx : x < L.1) : fX11_needLine r (nI x) g = some (.ok (), g) := by
  unfold fX11_needLine
  rw [e.1]
  simp (disch := omega) only [nL_lt, nL_gt, nL_le, nL_ge, nL_eq, nL_qe, nI_ltI, nI_leI, nI_eq, nL_add, nL_dda, nI_add, nL_sub, pk_sub, nL_mul, nL_clamp, nI_cl, zchk_n, zchk_l, zb_s, zb2_s, zb3_s, zb3_e, zput_e, zjoin_e, zs_hit, zs_miss, nle_t, nle_f, nlt_t, nlt_f, neq_t, neq_f, ↓reduceIte, and_self, and_true, true_and, and_false, false_and, not_true_eq_false, not_false_eq_true, Nat.add_zero]
theorem c_needLine_no {g : zM} {r : Nat} {L : zL} (e : zCM g r L) {v : Int32} (h : zbad L.1 v) : fX11_needLine r v g = some (.error 1, g) := by
  unfold fX11_needLine
  rw [e.1]
  by_cases h0 : v < 0
  · rw [if_pos h0]
  · rw [if_neg h0, if_neg (zbad_nlt h h0)]
/-! the reference -/
theorem r_in {g : zM} {a lo hi : Nat} (h1 : lo ≤ a) (h2 : a ≤ hi) (h3 : hi < 2147483648) : fX12_in (nI a) (nI lo) (nI hi) g = some 1 := by
  unfold fX12_in
  simp (disch := omega) only [nL_lt, nL_gt, nL_le, nL_ge, nL_eq, nL_qe, nI_ltI, nI_leI, nI_eq, nL_add, nL_dda, nI_add, nL_sub, pk_sub, nL_mul, nL_clamp, nI_cl, zchk_n, zchk_l, zb_s, zb2_s, zb3_s, zb3_e, zput_e, zjoin_e, zs_hit, zs_miss, nle_t, nle_f, nlt_t, nlt_f, neq_t, neq_f, ↓reduceIte, and_self, and_true, true_and, and_false, false_and, not_true_eq_false, not_false_eq_true, Nat.add_zero]
theorem r_in_no {g : zM} {v : Int32} {n : Nat} (h : zbad (n + 1) v) (hn : n < 1000000) : fX12_in v 0 (nI n) g = some 0 := by
  unfold fX12_in
  by_cases h0 : v < 0
  · rw [if_pos h0]
  · have h2 := zbad_nlt h h0
    rw [if_neg h0, if_pos (by
      rw [Int32.lt_iff_toInt_lt] at h2 ⊢
      rw [nI_toInt (by omega)] at h2
      rw [nI_toInt (by omega)]
      omega)]
theorem r_in0_no {g : zM} {v : Int32} : fX12_in v 0 (-1) g = some 0 := by
  unfold fX12_in
  by_cases h0 : v < 0
  · rw [if_pos h0]
  · rw [if_neg h0, if_pos (by
      rw [Int32.lt_iff_toInt_lt] at h0 ⊢
      have : (0 : Int32).toInt = 0 := by decide
      have : (-1 : Int32).toInt = -1 := by decide
      omega)]
/-- v is 0 to n-1 -/
theorem r_inS_no {g : zM} {v : Int32} {n : Nat} (h : zbad n v) (hn : n < 1000000) : fX12_in v 0 (nI n - 1) g = some 0 := by
  cases n with
  | zero => exact r_in0_no
  | succ n => rw [nI_pred]; exact r_in_no h (by omega)
theorem r_inS {g : zM} {l n : Nat} (h : l < n) (hn : n < 1000000) : fX12_in (nI l) 0 (nI n - 1) g = some 1 := by
  have e0 : (0 : Int32) = nI 0 := rfl
  rw [e0, show nI n - 1 = nI (n - 1) from by simp (disch := omega) only [nL_lt, nL_gt, nL_le, nL_ge, nL_eq, nL_qe, nI_ltI, nI_leI, nI_eq, nL_add, nL_dda, nI_add, nL_sub, pk_sub, nL_mul, nL_clamp, nI_cl, zchk_n, zchk_l, zb_s, zb2_s, zb3_s, zb3_e, zput_e, zjoin_e, zs_hit, zs_miss, nle_t, nle_f, nlt_t, nlt_f, neq_t, neq_f, ↓reduceIte, and_self, and_true, true_and, and_false, false_and, not_true_eq_false, not_false_eq_true, Nat.add_zero]]
  exact r_in (by omega) (by omega) (by omega)
theorem zRI.size {S : zS} {g : zM} (e : zRI S g) : g 494 0 = nI (zSB S).1 := e.2.2.2.1.1.1
theorem zRI.week {S : zS} {g : zM} (e : zRI S g) : g 494 4 = (zSB S).2.2.1 := by have := e.2.2.2.1.1.2.2.1; simpa using this
theorem zRI.law {S : zS} {g : zM} (e : zRI S g) : zRL g 494 (zSL S) := e.2.2.2.1.2.1
theorem zRI.letter {S : zS} {g : zM} (e : zRI S g) {l : Nat} (hl : l < (zSB S).1) : zRM g 494 (36 + 53 * l) ((zSB S).2.1 l) := by
  have := e.2.2.2.1.1.2.1 l hl
  simpa using this
theorem zRI.proms {S : zS} {g : zM} (e : zRI S g) : g 494 1 = nI (zSV S).2.2.2.1 := e.2.2.2.1.2.2.2.1
theorem r_letters {S : zS} {g : zM} (e : zRI S g) : fX12_letters g = some (nI (zSB S).1) := by
  unfold fX12_letters
  simp (disch := omega) only [nL_lt, nL_gt, nL_le, nL_ge, nL_eq, nL_qe, nI_ltI, nI_leI, nI_eq, nL_add, nL_dda, nI_add, nL_sub, pk_sub, nL_mul, nL_clamp, nI_cl, zchk_n, zchk_l, zb_s, zb2_s, zb3_s, zb3_e, zput_e, zjoin_e, zs_hit, zs_miss, nle_t, nle_f, nlt_t, nlt_f, neq_t, neq_f, ↓reduceIte, and_self, and_true, true_and, and_false, false_and, not_true_eq_false, not_false_eq_true, Nat.add_zero, e.size]
theorem r_promises {S : zS} {g : zM} (e : zRI S g) : fX12_promises g = some (nI (zSV S).2.2.2.1) := by
  unfold fX12_promises
  simp (disch := omega) only [nL_lt, nL_gt, nL_le, nL_ge, nL_eq, nL_qe, nI_ltI, nI_leI, nI_eq, nL_add, nL_dda, nI_add, nL_sub, pk_sub, nL_mul, nL_clamp, nI_cl, zchk_n, zchk_l, zb_s, zb2_s, zb3_s, zb3_e, zput_e, zjoin_e, zs_hit, zs_miss, nle_t, nle_f, nlt_t, nlt_f, neq_t, neq_f, ↓reduceIte, and_self, and_true, true_and, and_false, false_and, not_true_eq_false, not_false_eq_true, Nat.add_zero, e.proms]
theorem r_noLetter {S : zS} {g : zM} (hS : zSW S) (e : zRI S g) {l : Nat} (hl : l < (zSB S).1) : fX12_noLetter (nI l) g = some 0 := by
  have := hS.eight
  unfold fX12_noLetter
  rw [r_letters e, zb_s, r_inS hl (by omega), zb_s, if_neg (by decide)]
theorem r_noLetter_no {S : zS} {g : zM} (hS : zSW S) (e : zRI S g) {v : Int32} (h : zbad (zSB S).1 v) : fX12_noLetter v g = some 1 := by
  have := hS.eight
  unfold fX12_noLetter
  rw [r_letters e, zb_s, r_inS_no h (by omega), zb_s, if_pos rfl]
theorem r_noPromise {S : zS} {g : zM} (hS : zSW S) (e : zRI S g) {l : Nat} (hl : l < (zSV S).2.2.2.1) : fX12_noPromise (nI l) g = some 0 := by
  have := hS.proms
  unfold fX12_noPromise
  rw [r_promises e, zb_s, r_inS hl (by omega), zb_s, if_neg (by decide)]
theorem r_noPromise_no {S : zS} {g : zM} (hS : zSW S) (e : zRI S g) {v : Int32} (h : zbad (zSV S).2.2.2.1 v) : fX12_noPromise v g = some 1 := by
  have := hS.proms
  unfold fX12_noPromise
  rw [r_promises e, zb_s, r_inS_no h (by omega), zb_s, if_pos rfl]
theorem r_noKind {g : zM} {k : Nat} (hk : k < 12) : fX12_noKind (nI k) g = some 0 := by
  unfold fX12_noKind
  rw [show fX12_in (nI k) 0 11 g = some 1 from r_in (lo := 0) (hi := 11) (by omega) (by omega) (by omega), zb_s, if_neg (by decide)]
theorem r_noKind_no {g : zM} {v : Int32} (h : zbad 12 v) : fX12_noKind v g = some 1 := by
  unfold fX12_noKind
  rw [show fX12_in v 0 11 g = some 0 from r_in_no (n := 11) h (by omega), zb_s, if_pos rfl]
theorem r_noAhead {g : zM} {k : Nat} (hk : k < 41) : fX12_noAhead (nI k) g = some 0 := by
  unfold fX12_noAhead
  rw [show fX12_in (nI k) 0 40 g = some 1 from r_in (lo := 0) (hi := 40) (by omega) (by omega) (by omega), zb_s, if_neg (by decide)]
theorem r_noAhead_no {g : zM} {v : Int32} (h : zbad 41 v) : fX12_noAhead v g = some 1 := by
  unfold fX12_noAhead
  rw [show fX12_in v 0 40 g = some 0 from r_in_no (n := 40) h (by omega), zb_s, if_pos rfl]
theorem r_noSender {g : zM} {a b : Nat} (ha : a < 10) (hb : b < 10) : fX12_noSender (nI a) (nI b) g = some 0 := by
  unfold fX12_noSender
  rw [show fX12_in (nI a) 0 9 g = some 1 from r_in (lo := 0) (hi := 9) (by omega) (by omega) (by omega), show fX12_in (nI b) 0 9 g = some 1 from r_in (lo := 0) (hi := 9) (by omega) (by omega) (by omega)]
  rfl
theorem r_noSender_no1 {g : zM} {a b : Int32} (h : zbad 10 a) : fX12_noSender a b g = some 1 := by
  unfold fX12_noSender
  rw [show fX12_in a 0 9 g = some 0 from r_in_no (n := 9) h (by omega)]
  rfl
theorem r_noSender_no2 {g : zM} {a : Nat} {b : Int32} (ha : a < 10) (h : zbad 10 b) : fX12_noSender (nI a) b g = some 1 := by
  unfold fX12_noSender
  rw [show fX12_in (nI a) 0 9 g = some 1 from r_in (lo := 0) (hi := 9) (by omega) (by omega) (by omega), show fX12_in b 0 9 g = some 0 from r_in_no (n := 9) h (by omega)]
  rfl
theorem r_thr0 {g : zM} {t : Int32} : fX12_throwsIf 0 t g = some (0, g) := by
  unfold fX12_throwsIf
  rw [if_pos rfl, zbo_0]
theorem r_thr1 {g : zM} {t : Int32} : fX12_throwsIf 1 t g = some (1, zset g 493 0 t) := by
  unfold fX12_throwsIf
  rw [if_neg (by decide), zput_e, zbo_1]
/-- thrown is written: nothing else is -/
theorem zFR.thr {g : zM} {t : Int32} : zFR g (zset g 493 0 t) := by
  refine ⟨fun c h => ?_, fun k h => ?_, ?_, ?_, ?_, ?_, ?_, ?_, ?_, ?_⟩ <;> simp (disch := omega) only [nL_lt, nL_gt, nL_le, nL_ge, nL_eq, nL_qe, nI_ltI, nI_leI, nI_eq, nL_add, nL_dda, nI_add, nL_sub, pk_sub, nL_mul, nL_clamp, nI_cl, zchk_n, zchk_l, zb_s, zb2_s, zb3_s, zb3_e, zput_e, zjoin_e, zs_hit, zs_miss, nle_t, nle_f, nlt_t, nlt_f, neq_t, neq_f, ↓reduceIte, and_self, and_true, true_and, and_false, false_and, not_true_eq_false, not_false_eq_true, Nat.add_zero, zs_cell]
theorem r_of {S : zS} {g : zM} (hS : zSW S) (e : zRI S g) {l c : Nat} (hl : l < (zSB S).1) (hc : c < 53) : fX12_of (nI l) (nI c) g = some (g 494 (36 + 53 * l + c)) := by
  have := hS.eight
  unfold fX12_of fX12_at
  simp (disch := omega) only [nL_lt, nL_gt, nL_le, nL_ge, nL_eq, nL_qe, nI_ltI, nI_leI, nI_eq, nL_add, nL_dda, nI_add, nL_sub, pk_sub, nL_mul, nL_clamp, nI_cl, zchk_n, zchk_l, zb_s, zb2_s, zb3_s, zb3_e, zput_e, zjoin_e, zs_hit, zs_miss, nle_t, nle_f, nlt_t, nlt_f, neq_t, neq_f, ↓reduceIte, and_self, and_true, true_and, and_false, false_and, not_true_eq_false, not_false_eq_true, Nat.add_zero]
theorem r_lines {S : zS} {g : zM} (hS : zSW S) (e : zRI S g) {l : Nat} (hl : l < (zSB S).1) : fX12_lines (nI l) g = some (nI ((zSB S).2.1 l).1) := by
  unfold fX12_lines
  rw [show fX12_of (nI l) 0 g = _ from r_of hS e hl (c := 0) (by omega), zb_s]
  exact congrArg some (e.letter hl).1
theorem r_kindOf {S : zS} {g : zM} (hS : zSW S) (e : zRI S g) {l i : Nat} (hl : l < (zSB S).1) (hi : i < ((zSB S).2.1 l).1) : fX12_kindOf (nI l) (nI i) g = some (nI (((zSB S).2.1 l).2.1 i)) := by
  have := (hS.letter hl).2.1
  unfold fX12_kindOf
  rw [show (5 : Int32) + nI i = nI (5 + i) from by simp (disch := omega) only [nL_lt, nL_gt, nL_le, nL_ge, nL_eq, nL_qe, nI_ltI, nI_leI, nI_eq, nL_add, nL_dda, nI_add, nL_sub, pk_sub, nL_mul, nL_clamp, nI_cl, zchk_n, zchk_l, zb_s, zb2_s, zb3_s, zb3_e, zput_e, zjoin_e, zs_hit, zs_miss, nle_t, nle_f, nlt_t, nlt_f, neq_t, neq_f, ↓reduceIte, and_self, and_true, true_and, and_false, false_and, not_true_eq_false, not_false_eq_true, Nat.add_zero], r_of hS e hl (by omega), zb_s]
  have := (e.letter hl).2.1 i hi
  rw [← this, Nat.add_assoc (36 + 53 * l) 5 i]
theorem r_whenOf {S : zS} {g : zM} (hS : zSW S) (e : zRI S g) {l i : Nat} (hl : l < (zSB S).1) (hi : i < ((zSB S).2.1 l).1) : fX12_of (nI l) (29 + nI i) g = some (((zSB S).2.1 l).2.2.1 i) := by
  have := (hS.letter hl).2.1
  rw [show (29 : Int32) + nI i = nI (29 + i) from by simp (disch := omega) only [nL_lt, nL_gt, nL_le, nL_ge, nL_eq, nL_qe, nI_ltI, nI_leI, nI_eq, nL_add, nL_dda, nI_add, nL_sub, pk_sub, nL_mul, nL_clamp, nI_cl, zchk_n, zchk_l, zb_s, zb2_s, zb3_s, zb3_e, zput_e, zjoin_e, zs_hit, zs_miss, nle_t, nle_f, nlt_t, nlt_f, neq_t, neq_f, ↓reduceIte, and_self, and_true, true_and, and_false, false_and, not_true_eq_false, not_false_eq_true, Nat.add_zero], r_of hS e hl (by omega)]
  have := (e.letter hl).2.2.1 i hi
  rw [← this, Nat.add_assoc (36 + 53 * l) 29 i]
theorem r_isOpen {S : zS} {g : zM} (hS : zSW S) (e : zRI S g) {l : Nat} (hl : l < (zSB S).1) : fX12_isOpen (nI l) g = some (zbi ((zSB S).2.1 l).2.2.2.2.2.1) := by
  unfold fX12_isOpen
  rw [show fX12_of (nI l) 3 g = _ from r_of hS e hl (c := 3) (by omega), zb_s, (e.letter hl).2.2.2.2.2.1]
  cases ((zSB S).2.1 l).2.2.2.2.2.1 <;> rfl
theorem r_hotOf {S : zS} {g : zM} (hS : zSW S) (e : zRI S g) {l : Nat} (hl : l < (zSB S).1) : fX12_of (nI l) 4 g = some (zbi ((zSB S).2.1 l).2.2.2.2.2.2) := by
  rw [show fX12_of (nI l) 4 g = _ from r_of hS e hl (c := 4) (by omega), (e.letter hl).2.2.2.2.2.2]
theorem r_looksAt {S : zS} {g : zM} (hS : zSW S) (e : zRI S g) {l : Nat} (hl : l < (zSB S).1) : ∃ g1, fX12_looksAt (nI l) g = some g1 ∧ zRR g1 ((zSB S).2.1 l) ((zSB S).2.1 l).1 (zSB S).2.2.1 ∧ zFQ g g1 := by
  have h8 := hS.eight
  have h24 := (hS.letter hl).2.1
  have eL := e.letter hl
  obtain ⟨e1, e2, e3, e4, e5, e6, e7⟩ := eL
  unfold fX12_looksAt
  rw [r_lines hS e hl, zb_s, zput_e]
  refine zL_Q0 (fun n i (s : zM) => fX12_looksAt_L11 (nI l) _ n (nI i) s) (fun i s => s 493 19 = nI ((zSB S).2.1 l).1 ∧ (∀ c, c ≠ 493 → c ≠ 502 → s c = g c) ∧ (∀ k, k < 19 → s 493 k = g 493 k) ∧ ∀ j, j < i → s 502 j = nI (((zSB S).2.1 l).2.1 j)) ((zSB S).2.1 l).1 (fun r => ∃ g1, r = some g1 ∧ zRR g1 ((zSB S).2.1 l) ((zSB S).2.1 l).1 (zSB S).2.2.1 ∧ zFQ g g1) _ (by omega) ⟨by simp (disch := omega) only [nL_lt, nL_gt, nL_le, nL_ge, nL_eq, nL_qe, nI_ltI, nI_leI, nI_eq, nL_add, nL_dda, nI_add, nL_sub, pk_sub, nL_mul, nL_clamp, nI_cl, zchk_n, zchk_l, zb_s, zb2_s, zb3_s, zb3_e, zput_e, zjoin_e, zs_hit, zs_miss, nle_t, nle_f, nlt_t, nlt_f, neq_t, neq_f, ↓reduceIte, and_self, and_true, true_and, and_false, false_and, not_true_eq_false, not_false_eq_true, Nat.add_zero], fun c h1 h2 => by simp (disch := omega) only [nL_lt, nL_gt, nL_le, nL_ge, nL_eq, nL_qe, nI_ltI, nI_leI, nI_eq, nL_add, nL_dda, nI_add, nL_sub, pk_sub, nL_mul, nL_clamp, nI_cl, zchk_n, zchk_l, zb_s, zb2_s, zb3_s, zb3_e, zput_e, zjoin_e, zs_hit, zs_miss, nle_t, nle_f, nlt_t, nlt_f, neq_t, neq_f, ↓reduceIte, and_self, and_true, true_and, and_false, false_and, not_true_eq_false, not_false_eq_true, Nat.add_zero, zs_cell], fun k hk => by simp (disch := omega) only [nL_lt, nL_gt, nL_le, nL_ge, nL_eq, nL_qe, nI_ltI, nI_leI, nI_eq, nL_add, nL_dda, nI_add, nL_sub, pk_sub, nL_mul, nL_clamp, nI_cl, zchk_n, zchk_l, zb_s, zb2_s, zb3_s, zb3_e, zput_e, zjoin_e, zs_hit, zs_miss, nle_t, nle_f, nlt_t, nlt_f, neq_t, neq_f, ↓reduceIte, and_self, and_true, true_and, and_false, false_and, not_true_eq_false, not_false_eq_true, Nat.add_zero], fun j hj => absurd hj (by omega)⟩ (fun m i s hi h => ?_) (fun m s h => ?_)
  · obtain ⟨b1, b2, b3, b4⟩ := h
    right
    have eS : fX12_kindOf (nI l) (nI i) s = some (nI (((zSB S).2.1 l).2.1 i)) := by
      unfold fX12_kindOf fX12_of fX12_at
      simp (disch := omega) only [nL_lt, nL_gt, nL_le, nL_ge, nL_eq, nL_qe, nI_ltI, nI_leI, nI_eq, nL_add, nL_dda, nI_add, nL_sub, pk_sub, nL_mul, nL_clamp, nI_cl, zchk_n, zchk_l, zb_s, zb2_s, zb3_s, zb3_e, zput_e, zjoin_e, zs_hit, zs_miss, nle_t, nle_f, nlt_t, nlt_f, neq_t, neq_f, ↓reduceIte, and_self, and_true, true_and, and_false, false_and, not_true_eq_false, not_false_eq_true, Nat.add_zero, b2]
      have := e2 i hi
      rw [← this, Nat.add_assoc (36 + 53 * l) 5 i]
    refine ⟨zset s 502 i (nI (((zSB S).2.1 l).2.1 i)), ⟨by simp (disch := omega) only [nL_lt, nL_gt, nL_le, nL_ge, nL_eq, nL_qe, nI_ltI, nI_leI, nI_eq, nL_add, nL_dda, nI_add, nL_sub, pk_sub, nL_mul, nL_clamp, nI_cl, zchk_n, zchk_l, zb_s, zb2_s, zb3_s, zb3_e, zput_e, zjoin_e, zs_hit, zs_miss, nle_t, nle_f, nlt_t, nlt_f, neq_t, neq_f, ↓reduceIte, and_self, and_true, true_and, and_false, false_and, not_true_eq_false, not_false_eq_true, Nat.add_zero]; exact b1, fun c h1 h2 => by simp (disch := omega) only [nL_lt, nL_gt, nL_le, nL_ge, nL_eq, nL_qe, nI_ltI, nI_leI, nI_eq, nL_add, nL_dda, nI_add, nL_sub, pk_sub, nL_mul, nL_clamp, nI_cl, zchk_n, zchk_l, zb_s, zb2_s, zb3_s, zb3_e, zput_e, zjoin_e, zs_hit, zs_miss, nle_t, nle_f, nlt_t, nlt_f, neq_t, neq_f, ↓reduceIte, and_self, and_true, true_and, and_false, false_and, not_true_eq_false, not_false_eq_true, Nat.add_zero, zs_cell]; exact b2 c h1 h2, fun k hk => by simp (disch := omega) only [nL_lt, nL_gt, nL_le, nL_ge, nL_eq, nL_qe, nI_ltI, nI_leI, nI_eq, nL_add, nL_dda, nI_add, nL_sub, pk_sub, nL_mul, nL_clamp, nI_cl, zchk_n, zchk_l, zb_s, zb2_s, zb3_s, zb3_e, zput_e, zjoin_e, zs_hit, zs_miss, nle_t, nle_f, nlt_t, nlt_f, neq_t, neq_f, ↓reduceIte, and_self, and_true, true_and, and_false, false_and, not_true_eq_false, not_false_eq_true, Nat.add_zero]; exact b3 k hk, fun j hj => ?_⟩, ?_⟩
    · by_cases q : j = i
      · rw [q]; simp (disch := omega) only [nL_lt, nL_gt, nL_le, nL_ge, nL_eq, nL_qe, nI_ltI, nI_leI, nI_eq, nL_add, nL_dda, nI_add, nL_sub, pk_sub, nL_mul, nL_clamp, nI_cl, zchk_n, zchk_l, zb_s, zb2_s, zb3_s, zb3_e, zput_e, zjoin_e, zs_hit, zs_miss, nle_t, nle_f, nlt_t, nlt_f, neq_t, neq_f, ↓reduceIte, and_self, and_true, true_and, and_false, false_and, not_true_eq_false, not_false_eq_true, Nat.add_zero]
      · simp (disch := omega) only [nL_lt, nL_gt, nL_le, nL_ge, nL_eq, nL_qe, nI_ltI, nI_leI, nI_eq, nL_add, nL_dda, nI_add, nL_sub, pk_sub, nL_mul, nL_clamp, nI_cl, zchk_n, zchk_l, zb_s, zb2_s, zb3_s, zb3_e, zput_e, zjoin_e, zs_hit, zs_miss, nle_t, nle_f, nlt_t, nlt_f, neq_t, neq_f, ↓reduceIte, and_self, and_true, true_and, and_false, false_and, not_true_eq_false, not_false_eq_true, Nat.add_zero]; exact b4 j (by omega)
    · simp only [fX12_looksAt_L11, b1]
      simp (disch := omega) only [nL_lt, nL_gt, nL_le, nL_ge, nL_eq, nL_qe, nI_ltI, nI_leI, nI_eq, nL_add, nL_dda, nI_add, nL_sub, pk_sub, nL_mul, nL_clamp, nI_cl, zchk_n, zchk_l, zb_s, zb2_s, zb3_s, zb3_e, zput_e, zjoin_e, zs_hit, zs_miss, nle_t, nle_f, nlt_t, nlt_f, neq_t, neq_f, ↓reduceIte, and_self, and_true, true_and, and_false, false_and, not_true_eq_false, not_false_eq_true, Nat.add_zero, eS]
  · obtain ⟨b1, b2, b3, b4⟩ := h
    have g4 : s 494 = g 494 := b2 494 (by omega) (by omega)
    have c4 : g 494 4 = (zSB S).2.2.1 := e.week
    have co : ∀ (s' : zM), s' 494 = g 494 → fX12_isOpen (nI l) s' = some (zbi ((zSB S).2.1 l).2.2.2.2.2.1) ∧ ∀ c, c < 53 → fX12_of (nI l) (nI c) s' = some (g 494 (36 + 53 * l + c)) := by
      intro s' hs
      have h0 : ∀ c, c < 53 → fX12_of (nI l) (nI c) s' = some (g 494 (36 + 53 * l + c)) := by
        intro c hc
        unfold fX12_of fX12_at
        simp (disch := omega) only [nL_lt, nL_gt, nL_le, nL_ge, nL_eq, nL_qe, nI_ltI, nI_leI, nI_eq, nL_add, nL_dda, nI_add, nL_sub, pk_sub, nL_mul, nL_clamp, nI_cl, zchk_n, zchk_l, zb_s, zb2_s, zb3_s, zb3_e, zput_e, zjoin_e, zs_hit, zs_miss, nle_t, nle_f, nlt_t, nlt_f, neq_t, neq_f, ↓reduceIte, and_self, and_true, true_and, and_false, false_and, not_true_eq_false, not_false_eq_true, Nat.add_zero, hs]
      refine ⟨?_, h0⟩
      unfold fX12_isOpen
      rw [show fX12_of (nI l) 3 s' = _ from h0 3 (by omega), zb_s, e6]
      cases ((zSB S).2.1 l).2.2.2.2.2.1 <;> rfl
    have o1 : ∀ (s' : zM), s' 494 = g 494 → fX12_of (nI l) 1 s' = some (g 494 (36 + 53 * l + 1)) := fun s' h => (co s' h).2 1 (by omega)
    have o2 : ∀ (s' : zM), s' 494 = g 494 → fX12_of (nI l) 2 s' = some (g 494 (36 + 53 * l + 2)) := fun s' h => (co s' h).2 2 (by omega)
    have o4 : ∀ (s' : zM), s' 494 = g 494 → fX12_of (nI l) 4 s' = some (g 494 (36 + 53 * l + 4)) := fun s' h => (co s' h).2 4 (by omega)
    simp only [fX12_looksAt_L11, b1]
    simp (disch := omega) only [nL_lt, nL_gt, nL_le, nL_ge, nL_eq, nL_qe, nI_ltI, nI_leI, nI_eq, nL_add, nL_dda, nI_add, nL_sub, pk_sub, nL_mul, nL_clamp, nI_cl, zchk_n, zchk_l, zb_s, zb2_s, zb3_s, zb3_e, zput_e, zjoin_e, zs_hit, zs_miss, nle_t, nle_f, nlt_t, nlt_f, neq_t, neq_f, ↓reduceIte, and_self, and_true, true_and, and_false, false_and, not_true_eq_false, not_false_eq_true, Nat.add_zero]
    rw [o1 s g4, zb_s]
    rw [o2 _ (by simp (disch := omega) only [nL_lt, nL_gt, nL_le, nL_ge, nL_eq, nL_qe, nI_ltI, nI_leI, nI_eq, nL_add, nL_dda, nI_add, nL_sub, pk_sub, nL_mul, nL_clamp, nI_cl, zchk_n, zchk_l, zb_s, zb2_s, zb3_s, zb3_e, zput_e, zjoin_e, zs_hit, zs_miss, nle_t, nle_f, nlt_t, nlt_f, neq_t, neq_f, ↓reduceIte, and_self, and_true, true_and, and_false, false_and, not_true_eq_false, not_false_eq_true, Nat.add_zero, zs_cell]; exact g4), zb_s]
    rw [(co _ (by simp (disch := omega) only [nL_lt, nL_gt, nL_le, nL_ge, nL_eq, nL_qe, nI_ltI, nI_leI, nI_eq, nL_add, nL_dda, nI_add, nL_sub, pk_sub, nL_mul, nL_clamp, nI_cl, zchk_n, zchk_l, zb_s, zb2_s, zb3_s, zb3_e, zput_e, zjoin_e, zs_hit, zs_miss, nle_t, nle_f, nlt_t, nlt_f, neq_t, neq_f, ↓reduceIte, and_self, and_true, true_and, and_false, false_and, not_true_eq_false, not_false_eq_true, Nat.add_zero, zs_cell]; exact g4)).1, zb_s, zbo_b]
    rw [o4 _ (by simp (disch := omega) only [nL_lt, nL_gt, nL_le, nL_ge, nL_eq, nL_qe, nI_ltI, nI_leI, nI_eq, nL_add, nL_dda, nI_add, nL_sub, pk_sub, nL_mul, nL_clamp, nI_cl, zchk_n, zchk_l, zb_s, zb2_s, zb3_s, zb3_e, zput_e, zjoin_e, zs_hit, zs_miss, nle_t, nle_f, nlt_t, nlt_f, neq_t, neq_f, ↓reduceIte, and_self, and_true, true_and, and_false, false_and, not_true_eq_false, not_false_eq_true, Nat.add_zero, zs_cell]; exact g4), zb_s, e7]
    have fin : ∀ (H : Int32), H = zbi ((zSB S).2.1 l).2.2.2.2.2.2 → ∃ g1, some (zset (zset (zset (zset (zset s 493 20 (g 494 (36 + 53 * l + 1))) 493 21 (g 494 (36 + 53 * l + 2))) 493 23 (zbi ((zSB S).2.1 l).2.2.2.2.2.1)) 493 24 H) 493 22 (s 494 4)) = some g1 ∧ zRR g1 ((zSB S).2.1 l) ((zSB S).2.1 l).1 (zSB S).2.2.1 ∧ zFQ g g1 := by
      intro H hH
      refine ⟨_, rfl, ⟨?_, fun i hi => ?_, ?_, ?_, ?_, ?_, ?_⟩, fun c h1 h2 h3 => ?_, fun k hk => ?_⟩
      · simp (disch := omega) only [nL_lt, nL_gt, nL_le, nL_ge, nL_eq, nL_qe, nI_ltI, nI_leI, nI_eq, nL_add, nL_dda, nI_add, nL_sub, pk_sub, nL_mul, nL_clamp, nI_cl, zchk_n, zchk_l, zb_s, zb2_s, zb3_s, zb3_e, zput_e, zjoin_e, zs_hit, zs_miss, nle_t, nle_f, nlt_t, nlt_f, neq_t, neq_f, ↓reduceIte, and_self, and_true, true_and, and_false, false_and, not_true_eq_false, not_false_eq_true, Nat.add_zero]; exact b1
      · simp (disch := omega) only [nL_lt, nL_gt, nL_le, nL_ge, nL_eq, nL_qe, nI_ltI, nI_leI, nI_eq, nL_add, nL_dda, nI_add, nL_sub, pk_sub, nL_mul, nL_clamp, nI_cl, zchk_n, zchk_l, zb_s, zb2_s, zb3_s, zb3_e, zput_e, zjoin_e, zs_hit, zs_miss, nle_t, nle_f, nlt_t, nlt_f, neq_t, neq_f, ↓reduceIte, and_self, and_true, true_and, and_false, false_and, not_true_eq_false, not_false_eq_true, Nat.add_zero]; exact b4 i hi
      · simp (disch := omega) only [nL_lt, nL_gt, nL_le, nL_ge, nL_eq, nL_qe, nI_ltI, nI_leI, nI_eq, nL_add, nL_dda, nI_add, nL_sub, pk_sub, nL_mul, nL_clamp, nI_cl, zchk_n, zchk_l, zb_s, zb2_s, zb3_s, zb3_e, zput_e, zjoin_e, zs_hit, zs_miss, nle_t, nle_f, nlt_t, nlt_f, neq_t, neq_f, ↓reduceIte, and_self, and_true, true_and, and_false, false_and, not_true_eq_false, not_false_eq_true, Nat.add_zero]; exact e4
      · simp (disch := omega) only [nL_lt, nL_gt, nL_le, nL_ge, nL_eq, nL_qe, nI_ltI, nI_leI, nI_eq, nL_add, nL_dda, nI_add, nL_sub, pk_sub, nL_mul, nL_clamp, nI_cl, zchk_n, zchk_l, zb_s, zb2_s, zb3_s, zb3_e, zput_e, zjoin_e, zs_hit, zs_miss, nle_t, nle_f, nlt_t, nlt_f, neq_t, neq_f, ↓reduceIte, and_self, and_true, true_and, and_false, false_and, not_true_eq_false, not_false_eq_true, Nat.add_zero]; exact e5
      · simp (disch := omega) only [nL_lt, nL_gt, nL_le, nL_ge, nL_eq, nL_qe, nI_ltI, nI_leI, nI_eq, nL_add, nL_dda, nI_add, nL_sub, pk_sub, nL_mul, nL_clamp, nI_cl, zchk_n, zchk_l, zb_s, zb2_s, zb3_s, zb3_e, zput_e, zjoin_e, zs_hit, zs_miss, nle_t, nle_f, nlt_t, nlt_f, neq_t, neq_f, ↓reduceIte, and_self, and_true, true_and, and_false, false_and, not_true_eq_false, not_false_eq_true, Nat.add_zero]; rw [g4]; exact c4
      · simp (disch := omega) only [nL_lt, nL_gt, nL_le, nL_ge, nL_eq, nL_qe, nI_ltI, nI_leI, nI_eq, nL_add, nL_dda, nI_add, nL_sub, pk_sub, nL_mul, nL_clamp, nI_cl, zchk_n, zchk_l, zb_s, zb2_s, zb3_s, zb3_e, zput_e, zjoin_e, zs_hit, zs_miss, nle_t, nle_f, nlt_t, nlt_f, neq_t, neq_f, ↓reduceIte, and_self, and_true, true_and, and_false, false_and, not_true_eq_false, not_false_eq_true, Nat.add_zero]
      · simp (disch := omega) only [nL_lt, nL_gt, nL_le, nL_ge, nL_eq, nL_qe, nI_ltI, nI_leI, nI_eq, nL_add, nL_dda, nI_add, nL_sub, pk_sub, nL_mul, nL_clamp, nI_cl, zchk_n, zchk_l, zb_s, zb2_s, zb3_s, zb3_e, zput_e, zjoin_e, zs_hit, zs_miss, nle_t, nle_f, nlt_t, nlt_f, neq_t, neq_f, ↓reduceIte, and_self, and_true, true_and, and_false, false_and, not_true_eq_false, not_false_eq_true, Nat.add_zero]; exact hH
      · simp (disch := omega) only [nL_lt, nL_gt, nL_le, nL_ge, nL_eq, nL_qe, nI_ltI, nI_leI, nI_eq, nL_add, nL_dda, nI_add, nL_sub, pk_sub, nL_mul, nL_clamp, nI_cl, zchk_n, zchk_l, zb_s, zb2_s, zb3_s, zb3_e, zput_e, zjoin_e, zs_hit, zs_miss, nle_t, nle_f, nlt_t, nlt_f, neq_t, neq_f, ↓reduceIte, and_self, and_true, true_and, and_false, false_and, not_true_eq_false, not_false_eq_true, Nat.add_zero, zs_cell]; exact b2 c h1 h3
      · simp (disch := omega) only [nL_lt, nL_gt, nL_le, nL_ge, nL_eq, nL_qe, nI_ltI, nI_leI, nI_eq, nL_add, nL_dda, nI_add, nL_sub, pk_sub, nL_mul, nL_clamp, nI_cl, zchk_n, zchk_l, zb_s, zb2_s, zb3_s, zb3_e, zput_e, zjoin_e, zs_hit, zs_miss, nle_t, nle_f, nlt_t, nlt_f, neq_t, neq_f, ↓reduceIte, and_self, and_true, true_and, and_false, false_and, not_true_eq_false, not_false_eq_true, Nat.add_zero]; exact b3 k hk
    cases hh : ((zSB S).2.1 l).2.2.2.2.2.2
    · simp (disch := omega) only [nL_lt, nL_gt, nL_le, nL_ge, nL_eq, nL_qe, nI_ltI, nI_leI, nI_eq, nL_add, nL_dda, nI_add, nL_sub, pk_sub, nL_mul, nL_clamp, nI_cl, zchk_n, zchk_l, zb_s, zb2_s, zb3_s, zb3_e, zput_e, zjoin_e, zs_hit, zs_miss, nle_t, nle_f, nlt_t, nlt_f, neq_t, neq_f, ↓reduceIte, and_self, and_true, true_and, and_false, false_and, not_true_eq_false, not_false_eq_true, Nat.add_zero, zbi_f, zi01]
      exact fin 0 (by rw [hh]; rfl)
    · simp (disch := omega) only [nL_lt, nL_gt, nL_le, nL_ge, nL_eq, nL_qe, nI_ltI, nI_leI, nI_eq, nL_add, nL_dda, nI_add, nL_sub, pk_sub, nL_mul, nL_clamp, nI_cl, zchk_n, zchk_l, zb_s, zb2_s, zb3_s, zb3_e, zput_e, zjoin_e, zs_hit, zs_miss, nle_t, nle_f, nlt_t, nlt_f, neq_t, neq_f, ↓reduceIte, and_self, and_true, true_and, and_false, false_and, not_true_eq_false, not_false_eq_true, Nat.add_zero, zbi_t]
      exact fin 1 (by rw [hh]; rfl)
theorem zRI.fq {S : zS} {g g1 : zM} (e : zRI S g) (hS : zSW S) (f : zFQ g g1) : zRI S g1 := e.fr hS f.fr
theorem r_looksAhead {S : zS} {g : zM} (hS : zSW S) (e : zRI S g) {l : Nat} (hl : l < (zSB S).1) {n : Nat} (hn : n ≤ 40) : ∃ g1, fX12_looksAhead (nI l) (nI n) g = some g1 ∧ zRR g1 (zah (zSL S) n ((zSB S).2.1 l, (zSB S).2.2.1)).1 (zah (zSL S) n ((zSB S).2.1 l, (zSB S).2.2.1)).1.1 (zah (zSL S) n ((zSB S).2.1 l, (zSB S).2.2.1)).2 ∧ zFQ g g1 := by
  obtain ⟨g1, a1, a2, a3⟩ := r_looksAt hS e hl
  obtain ⟨g2, b1, b2, b3⟩ := r_goesFor (p := ((zSB S).2.1 l, (zSB S).2.2.1)) hS.law (e.fq hS a3).law a2 (hS.letter hl) hn
  unfold fX12_looksAhead
  exact ⟨g2, by rw [a1, zb_s, b1, zb_s], b2, a3.trans b3⟩
theorem r_last {g : zM} {L : zL} {w : Int32} (e : zRR g L L.1 w) (hL : zLW L) : fX12_last g = some (nI (zlk L)) := by
  have h1 := hL.1
  have h2 := hL.2.1
  unfold fX12_last
  rw [e.1]
  simp (disch := omega) only [nL_lt, nL_gt, nL_le, nL_ge, nL_eq, nL_qe, nI_ltI, nI_leI, nI_eq, nL_add, nL_dda, nI_add, nL_sub, pk_sub, nL_mul, nL_clamp, nI_cl, zchk_n, zchk_l, zb_s, zb2_s, zb3_s, zb3_e, zput_e, zjoin_e, zs_hit, zs_miss, nle_t, nle_f, nlt_t, nlt_f, neq_t, neq_f, ↓reduceIte, and_self, and_true, true_and, and_false, false_and, not_true_eq_false, not_false_eq_true, Nat.add_zero]
  exact congrArg some (e.2.1 (L.1 - 1) (by omega))
def yws (W : Nat → Int32) (L : zL) : Int32 := zfo (fun i a => a + W (L.2.1 i)) L.1 0 0
theorem c_wordsIn {g : zM} {h : Nat} {V : zWd} (e : ∀ k, k < 12 → g (h + 34) k = V.2.2.1 k) {r : Nat} {L : zL} (eL : zCM g r L) (hL : zLW L) : fX10_wordsIn h r g = some (yws V.2.2.1 L) := by
  have h2 := hL.2.1
  unfold fX10_wordsIn yws
  refine zL_F0 (fun n i a => fX10_wordsIn_L4 h r g n a (nI i)) (fun i a => a + V.2.2.1 (L.2.1 i)) L.1 some 0 (by omega) (fun n i a hi => ?_) (fun n a => ?_)
  · have := hL.2.2 i hi
    simp only [fX10_wordsIn_L4, eL.1, eL.2.1 i hi, fX10_wordsFor]
    simp (disch := omega) only [nL_lt, nL_gt, nL_le, nL_ge, nL_eq, nL_qe, nI_ltI, nI_leI, nI_eq, nL_add, nL_dda, nI_add, nL_sub, pk_sub, nL_mul, nL_clamp, nI_cl, zchk_n, zchk_l, zb_s, zb2_s, zb3_s, zb3_e, zput_e, zjoin_e, zs_hit, zs_miss, nle_t, nle_f, nlt_t, nlt_f, neq_t, neq_f, ↓reduceIte, and_self, and_true, true_and, and_false, false_and, not_true_eq_false, not_false_eq_true, Nat.add_zero, eL.2.1, e]
  · simp only [fX10_wordsIn_L4, eL.1]
    simp (disch := omega) only [nL_lt, nL_gt, nL_le, nL_ge, nL_eq, nL_qe, nI_ltI, nI_leI, nI_eq, nL_add, nL_dda, nI_add, nL_sub, pk_sub, nL_mul, nL_clamp, nI_cl, zchk_n, zchk_l, zb_s, zb2_s, zb3_s, zb3_e, zput_e, zjoin_e, zs_hit, zs_miss, nle_t, nle_f, nlt_t, nlt_f, neq_t, neq_f, ↓reduceIte, and_self, and_true, true_and, and_false, false_and, not_true_eq_false, not_false_eq_true, Nat.add_zero]
theorem r_wordsNow {g : zM} {V : zWd} (e : ∀ k, k < 12 → g 494 (8 + k) = V.2.2.1 k) {L : zL} {w : Int32} (eR : zRR g L L.1 w) (hL : zLW L) : fX12_wordsNow g = some (yws V.2.2.1 L) := by
  have h2 := hL.2.1
  unfold fX12_wordsNow yws
  refine zL_F0 (fun n i a => fX12_wordsNow_L4 g n a (nI i)) (fun i a => a + V.2.2.1 (L.2.1 i)) L.1 some 0 (by omega) (fun n i a hi => ?_) (fun n a => ?_)
  · have := hL.2.2 i hi
    simp only [fX12_wordsNow_L4, eR.1]
    simp (disch := omega) only [nL_lt, nL_gt, nL_le, nL_ge, nL_eq, nL_qe, nI_ltI, nI_leI, nI_eq, nL_add, nL_dda, nI_add, nL_sub, pk_sub, nL_mul, nL_clamp, nI_cl, zchk_n, zchk_l, zb_s, zb2_s, zb3_s, zb3_e, zput_e, zjoin_e, zs_hit, zs_miss, nle_t, nle_f, nlt_t, nlt_f, neq_t, neq_f, ↓reduceIte, and_self, and_true, true_and, and_false, false_and, not_true_eq_false, not_false_eq_true, Nat.add_zero, eR.2.1, e]
  · simp only [fX12_wordsNow_L4, eR.1]
    simp (disch := omega) only [nL_lt, nL_gt, nL_le, nL_ge, nL_eq, nL_qe, nI_ltI, nI_leI, nI_eq, nL_add, nL_dda, nI_add, nL_sub, pk_sub, nL_mul, nL_clamp, nI_cl, zchk_n, zchk_l, zb_s, zb2_s, zb3_s, zb3_e, zput_e, zjoin_e, zs_hit, zs_miss, nle_t, nle_f, nlt_t, nlt_f, neq_t, neq_f, ↓reduceIte, and_self, and_true, true_and, and_false, false_and, not_true_eq_false, not_false_eq_true, Nat.add_zero]
