/-! THE WORDS of the texts -/
def zw : List Nat := [104, 111, 116, 32, 119, 105, 110, 116, 101, 114, 32, 108, 101, 110, 103, 116, 104, 32, 116, 101, 109, 112, 101, 114, 32, 98, 101, 102, 111, 114, 101, 32, 119, 101, 101, 107, 32, 115, 101, 97, 115, 111, 110, 32, 115, 101, 110, 100, 101, 114, 32, 110, 111, 116, 32, 97, 110, 100, 32, 111, 114, 32, 116, 111, 32, 105, 102, 32, 108, 101, 116, 116, 101, 114, 32, 102, 114, 111, 109, 32, 119, 111, 114, 100, 115, 32, 112, 114, 111, 109, 105, 115, 101, 32, 115, 108, 105, 112, 32, 111, 112, 101, 110]
def zwc (j : Nat) : Nat := zw.getD j 0
def zst (i : Nat) : Nat := [0, 4, 11, 18, 25, 32, 37, 44, 51, 55, 59, 62, 65, 68, 75, 80, 86, 94, 99, 104].getD i 0
def zwe (i : Nat) : Nat := [3, 10, 17, 24, 31, 36, 43, 50, 54, 58, 61, 64, 67, 74, 79, 85, 93, 98, 103].getD i 0
theorem w_len : fStr_length 0 = some (nI 103) := by decide +kernel
theorem w_at : ∀ j, j < 103 → fStr_charAt 0 (nI j) = some (nI (zwc j)) := by decide +kernel
theorem w_128 : ∀ j, j < 103 → zwc j < 128 := by decide +kernel
theorem w_no : ∀ i, i < 19 → ∀ q, q < 103 → zst i ≤ q → q < zwe i → zwc q ≠ 32 := by decide +kernel
theorem w_row : ∀ i, i < 19 → zst (i + 1) = zwe i + 1 ∧ zwe i ≤ 103 ∧ zst i < zwe i ∧ (zwe i = 103 ∨ zwc (zwe i) = 32) := by decide +kernel
/-- where a word differs from the text -/
def zkm (b : Nat → Nat) (s p : Nat) : Nat → Bool := fun j => decide (zwc (s + j) ≠ b (p + j))
theorem c_isKnown {g : zM} {h n : Nat} {b : Nat → Nat} (hT : zTW n b) (e : zTC g h n b) {s p len : Nat} (hs : s + len ≤ 103) (hp : p + len ≤ n) : fX9_isKnown h (nI s) (nI p) (nI len) g = some (if (zff (zkm b s p) len).isNone = true then 1 else 0) := by
  have h4 := hT.1
  unfold fX9_isKnown
  refine (zL_P (fun n i => fX9_isKnown_L3 h (nI s) (nI p) (nI len) g n (nI i)) (zkm b s p) len (fun _ => some 0) (some 1) (by omega) (fun m i hi => ?_) (fun m => ?_)).trans ?_
  · have hb := hT.2 (p + i) (by omega)
    have hw := w_128 (s + i) (by omega)
    show fX9_isKnown_L3 h (nI s) (nI p) (nI len) g (m + 1) (nI i) = if zkm b s p i = true then some 0 else fX9_isKnown_L3 h (nI s) (nI p) (nI len) g m (nI (i + 1))
    rw [fX9_isKnown_L3, if_neg (by rw [nI_leI (by omega) (by omega)]; omega), w_len, zb_s, nI_add, nI_add, if_neg (by rw [nI_leI (by omega) (by omega)]; omega), e.1, if_neg (by rw [nI_leI (by omega) (by omega)]; omega), w_at _ (by omega), zb_s, zchk_n (by omega) (by omega), nI_cl (by omega), e.2 _ (by omega), nI_1]
    unfold zkm
    by_cases q : zwc (s + i) = b (p + i)
    · rw [if_pos (by rw [q]), if_neg (by simp [q])]
    · rw [if_neg (by rw [nI_eq (by omega) (by omega)]; exact q), if_pos (by simp [q])]
  · show fX9_isKnown_L3 h (nI s) (nI p) (nI len) g (m + 1) (nI len) = some 1
    rw [fX9_isKnown_L3, if_pos (Int32.le_refl _)]
  · cases zff (zkm b s p) len <;> rfl
def zwm (b : Nat → Nat) (t len i : Nat) : Bool := decide (zwe i - zst i = len) && (zff (zkm b (zst i) t) len).isNone
def zwcode (b : Nat → Nat) (t len : Nat) : Nat := match zff (zwm b t len) 19 with
  | some i => 1000 + i
  | none => 1019
theorem w_in {g : zM} {h : Nat} {v1 v2 v3 v4 : Int32} {q m : Nat} (hq : q < 103) (h32 : zwc q ≠ 32) : fX9_wordCode_L10 h v1 v2 g (m + 1) v3 v4 (nI q) = fX9_wordCode_L10 h v1 v2 g m v3 v4 (nI (q + 1)) := by
  have hw := w_128 q hq
  rw [fX9_wordCode_L10, w_len, zb_s, if_neg (by rw [nI_ltI (by omega) (by omega)]; omega), zb_s, zjoin_e, if_neg (by rw [nI_eq (by omega) (by omega)]; omega), w_at q hq, zb_s, if_neg (by rw [nL_eq (by omega) (by decide)]; exact h32), nI_1]
theorem w_out {g : zM} {h : Nat} {v1 v2 v3 v4 : Int32} {q m : Nat} (hq : q = 103 ∨ q < 103 ∧ zwc q = 32) : fX9_wordCode_L10 h v1 v2 g (m + 1) v3 v4 (nI q) = if nI q - v4 = v2 then zb (fX9_isKnown h v4 v1 v2 g) (fun r_6 => if r_6 = 0 then fX9_wordCode_L10 h v1 v2 g m (v3 + 1) (nI q + 1) (nI q + 1) else some v3) else fX9_wordCode_L10 h v1 v2 g m (v3 + 1) (nI q + 1) (nI q + 1) := by
  rw [fX9_wordCode_L10, w_len, zb_s, if_neg (by rw [nI_ltI (by omega) (by omega)]; omega), zb_s, zjoin_e]
  rcases hq with rfl | ⟨hq, h32⟩
  · rw [if_pos rfl]
  · rw [if_neg (by rw [nI_eq (by omega) (by omega)]; omega), w_at q hq, zb_s, if_pos (by rw [h32]; rfl)]
theorem w_run {g : zM} {h : Nat} {v1 v2 v3 v4 : Int32} {i : Nat} (hi : i < 19) : ∀ d q m, q + d = zwe i → zst i ≤ q → fX9_wordCode_L10 h v1 v2 g (m + d) v3 v4 (nI q) = fX9_wordCode_L10 h v1 v2 g m v3 v4 (nI (zwe i)) := by
  have hr := w_row i hi
  intro d
  induction d with
  | zero => intro q m hq _; rw [show q = zwe i from hq]; rfl
  | succ d ih =>
    intro q m hq hs
    rw [show m + (d + 1) = m + d + 1 from rfl, w_in (by omega) (w_no i hi q (by omega) hs (by omega))]
    exact ih (q + 1) m (by omega) (by omega)
theorem w_word {g : zM} {h n : Nat} {b : Nat → Nat} (hT : zTW n b) (e : zTC g h n b) {t len : Nat} (ht : t + len ≤ n) {i m : Nat} (hi : i < 19) : fX9_wordCode_L10 h (nI t) (nI len) g (m + 1 + (zwe i - zst i)) (nI (1000 + i)) (nI (zst i)) (nI (zst i)) = if zwm b t len i = true then some (nI (1000 + i)) else fX9_wordCode_L10 h (nI t) (nI len) g m (nI (1000 + i + 1)) (nI (zst (i + 1))) (nI (zst (i + 1))) := by
  have hr := w_row i hi
  have h4 := hT.1
  rw [w_run hi (zwe i - zst i) (zst i) (m + 1) (by omega) (Nat.le_refl _), w_out (by omega), nI_1, nI_1, ← hr.1, show nI (zwe i) - nI (zst i) = nI (zwe i - zst i) from pk_sub (by omega)]
  unfold zwm
  by_cases q : zwe i - zst i = len
  · rw [if_pos (by rw [q]), c_isKnown hT e (by omega) ht, zb_s]
    by_cases q2 : (zff (zkm b (zst i) t) len).isNone = true
    · rw [if_pos q2, if_neg (by decide), if_pos (by simp [q, q2])]
    · rw [if_neg q2, if_pos rfl, if_neg (by simp [q2])]
  · rw [if_neg (by rw [nI_eq (by omega) (by omega)]; exact q), if_neg (by simp [q])]
theorem w_all {g : zM} {h n : Nat} {b : Nat → Nat} (hT : zTW n b) (e : zTC g h n b) {t len : Nat} (ht : t + len ≤ n) : ∀ d i m, i + d = 19 → (∀ j, j < i → zwm b t len j = false) → fX9_wordCode_L10 h (nI t) (nI len) g (m + 1 + (104 - zst i)) (nI (1000 + i)) (nI (zst i)) (nI (zst i)) = some (nI (zwcode b t len)) := by
  intro d
  induction d with
  | zero =>
    intro i m hi hp
    obtain rfl : i = 19 := hi
    have : zwcode b t len = 1019 := by unfold zwcode; rw [zff_none hp]
    rw [this]
    show fX9_wordCode_L10 h (nI t) (nI len) g (m + 1) (nI 1019) (nI 104) (nI 104) = _
    rw [fX9_wordCode_L10, w_len, zb_s, if_pos (by decide)]
    rfl
  | succ d ih =>
    intro i m hi hp
    have hr := w_row i (by omega)
    rw [show m + 1 + (104 - zst i) = (m + 1 + (104 - zst (i + 1))) + 1 + (zwe i - zst i) from by omega, w_word hT e ht (by omega)]
    by_cases q : zwm b t len i = true
    · have : zwcode b t len = 1000 + i := by unfold zwcode; rw [zff_some (by omega) hp q]
      rw [if_pos q, this]
    · rw [if_neg q]
      refine ih (i + 1) m (by omega) (fun j hj => ?_)
      by_cases q2 : j = i
      · subst q2; simpa using q
      · exact hp j (by omega)
theorem c_wordCode {g : zM} {h n : Nat} {b : Nat → Nat} (hT : zTW n b) (e : zTC g h n b) {t len : Nat} (ht : t + len ≤ n) : fX9_wordCode h (nI t) (nI len) g = some (nI (zwcode b t len)) := by
  unfold fX9_wordCode
  exact w_all hT e ht 19 0 99895 rfl (fun j hj => absurd hj (Nat.not_lt_zero _))
