/-! THE THINGS of a text, one behind another -/
def zT (b : Nat → Nat) (n : Nat) : Nat → Nat
  | 0 => znb b n 0
  | k + 1 => znb b (n - zte b n (zT b n k)) (zte b n (zT b n k))
def znv (b : Nat → Nat) : Nat → Nat → Nat → Nat
  | 0, _, a => a
  | d + 1, p, a => znv b d (p + 1) (10 * a + b p - 48)
def zlg (b : Nat → Nat) (n p : Nat) : Nat := if n ≤ p then 0 else zte b n p - p
/-- the code of the thing at p -/
def zcd (b : Nat → Nat) (n p : Nat) : Nat := if n ≤ p then 1021 else if zso (b p) = 0 then 1100 + b p else if zso (b p) = 1 then zwcode b p (zte b n p - p) else if zte b n p - p ≤ 3 then znv b (zte b n p - p) p 0 else 1020
def zTx (n : Nat) (b : Nat → Nat) (N : Nat) : Prop := zTW n b ∧ N ≤ n ∧ zT b n N = n ∧ ∀ k, k < N → zT b n k < n
theorem zTx.w {n N : Nat} {b : Nat → Nat} (x : zTx n b N) : zTW n b := x.1
theorem zTx.le {n N : Nat} {b : Nat → Nat} (x : zTx n b N) : N ≤ n := x.2.1
theorem zTx.e {n N : Nat} {b : Nat → Nat} (x : zTx n b N) : zT b n N = n := x.2.2.1
theorem zTx.lt {n N : Nat} {b : Nat → Nat} (x : zTx n b N) : ∀ k, k < N → zT b n k < n := x.2.2.2
theorem zte_le {b : Nat → Nat} {n p : Nat} (h : p < n) : p < zte b n p ∧ zte b n p ≤ n := by
  unfold zte
  split
  · omega
  · have := zre_le (b := b) (c := zso (b p)) (n - (p + 1)) (p + 1)
    omega
theorem znb_le' {b : Nat → Nat} {n p : Nat} (h : p ≤ n) : p ≤ znb b (n - p) p ∧ znb b (n - p) p ≤ n := by
  have := znb_le (b := b) (n - p) p
  omega
theorem zT_le {b : Nat → Nat} {n : Nat} : ∀ k, (∀ j, j < k → zT b n j < n) → k ≤ zT b n k ∧ zT b n k ≤ n
  | 0, _ => by
    have := znb_le (b := b) n 0
    exact ⟨Nat.zero_le _, by show znb b n 0 ≤ n; omega⟩
  | k + 1, h => by
    have h1 := zT_le k (fun j hj => h j (by omega))
    have h2 := zte_le (b := b) (h k (by omega))
    have h3 := znb_le' (b := b) h2.2
    show k + 1 ≤ znb b (n - zte b n (zT b n k)) (zte b n (zT b n k)) ∧ znb b (n - zte b n (zT b n k)) (zte b n (zT b n k)) ≤ n
    omega
theorem zTx_ex {n : Nat} {b : Nat → Nat} (hT : zTW n b) : ∃ N, zTx n b N := by
  cases q : zff (fun k => decide (n ≤ zT b n k)) (n + 1) with
  | none =>
    exfalso
    have h : ∀ j, j < n + 1 → zT b n j < n := by
      intro j hj
      have := (List.find?_eq_none.mp q) j (List.mem_range.mpr hj)
      simpa using this
    have := zT_le n (fun j hj => h j (by omega))
    have := h n (by omega)
    omega
  | some N =>
    obtain ⟨h1, h2, h3⟩ := zff_lt q
    have h3' : ∀ k, k < N → zT b n k < n := fun k hk => by have := h3 k hk; simpa using this
    have h4 := zT_le N h3'
    have h2' : n ≤ zT b n N := by simpa using h2
    exact ⟨N, hT, by omega, by omega, h3'⟩
theorem zTx.le_n {n N : Nat} {b : Nat → Nat} (x : zTx n b N) {k : Nat} (h : k ≤ N) : zT b n k ≤ n := (zT_le k (fun j hj => x.lt j (by omega))).2
theorem zTx.b400 {n N : Nat} {b : Nat → Nat} (x : zTx n b N) : n ≤ 400 := x.w.1
theorem zso_2 {x : Nat} : zso x = 2 ↔ 48 ≤ x ∧ x ≤ 57 := by
  unfold zso
  split
  · omega
  · split <;> omega
theorem zso_1 {x : Nat} : zso x = 1 ↔ 97 ≤ x ∧ x ≤ 122 := by
  unfold zso
  split
  · omega
  · split <;> omega
theorem zre_run {b : Nat → Nat} {c : Nat} : ∀ d p j, p ≤ j → j < zre b c d p → zso (b j) = c
  | 0, p, j, h1, h2 => by
    have : j < p := h2
    omega
  | d + 1, p, j, h1, h2 => by
    unfold zre at h2
    split at h2
    · by_cases q : j = p
      · subst q; assumption
      · exact zre_run d (p + 1) j (by omega) h2
    · omega
theorem zre_end {b : Nat → Nat} {c : Nat} : ∀ d p, zre b c d p < p + d → zso (b (zre b c d p)) ≠ c
  | 0, p, h => by
    have : p < p := h
    omega
  | d + 1, p, h => by
    unfold zre at h ⊢
    split
    · rw [if_pos (by assumption)] at h
      exact zre_end d (p + 1) (by omega)
    · assumption
/-- a run from p on ends where the thing ends -/
theorem zte_re {b : Nat → Nat} {n p : Nat} (h : p < n) (h0 : zso (b p) ≠ 0) : zte b n p = zre b (zso (b p)) (n - p) p := by
  unfold zte
  rw [if_neg h0, show n - p = (n - (p + 1)) + 1 from by omega]
  show _ = if zso (b p) = zso (b p) then zre b (zso (b p)) (n - (p + 1)) (p + 1) else p
  rw [if_pos rfl]
theorem znv_lt {b : Nat → Nat} : ∀ d p a, (∀ j, p ≤ j → j < p + d → 48 ≤ b j ∧ b j ≤ 57) → znv b d p a + 1 ≤ 10 ^ d * (a + 1)
  | 0, p, a, _ => by
    show a + 1 ≤ 1 * (a + 1)
    omega
  | d + 1, p, a, h => by
    have h1 := h p (Nat.le_refl _) (by omega)
    have h2 := znv_lt d (p + 1) (10 * a + b p - 48) (fun j h3 h4 => h j (by omega) (by omega))
    have h3 : 10 ^ d * (10 * a + b p - 48 + 1) ≤ 10 ^ d * (10 * (a + 1)) := Nat.mul_le_mul_left _ (by omega)
    have h4 : 10 ^ (d + 1) * (a + 1) = 10 ^ d * (10 * (a + 1)) := by rw [Nat.pow_succ, Nat.mul_assoc]
    show znv b d (p + 1) (10 * a + b p - 48) + 1 ≤ _
    omega
theorem zdig {b : Nat → Nat} {n p : Nat} (h : p < n) (h2 : zso (b p) = 2) : ∀ j, p ≤ j → j < p + (zte b n p - p) → 48 ≤ b j ∧ b j ≤ 57 := by
  have h0 := zte_re (b := b) h (by omega)
  have h1 := zte_le (b := b) h
  intro j h3 h4
  rw [h2] at h0
  exact zso_2.mp (zre_run (n - p) p j h3 (by omega))
theorem znv_3 {b : Nat → Nat} {n p : Nat} (h : p < n) (h2 : zso (b p) = 2) (h3 : zte b n p - p ≤ 3) : znv b (zte b n p - p) p 0 ≤ 999 := by
  have h4 := znv_lt (zte b n p - p) p 0 (zdig h h2)
  have : 10 ^ (zte b n p - p) ≤ 10 ^ 3 := Nat.pow_le_pow_right (by omega) h3
  omega
theorem zcd_lt {n N : Nat} {b : Nat → Nat} (x : zTx n b N) {k : Nat} (h : k < N) : zcd b n (zT b n k) ≠ 1021 := by
  have h1 := x.lt k h
  have hb := x.w.2 _ h1
  generalize zT b n k = p at *
  unfold zcd
  rw [if_neg (by omega)]
  split
  · omega
  · split
    · unfold zwcode
      cases q : zff (zwm b p (zte b n p - p)) 19 with
      | none => decide
      | some i =>
        have := (zff_lt q).1
        show 1000 + i ≠ 1021
        omega
    · split
      · have := zso_3 (x := b p)
        have := znv_3 (b := b) h1 (by omega) (by assumption)
        omega
      · decide
