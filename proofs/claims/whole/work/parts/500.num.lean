/-! PURE PART: the functions of the class against those of the reference. Numbers, cells, loops. -/
theorem nL_lt {a n : Nat} (ha : a < 2147483648) (hn : (OfNat.ofNat n : Nat) < 2147483648) : nI a < (no_index (OfNat.ofNat n) : Int32) ↔ a < OfNat.ofNat n := nI_ltI ha hn
theorem nL_gt {a n : Nat} (ha : a < 2147483648) (hn : (OfNat.ofNat n : Nat) < 2147483648) : (no_index (OfNat.ofNat n) : Int32) < nI a ↔ OfNat.ofNat n < a := nI_ltI hn ha
theorem nL_le {a n : Nat} (ha : a < 2147483648) (hn : (OfNat.ofNat n : Nat) < 2147483648) : nI a ≤ (no_index (OfNat.ofNat n) : Int32) ↔ a ≤ OfNat.ofNat n := nI_leI ha hn
theorem nL_ge {a n : Nat} (ha : a < 2147483648) (hn : (OfNat.ofNat n : Nat) < 2147483648) : (no_index (OfNat.ofNat n) : Int32) ≤ nI a ↔ OfNat.ofNat n ≤ a := nI_leI hn ha
theorem nL_eq {a n : Nat} (ha : a < 2147483648) (hn : (OfNat.ofNat n : Nat) < 2147483648) : nI a = (no_index (OfNat.ofNat n) : Int32) ↔ a = OfNat.ofNat n := nI_eq ha hn
theorem nL_qe {a n : Nat} (ha : a < 2147483648) (hn : (OfNat.ofNat n : Nat) < 2147483648) : (no_index (OfNat.ofNat n) : Int32) = nI a ↔ OfNat.ofNat n = a := nI_eq hn ha
theorem nL_add {a n : Nat} : nI a + (no_index (OfNat.ofNat n) : Int32) = nI (a + OfNat.ofNat n) := nI_add a n
theorem nL_dda {a n : Nat} : (no_index (OfNat.ofNat n) : Int32) + nI a = nI (OfNat.ofNat n + a) := nI_add n a
theorem nL_sub {a n : Nat} (h : OfNat.ofNat n ≤ a) : nI a - (no_index (OfNat.ofNat n) : Int32) = nI (a - OfNat.ofNat n) := pk_sub h
theorem nL_mul {a n : Nat} : (no_index (OfNat.ofNat n) : Int32) * nI a = nI (OfNat.ofNat n * a) := pk_mul n a
theorem nL_div {a n : Nat} (ha : a < 2147483648) (h0 : 0 < (OfNat.ofNat n : Nat)) (hn : (OfNat.ofNat n : Nat) < 2147483648) : nI a / (no_index (OfNat.ofNat n) : Int32) = nI (a / OfNat.ofNat n) := pk_div ha h0 hn
theorem nL_clamp {n : Nat} (hn : (OfNat.ofNat n : Nat) < 2147483648) : (no_index (OfNat.ofNat n) : Int32).toNatClampNeg = OfNat.ofNat n := nI_clamp hn
theorem nI_cl {n : Nat} (hn : n < 2147483648) : (nI n).toNatClampNeg = n := nI_clamp hn
theorem nI_m1 {a : Nat} (ha : a < 2147483648) : (nI a = -1) = False := by
  apply eq_false
  intro h
  have h2 := congrArg Int32.toInt h
  rw [nI_toInt ha] at h2
  have : (-1 : Int32).toInt = -1 := by decide
  omega
theorem m1_nI {a : Nat} (ha : a < 2147483648) : (-1 = nI a) = False := by
  rw [eq_comm (a := (-1 : Int32))]; exact nI_m1 ha
theorem nI_m1p {a : Nat} (h : 1 ≤ a) : nI a + (-1) = nI (a - 1) := by
  obtain ⟨b, rfl⟩ : ∃ b, a = b + 1 := ⟨a - 1, by omega⟩
  rw [pk_m1]; rfl
theorem zchk_n {α : Type} {i N : Nat} {x : Option α} (h : i < N) (hN : N < 2147483648) : zchk (nI i) N x = x := if_neg (nI_in h hN)
theorem zchk_l {α : Type} {n N : Nat} {x : Option α} (h : (OfNat.ofNat n : Nat) < N) (hN : N < 2147483648) : zchk (no_index (OfNat.ofNat n) : Int32) N x = x := if_neg (nI_in (c := OfNat.ofNat n) h hN)
theorem zs_hit {g : zM} {a k b j : Nat} {v : Int32} (h : b = a ∧ j = k) : zset g a k v b j = v := if_pos h
theorem zs_miss {g : zM} {a k b j : Nat} {v : Int32} (h : ¬ (b = a ∧ j = k)) : zset g a k v b j = g b j := if_neg h
theorem zs_cell {g : zM} {a k b : Nat} {v : Int32} (h : b ≠ a) : zset g a k v b = g b := by
  funext j
  exact if_neg (fun q => h q.1)
theorem zc_hit {g : zM} {a sp b dp n c j : Nat} (h : c = b ∧ dp ≤ j ∧ j < dp + n) : zcopy g a sp b dp n c j = g a (sp + (j - dp)) := if_pos h
theorem zc_miss {g : zM} {a sp b dp n c j : Nat} (h : ¬ (c = b ∧ dp ≤ j ∧ j < dp + n)) : zcopy g a sp b dp n c j = g c j := if_neg h
theorem zc_cell {g : zM} {a sp b dp n c : Nat} (h : c ≠ b) : zcopy g a sp b dp n c = g c := by
  funext j
  exact if_neg (fun q => h q.1)
theorem zb_s {α β : Type} {a : α} {f : α → Option β} : zb (some a) f = f a := id rfl
theorem zb2_s {α β : Type} {a : α} {g : zM} {f : α → zM → Option β} : zb2 (some (a, g)) f = f a g := id rfl
theorem zb3_s {α β : Type} {a : α} {g : zM} {f : α → zM → Option (Except Nat β × zM)} : zb3 (some (.ok a, g)) f = f a g := id rfl
theorem zb3_e {α β : Type} {c : Nat} {g : zM} {f : α → zM → Option (Except Nat β × zM)} : zb3 (some (.error c, g)) f = some (.error c, g) := id rfl
theorem zput_e {α : Type} {g : zM} {a k : Nat} {v : Int32} {f : zM → α} : zput g a k v f = f (zset g a k v) := id rfl
theorem zjoin_e {γ α : Type} {k : γ} {f : γ → α} : zjoin k f = f k := id rfl
theorem zjoin_ite {γ α : Type} {K : γ → α} {c : Prop} [Decidable c] {a b : γ} : zjoin K (fun k => if c then k a else k b) = K (if c then a else b) := by
  unfold zjoin
  split <;> rfl
theorem zjoin_ite2 {γ δ α : Type} {K : γ → δ → α} {c : Prop} [Decidable c] {a b : γ} {u v : δ} : zjoin K (fun k => if c then k a u else k b v) = K (if c then a else b) (if c then u else v) := by
  unfold zjoin
  split <;> rfl
theorem nle_t {a b : Nat} (h : a ≤ b) : (a ≤ b) = True := eq_true h
theorem nle_f {a b : Nat} (h : ¬ a ≤ b) : (a ≤ b) = False := eq_false h
theorem nlt_t {a b : Nat} (h : a < b) : (a < b) = True := eq_true h
theorem nlt_f {a b : Nat} (h : ¬ a < b) : (a < b) = False := eq_false h
theorem neq_t {a b : Nat} (h : a = b) : (a = b) = True := eq_true h
theorem neq_f {a b : Nat} (h : ¬ a = b) : (a = b) = False := eq_false h
def zbi (b : Bool) : Int32 := if b then 1 else 0
theorem zbi_t : zbi true = 1 := id rfl
theorem zbi_f : zbi false = 0 := id rfl
theorem zbo_b {α : Type} {b : Bool} {x : Option α} : zbo (zbi b) x = x := by
  cases b
  · exact if_pos (Or.inl rfl)
  · exact if_pos (Or.inr rfl)
theorem zbo_0 {α : Type} {x : Option α} : zbo 0 x = x := if_pos (Or.inl rfl)
theorem zbo_1 {α : Type} {x : Option α} : zbo 1 x = x := if_pos (Or.inr rfl)
theorem zbi_0 {b : Bool} : zbi b = 0 ↔ b = false := by cases b <;> decide
theorem zbi_1 {b : Bool} : zbi b = 1 ↔ b = true := by cases b <;> decide
theorem zi10 : ((1 : Int32) = 0) = False := by decide
theorem zi01 : ((0 : Int32) = 1) = False := by decide
def zup {α : Type} (f : Nat → α) (k : Nat) (x : α) : Nat → α := fun j => if j = k then x else f j
theorem zup_hit {α : Type} {f : Nat → α} {k j : Nat} {x : α} (h : j = k) : zup f k x j = x := if_pos h
theorem zup_miss {α : Type} {f : Nat → α} {k j : Nat} {x : α} (h : j ≠ k) : zup f k x j = f j := if_neg h
def zoi : Option Nat → Int32
  | none => -1
  | some k => nI k
/-! loops -/
theorem zL_Q {σ β : Type} (F : Nat → Nat → σ → Option β) (I : Nat → σ → Prop) (N : Nat) (Q : Option β → Prop) (hs : ∀ n i s, i < N → I i s → Q (F (n + 1) i s) ∨ ∃ s', I (i + 1) s' ∧ F (n + 1) i s = F n (i + 1) s') (he : ∀ n s, I N s → Q (F (n + 1) N s)) : ∀ d i n s, i + d = N → d < n → I i s → Q (F n i s) := by
  intro d
  induction d with
  | zero =>
    intro i n s hi hn h
    obtain ⟨m, rfl⟩ : ∃ m, n = m + 1 := ⟨n - 1, by omega⟩
    obtain rfl : i = N := hi
    exact he m s h
  | succ d ih =>
    intro i n s hi hn h
    obtain ⟨m, rfl⟩ : ∃ m, n = m + 1 := ⟨n - 1, by omega⟩
    rcases hs m i s (by omega) h with q | ⟨s', q1, q2⟩
    · exact q
    · rw [q2]
      exact ih (i + 1) m s' (by omega) (by omega) q1
/-- from 0 on, with all the fuel -/
theorem zL_Q0 {σ β : Type} (F : Nat → Nat → σ → Option β) (I : Nat → σ → Prop) (N : Nat) (Q : Option β → Prop) (s : σ) (hN : N < 100000) (h0 : I 0 s) (hs : ∀ n i s, i < N → I i s → Q (F (n + 1) i s) ∨ ∃ s', I (i + 1) s' ∧ F (n + 1) i s = F n (i + 1) s') (he : ∀ n s, I N s → Q (F (n + 1) N s)) : Q (F zFU 0 s) :=
  zL_Q F I N Q hs he N 0 zFU s (by omega) hN h0
def zfo {α : Type} (f : Nat → α → α) : Nat → Nat → α → α
  | 0, _, a => a
  | d + 1, i, a => zfo f d (i + 1) (f i a)
theorem zL_F {α β : Type} (F : Nat → Nat → α → Option β) (f : Nat → α → α) (N : Nat) (K : α → Option β) (hs : ∀ n i a, i < N → F (n + 1) i a = F n (i + 1) (f i a)) (he : ∀ n a, F (n + 1) N a = K a) : ∀ d i n a, i + d = N → d < n → F n i a = K (zfo f d i a) := by
  intro d
  induction d with
  | zero =>
    intro i n a hi hn
    obtain ⟨m, rfl⟩ : ∃ m, n = m + 1 := ⟨n - 1, by omega⟩
    obtain rfl : i = N := hi
    exact he m a
  | succ d ih =>
    intro i n a hi hn
    obtain ⟨m, rfl⟩ : ∃ m, n = m + 1 := ⟨n - 1, by omega⟩
    rw [hs m i a (by omega), ih (i + 1) m _ (by omega) (by omega)]
    rfl
theorem zL_F0 {α β : Type} (F : Nat → Nat → α → Option β) (f : Nat → α → α) (N : Nat) (K : α → Option β) (a : α) (hN : N < 100000) (hs : ∀ n i a, i < N → F (n + 1) i a = F n (i + 1) (f i a)) (he : ∀ n a, F (n + 1) N a = K a) : F zFU 0 a = K (zfo f N 0 a) :=
  zL_F F f N K hs he N 0 zFU a (by omega) hN
theorem zfo_congr {α : Type} {f f' : Nat → α → α} {N : Nat} (h : ∀ i a, i < N → f i a = f' i a) : ∀ d i a, i + d ≤ N → zfo f d i a = zfo f' d i a := by
  intro d
  induction d with
  | zero => intro i a _; rfl
  | succ d ih =>
    intro i a hi
    show zfo f d (i + 1) (f i a) = zfo f' d (i + 1) (f' i a)
    rw [h i a (by omega), ih (i + 1) _ (by omega)]
/-- the first i below N with p -/
def zff (p : Nat → Bool) (N : Nat) : Option Nat := (List.range N).find? p
theorem zff_some {p : Nat → Bool} {N i : Nat} (hi : i < N) (h : ∀ j, j < i → p j = false) (hp : p i = true) : zff p N = some i := by
  unfold zff
  rw [List.find?_range_eq_some]
  exact ⟨hp, List.mem_range.mpr hi, fun j hj => by rw [h j hj]; rfl⟩
theorem zff_none {p : Nat → Bool} {N : Nat} (h : ∀ j, j < N → p j = false) : zff p N = none := by
  unfold zff
  rw [List.find?_eq_none]
  intro j hj
  rw [h j (List.mem_range.mp hj)]
  exact Bool.false_ne_true
theorem zff_lt {p : Nat → Bool} {N i : Nat} (h : zff p N = some i) : i < N ∧ p i = true ∧ ∀ j, j < i → p j = false := by
  unfold zff at h
  rw [List.find?_range_eq_some] at h
  refine ⟨List.mem_range.mp h.2.1, h.1, fun j hj => ?_⟩
  have := h.2.2 j hj
  cases e : p j
  · rfl
  · rw [e] at this; exact absurd this (by decide)
/-- a loop that looks for the first, without memory -/
theorem zL_P {β : Type} (F : Nat → Nat → Option β) (p : Nat → Bool) (N : Nat) (R : Nat → Option β) (E : Option β) (hN : N < 100000) (hs : ∀ n i, i < N → F (n + 1) i = if p i = true then R i else F n (i + 1)) (he : ∀ n, F (n + 1) N = E) : F zFU 0 = match zff p N with | some j => R j | none => E := by
  refine zL_Q0 (fun n i (_ : Unit) => F n i) (fun i _ => ∀ j, j < i → p j = false) N (fun r => r = match zff p N with | some j => R j | none => E) () hN (fun j hj => by omega) (fun n i s hi h => ?_) (fun n s h => ?_)
  · rw [hs n i hi]
    cases hp : p i
    · refine Or.inr ⟨(), fun j hj => ?_, by simp⟩
      rcases Nat.lt_succ_iff_lt_or_eq.mp hj with q | q
      · exact h j q
      · rw [q]; exact hp
    · left
      rw [zff_some hi h hp]
      simp
  · rw [he, zff_none h]
theorem zfo_end {α : Type} {f : Nat → α → α} : ∀ {d i : Nat} {a : α}, zfo f (d + 1) i a = f (i + d) (zfo f d i a)
  | 0, _, _ => rfl
  | d + 1, i, a => by
    show zfo f (d + 1) (i + 1) (f i a) = f (i + (d + 1)) (zfo f d (i + 1) (f i a))
    rw [zfo_end, show i + 1 + d = i + (d + 1) from by omega]
theorem zfo_s {α : Type} {f : Nat → α → α} {d : Nat} {a : α} : zfo f (d + 1) 0 a = f d (zfo f d 0 a) := by rw [zfo_end, Nat.zero_add]
theorem zff_up {p : Nat → Bool} {N : Nat} : (zff p (N + 1)).isSome = ((zff p N).isSome || p N) := by
  unfold zff
  rw [List.range_succ, List.find?_append]
  cases (List.range N).find? p with
  | some x => rfl
  | none => cases q : p N <;> simp [q]
/-- looking from s on -/
theorem zL_P1 {β : Type} (F : Nat → Nat → Option β) (p : Nat → Bool) (s N : Nat) (R : Nat → Option β) (E : Option β) (hN : N < 100000) (hsN : s ≤ N) (hs : ∀ n i, s ≤ i → i < N → F (n + 1) i = if p i = true then R i else F n (i + 1)) (he : ∀ n, F (n + 1) N = E) : F zFU s = match zff (fun i => decide (s ≤ i) && p i) N with | some j => R j | none => E := by
  refine zL_Q (fun n i (_ : Unit) => F n i) (fun i _ => s ≤ i ∧ ∀ j, j < i → (decide (s ≤ j) && p j) = false) N (fun r => r = match zff (fun i => decide (s ≤ i) && p i) N with | some j => R j | none => E) (fun n i u hi h => ?_) (fun n u h => ?_) (N - s) s zFU () (by omega) (by unfold zFU; omega) ⟨Nat.le_refl _, fun j hj => by simp; omega⟩
  · rw [hs n i h.1 hi]
    cases hp : p i
    · refine Or.inr ⟨(), ⟨by omega, fun j hj => ?_⟩, by simp⟩
      rcases Nat.lt_succ_iff_lt_or_eq.mp hj with q | q
      · exact h.2 j q
      · rw [q, hp]; simp
    · left
      rw [zff_some hi h.2 (by rw [hp]; simp [h.1])]
      simp
  · rw [he, zff_none h.2]
