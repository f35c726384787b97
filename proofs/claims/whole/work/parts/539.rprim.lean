/-! the reference's steps through the things -/
theorem znb_nb {b : Nat → Nat} : ∀ d p, znb b d p < p + d → b (znb b d p) ≠ 32
  | 0, p, h => by
    have : p < p := h
    omega
  | d + 1, p, h => by
    unfold znb at h ⊢
    split
    · rw [if_pos (by assumption)] at h
      exact znb_nb d (p + 1) (by omega)
    · assumption
theorem znb_no {b : Nat → Nat} {d p : Nat} (h : d = 0 ∨ b p ≠ 32) : znb b d p = p := by
  cases d with
  | zero => rfl
  | succ d =>
    unfold znb
    rcases h with h | h
    · omega
    · rw [if_neg h]
theorem zT_nb {n N k : Nat} {b : Nat → Nat} (x : zTx n b N) (hk : k ≤ N) : znb b (n - zT b n k) (zT b n k) = zT b n k := by
  have h := x.le_n hk
  by_cases q : zT b n k = n
  · exact znb_no (Or.inl (by omega))
  · refine znb_no (Or.inr ?_)
    cases k with
    | zero =>
      have : znb b n 0 < 0 + n := by
        have e : zT b n 0 = znb b n 0 := rfl
        omega
      exact znb_nb n 0 this
    | succ k =>
      have h1 := zte_le (b := b) (x.lt k (by omega))
      have e : zT b n (k + 1) = znb b (n - zte b n (zT b n k)) (zte b n (zT b n k)) := rfl
      rw [e] at h q ⊢
      exact znb_nb _ _ (by omega)
def zRP (g : zM) (n : Nat) (b : Nat → Nat) (N k : Nat) : Prop := zTR g n b ∧ k ≤ N ∧ ∃ p, p ≤ n ∧ g 493 10 = nI p ∧ znb b (n - p) p = zT b n k
/-- letters passed: from begin to point -/
def zRt (g : zM) (n : Nat) (b : Nat → Nat) (N k : Nat) : Prop := zTR g n b ∧ k ≤ N ∧ g 493 12 = nI (zT b n k) ∧ g 493 10 = nI (zre b 1 (n - zT b n k) (zT b n k))
theorem zRP.fr {g g1 : zM} {n N k : Nat} {b : Nat → Nat} (e : zRP g n b N k) (f1 : g1 493 10 = g 493 10) (f2 : g1 493 11 = g 493 11) (f3 : g1 499 = g 499) : zRP g1 n b N k := by
  unfold zRP zTR at *
  rw [f1, f2, f3]
  exact e
theorem zRP.at {g : zM} {n N k : Nat} {b : Nat → Nat} (x : zTx n b N) (e : zTR g n b) (hk : k ≤ N) (h : g 493 10 = nI (zT b n k)) : zRP g n b N k := ⟨e, hk, _, x.le_n hk, h, zT_nb x hk⟩
theorem zRP.nx {g : zM} {n N k : Nat} {b : Nat → Nat} (x : zTx n b N) (e : zTR g n b) (hk : k < N) (h : g 493 10 = nI (zte b n (zT b n k))) : zRP g n b N (k + 1) := ⟨e, hk, _, (zte_le (x.lt k hk)).2, h, rfl⟩
/-- the run of letters at T k -/
theorem zre_1 {n N k : Nat} {b : Nat → Nat} (x : zTx n b N) (hk : k ≤ N) : (k < N ∧ zso (b (zT b n k)) = 1 ∧ zre b 1 (n - zT b n k) (zT b n k) = zte b n (zT b n k)) ∨ (¬ (k < N ∧ zso (b (zT b n k)) = 1) ∧ zre b 1 (n - zT b n k) (zT b n k) = zT b n k) := by
  have h := x.le_n hk
  by_cases q : k = N
  · right
    refine ⟨by omega, ?_⟩
    rw [q, x.e, Nat.sub_self]
    rfl
  · have h1 := x.lt k (by omega)
    by_cases q2 : zso (b (zT b n k)) = 1
    · left
      refine ⟨by omega, q2, ?_⟩
      rw [zte_re h1 (by omega), q2]
    · right
      refine ⟨fun h => q2 h.2, ?_⟩
      rw [show n - zT b n k = (n - (zT b n k + 1)) + 1 from by omega]
      show (if zso (b (zT b n k)) = 1 then _ else _) = _
      rw [if_neg q2]
theorem zRt.rp {g : zM} {n N k : Nat} {b : Nat → Nat} (x : zTx n b N) (e : zRt g n b N k) (h : k < N ∧ zso (b (zT b n k)) = 1) : zRP g n b N (k + 1) := by
  rcases zre_1 x e.2.1 with ⟨h1, h2, h3⟩ | ⟨h1, h2⟩
  · exact .nx x e.1 h1 (by rw [← h3]; exact e.2.2.2)
  · exact absurd h h1
theorem zRt.rs {g : zM} {n N k : Nat} {b : Nat → Nat} (x : zTx n b N) (e : zRt g n b N k) (h : ¬ (k < N ∧ zso (b (zT b n k)) = 1)) : zRP g n b N k ∧ g 493 10 = g 493 12 := by
  rcases zre_1 x e.2.1 with ⟨h1, h2, h3⟩ | ⟨h1, h2⟩
  · exact absurd ⟨h1, h2⟩ h
  · have := e.2.2.2
    rw [h2] at this
    exact ⟨.at x e.1 e.2.1 this, this.trans e.2.2.1.symm⟩
theorem r_lp {g : zM} {n N k : Nat} {b : Nat → Nat} (x : zTx n b N) (e : zRP g n b N k) : ∃ g1, fX12_lettersPass g = some g1 ∧ zFP g g1 ∧ zRt g1 n b N k := by
  obtain ⟨e1, hk, p, hp, e2, e3⟩ := e
  obtain ⟨g1, a1, a2, a3, a4⟩ := r_lettersPass x.w e1 e2 hp e3.symm
  exact ⟨g1, a1, a2, e1.fp a2, hk, a4, a3⟩
theorem w_dist : ∀ i, i < 19 → ∀ j, j < 19 → i ≠ j → zwe i - zst i ≠ zwe j - zst j ∨ (zff (fun k => decide (zwc (zst i + k) ≠ zwc (zst j + k))) (zwe i - zst i)).isSome = true := by decide +kernel
theorem zwm_row {b : Nat → Nat} {t len i : Nat} (h : zwm b t len i = true) : zwe i - zst i = len ∧ ∀ j, j < len → zwc (zst i + j) = b (t + j) := by
  unfold zwm at h
  simp only [Bool.and_eq_true, decide_eq_true_eq] at h
  refine ⟨h.1, fun j hj => ?_⟩
  cases q : zff (zkm b (zst i) t) len with
  | some k => rw [q] at h; exact absurd h.2 Bool.false_ne_true
  | none =>
    have := (List.find?_eq_none.mp q) j (List.mem_range.mpr hj)
    unfold zkm at this
    simpa using this
theorem zwm_one {b : Nat → Nat} {t len i j : Nat} (hi : i < 19) (hj : j < 19) (h1 : zwm b t len i = true) (h2 : zwm b t len j = true) : i = j := by
  by_cases q : i = j
  · exact q
  exfalso
  have r1 := zwm_row h1
  have r2 := zwm_row h2
  rcases w_dist i hi j hj q with h | h
  · omega
  · cases q2 : zff (fun k => decide (zwc (zst i + k) ≠ zwc (zst j + k))) (zwe i - zst i) with
    | none => rw [q2] at h; exact absurd h (by decide)
    | some k =>
      have := zff_lt q2
      have h3 := r1.2 k (by omega)
      have h4 := r2.2 k (by omega)
      have h5 := this.2.1
      simp only [decide_eq_true_eq] at h5
      omega
/-- the thing k is the word i -/
theorem zck_word {n N k : Nat} {b : Nat → Nat} (x : zTx n b N) (hk : k ≤ N) {i : Nat} (hi : i < 19) : zwm b (zT b n k) (zre b 1 (n - zT b n k) (zT b n k) - zT b n k) i = true ↔ zck b n k = 1000 + i := by
  rcases zre_1 x hk with ⟨h1, h2, h3⟩ | ⟨h1, h2⟩
  · rw [h3]
    have hT := x.lt k h1
    have : zck b n k = zwcode b (zT b n k) (zte b n (zT b n k) - zT b n k) := by
      unfold zck zcd
      rw [if_neg (by omega), if_neg (by omega), if_pos h2]
    rw [this]
    unfold zwcode
    constructor
    · intro h
      cases q : zff (zwm b (zT b n k) (zte b n (zT b n k) - zT b n k)) 19 with
      | none =>
        have := (List.find?_eq_none.mp q) i (List.mem_range.mpr hi)
        exact absurd h this
      | some j =>
        have hj := zff_lt q
        rw [zwm_one hi hj.1 h hj.2.1]
    · intro h
      cases q : zff (zwm b (zT b n k) (zte b n (zT b n k) - zT b n k)) 19 with
      | none => rw [q] at h; exact absurd h (by show ¬ 1019 = 1000 + i; omega)
      | some j =>
        rw [q] at h
        have hj := zff_lt q
        have : 1000 + j = 1000 + i := h
        rw [show i = j from by omega]
        exact hj.2.1
  · have hr := w_row i hi
    rw [h2, Nat.sub_self]
    constructor
    · intro h
      have := (zwm_row h).1
      omega
    · intro h
      exfalso
      by_cases q : k = N
      · rw [q, zck_N x] at h; omega
      · have hT := x.lt k (by omega)
        have h3 : zso (b (zT b n k)) ≠ 1 := fun h => h1 ⟨by omega, h⟩
        have h5 := zso_3 (x := b (zT b n k))
        unfold zck zcd at h
        rw [if_neg (by omega), if_neg h3] at h
        split at h
        · omega
        · split at h
          · have := znv_3 (b := b) hT (by omega) (by assumption)
            omega
          · omega
theorem r_iw {g : zM} {n N k : Nat} {b : Nat → Nat} (x : zTx n b N) (e : zRt g n b N k) {s i : Nat} (hs : zWs s i) : fX12_isWord s g = some (if zck b n k = 1000 + i then 1 else 0) := by
  have h := zre_le (b := b) (c := 1) (n - zT b n k) (zT b n k)
  have h2 := x.le_n e.2.1
  rw [r_isWord x.w e.1 e.2.2.1 e.2.2.2 h.1 (by omega) hs]
  have := zck_word x e.2.1 hs.1
  by_cases q : zck b n k = 1000 + i
  · rw [if_pos (this.mpr q), if_pos q]
  · rw [if_neg (fun h => q (this.mp h)), if_neg q]
/-- where a thing is a word, it is letters -/
theorem zck_let {n N k : Nat} {b : Nat → Nat} (x : zTx n b N) (hk : k ≤ N) {i : Nat} (hi : i < 19) (h : zck b n k = 1000 + i) : k < N ∧ zso (b (zT b n k)) = 1 := by
  rcases zre_1 x hk with ⟨h1, h2, h3⟩ | ⟨h1, h2⟩
  · exact ⟨h1, h2⟩
  · have h3 := (zck_word x hk hi).mpr h
    rw [h2, Nat.sub_self] at h3
    have hr := w_row i hi
    have := (zwm_row h3).1
    omega
theorem r_passes {g : zM} {n N k : Nat} {b : Nat → Nat} (x : zTx n b N) (e : zRP g n b N k) {s i : Nat} (hs : zWs s i) : ∃ g1, fX12_passes s g = some (if zck b n k = 1000 + i then 1 else 0, g1) ∧ zFP g g1 ∧ (zck b n k = 1000 + i → zRP g1 n b N (k + 1)) ∧ (zck b n k ≠ 1000 + i → zRP g1 n b N k) ∧ g1 493 12 = nI (zT b n k) := by
  obtain ⟨g1, a1, a2, a3⟩ := r_lp x e
  unfold fX12_passes
  rw [a1, zb_s, r_iw x a3 hs, zb_s]
  by_cases q : zck b n k = 1000 + i
  · refine ⟨g1, by rw [if_pos q, if_neg (by decide)], a2, fun _ => a3.rp x (zck_let x a3.2.1 hs.1 q), fun h => absurd q h, a3.2.2.1⟩
  · refine ⟨zset g1 493 10 (nI (zT b n k)), by rw [if_neg q, if_pos rfl, zput_e, a3.2.2.1], a2.trans .set, fun h => absurd h q, fun _ => .at x (a3.1.fp .set) a3.2.1 (zs_hit ⟨rfl, rfl⟩), by rw [zs_miss (by omega)]; exact a3.2.2.1⟩
theorem r_bl {g : zM} {n N k : Nat} {b : Nat → Nat} (x : zTx n b N) (e : zRP g n b N k) : ∃ g1, fX12_blanks g = some g1 ∧ zFP g g1 ∧ zTR g1 n b ∧ g1 493 10 = nI (zT b n k) ∧ g1 493 12 = nI (zT b n k) := by
  obtain ⟨e1, hk, p, hp, e2, e3⟩ := e
  obtain ⟨g1, a1, a2, a3, a4⟩ := r_blanks x.w e1 e2 hp
  rw [e3] at a3 a4
  exact ⟨g1, a1, a2, e1.fp a2, a3, a4⟩
theorem zck_sign {n N k : Nat} {b : Nat → Nat} (x : zTx n b N) (hk : k ≤ N) {c : Nat} (hc : zso c = 0) : zck b n k = 1100 + c ↔ k < N ∧ b (zT b n k) = c := by
  by_cases q : k = N
  · rw [q, zck_N x]
    constructor
    · intro h; omega
    · intro h; omega
  · have hT := x.lt k (by omega)
    have h5 := zso_3 (x := b (zT b n k))
    unfold zck zcd
    rw [if_neg (by omega)]
    by_cases q0 : zso (b (zT b n k)) = 0
    · rw [if_pos q0]
      omega
    · rw [if_neg q0]
      have h6 : b (zT b n k) ≠ c := fun h => q0 (by rw [h]; exact hc)
      refine ⟨fun h => ?_, fun h => absurd h.2 h6⟩
      exfalso
      split at h
      · unfold zwcode at h
        cases q2 : zff (zwm b (zT b n k) (zte b n (zT b n k) - zT b n k)) 19 with
        | none => rw [q2] at h; have : 1019 = 1100 + c := h; omega
        | some i =>
          have := (zff_lt q2).1
          rw [q2] at h
          have : 1000 + i = 1100 + c := h
          omega
      · split at h
        · have := znv_3 (b := b) hT (by omega) (by assumption)
          omega
        · omega
theorem r_at {g : zM} {n N k : Nat} {b : Nat → Nat} (x : zTx n b N) (hk : k ≤ N) (e : zTR g n b) (h : g 493 10 = nI (zT b n k)) {c : Nat} (hc : zso c = 0) (hc2 : c < 128) : fX12_isAt (nI c) (nI c) g = some (if zck b n k = 1100 + c then 1 else 0) := by
  have hz := zck_sign x hk hc
  by_cases q : k = N
  · rw [q, x.e] at h
    rw [r_isAt_end e h, if_neg (fun h => by have := hz.mp h; omega)]
  · rw [r_isAt x.w e h (x.lt k (by omega)) hc2 (Nat.le_refl _)]
    by_cases q2 : b (zT b n k) = c
    · rw [if_pos (by omega), if_pos (hz.mpr ⟨by omega, q2⟩)]
    · rw [if_neg (by omega), if_neg (fun h => q2 (hz.mp h).2)]
theorem r_sign {g : zM} {n N k : Nat} {b : Nat → Nat} (x : zTx n b N) (e : zRP g n b N k) {c : Nat} (hc : zso c = 0) (hc2 : c < 128) : ∃ g1, fX12_sign (nI c) g = some (if zck b n k = 1100 + c then 1 else 0, g1) ∧ zFP g g1 ∧ (zck b n k = 1100 + c → zRP g1 n b N (k + 1)) ∧ (zck b n k ≠ 1100 + c → zRP g1 n b N k) ∧ g1 493 12 = nI (zT b n k) := by
  have hk := e.2.1
  obtain ⟨g1, a1, a2, a3, a4, a5⟩ := r_bl x e
  unfold fX12_sign
  rw [a1, zb_s, r_at x hk a3 a4 hc hc2, zb_s]
  by_cases q : zck b n k = 1100 + c
  · have hz := (zck_sign x hk hc).mp q
    refine ⟨zset g1 493 10 (nI (zT b n k + 1)), by rw [if_pos q, if_neg (by decide), zput_e, a4, nI_1], a2.trans .set, fun _ => .nx x (a3.fp .set) hz.1 ?_, fun h => absurd q h, by rw [zs_miss (by omega)]; exact a5⟩
    rw [zs_hit ⟨rfl, rfl⟩]
    unfold zte
    rw [if_pos (by rw [hz.2]; exact hc)]
  · exact ⟨g1, by rw [if_neg q, if_pos rfl], a2, fun h => absurd h q, fun _ => .at x a3 hk a4, a5⟩
