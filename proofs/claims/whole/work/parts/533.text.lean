/-! THE TEXT, as class and reference walk it -/
def zTC (g : zM) (h n : Nat) (b : Nat → Nat) : Prop := g h 4 = nI n ∧ ∀ i, i < n → g (h + 1) i = nI (b i)
def zTR (g : zM) (n : Nat) (b : Nat → Nat) : Prop := g 493 11 = nI n ∧ ∀ i, i < n → g 499 i = zsb (b i)
def zTW (n : Nat) (b : Nat → Nat) : Prop := n ≤ 400 ∧ ∀ i, i < n → b i < 256
/-- letters 1, digits 2, others 0 -/
def zso (x : Nat) : Nat := if 97 ≤ x ∧ x ≤ 122 then 1 else if 48 ≤ x ∧ x ≤ 57 then 2 else 0
/-- where a run of a sort ends -/
def zre (b : Nat → Nat) (c : Nat) : Nat → Nat → Nat
  | 0, p => p
  | d + 1, p => if zso (b p) = c then zre b c d (p + 1) else p
/-- the first that is no blank -/
def znb (b : Nat → Nat) : Nat → Nat → Nat
  | 0, p => p
  | d + 1, p => if b p = 32 then znb b d (p + 1) else p
/-- the end of the thing at p -/
def zte (b : Nat → Nat) (n p : Nat) : Nat := if zso (b p) = 0 then p + 1 else zre b (zso (b p)) (n - (p + 1)) (p + 1)
theorem zre_le {b : Nat → Nat} {c : Nat} : ∀ d p, p ≤ zre b c d p ∧ zre b c d p ≤ p + d
  | 0, p => ⟨Nat.le_refl _, Nat.le_refl _⟩
  | d + 1, p => by
    have := zre_le (b := b) (c := c) d (p + 1)
    unfold zre
    split <;> omega
theorem znb_le {b : Nat → Nat} : ∀ d p, p ≤ znb b d p ∧ znb b d p ≤ p + d
  | 0, p => ⟨Nat.le_refl _, Nat.le_refl _⟩
  | d + 1, p => by
    have := znb_le (b := b) d (p + 1)
    unfold znb
    split <;> omega
theorem zso_3 {x : Nat} : zso x < 3 := by
  unfold zso
  split
  · omega
  · split <;> omega
theorem c_sort {g : zM} {x : Nat} (hx : x < 256) : fX9_sortOf (nI x) g = some (nI (zso x)) := by
  unfold fX9_sortOf zso
  have c1 : (nI x < 48) = (x < 48) := propext (nL_lt (by omega) (by decide))
  have c2 : (57 < nI x) = (57 < x) := propext (nL_gt (by omega) (by decide))
  have c3 : (nI x < 97) = (x < 97) := propext (nL_lt (by omega) (by decide))
  have c4 : (122 < nI x) = (122 < x) := propext (nL_gt (by omega) (by decide))
  rw [zjoin_e]
  simp only [c1, c2, c3, c4]
  repeat' split
  all_goals first | rfl | omega
theorem c_endOf_L {g : zM} {h n : Nat} {b : Nat → Nat} (hT : zTW n b) (e : zTC g h n b) {c : Nat} (hc : c < 3) : ∀ d q m, q + d = n → d < m → fX9_endOf_L14 h (nI c) g m (nI q) = some (nI (if c = 0 then q else zre b c d q)) := by
  have h4 := hT.1
  intro d
  induction d with
  | zero =>
    intro q m hq hm
    obtain ⟨m, rfl⟩ : ∃ k, m = k + 1 := ⟨m - 1, by omega⟩
    rw [fX9_endOf_L14, e.1]
    by_cases q0 : c = 0
    · rw [if_pos (by rw [q0]; rfl), if_pos q0]
    · rw [if_neg (nI_ne0 (by omega) (by omega)), if_pos (by rw [nI_leI (by omega) (by omega)]; omega), if_neg q0]
      rfl
  | succ d ih =>
    intro q m hq hm
    obtain ⟨m, rfl⟩ : ∃ k, m = k + 1 := ⟨m - 1, by omega⟩
    rw [fX9_endOf_L14, e.1]
    by_cases q0 : c = 0
    · rw [if_pos (by rw [q0]; rfl), if_pos q0]
    · have hs := zso_3 (x := b q)
      rw [if_neg (nI_ne0 (by omega) (by omega)), if_neg (by rw [nI_leI (by omega) (by omega)]; omega), zchk_n (by omega) (by omega), nI_cl (by omega), e.2 q (by omega), c_sort (hT.2 q (by omega)), zb_s, if_neg q0, nI_1, ih (q + 1) m (by omega) (by omega), if_neg q0]
      show _ = some (nI (if zso (b q) = c then zre b c d (q + 1) else q))
      by_cases q2 : zso (b q) = c
      · rw [if_pos (by rw [q2]), if_pos q2]
      · rw [if_neg (by rw [nI_eq (by omega) (by omega)]; exact q2), if_neg q2]
theorem c_endOf {g : zM} {h n : Nat} {b : Nat → Nat} (hT : zTW n b) (e : zTC g h n b) {p : Nat} (hp : p < n) : fX9_endOf h (nI p) g = some (nI (zte b n p)) := by
  have h4 := hT.1
  unfold fX9_endOf
  rw [zchk_n (by omega) (by omega), nI_cl (by omega), e.2 p hp, c_sort (hT.2 p hp), zb_s, nI_1, c_endOf_L hT e zso_3 (n - (p + 1)) (p + 1) zFU (by omega) (by unfold zFU; omega)]
  rfl
/-- the cursor alone has moved -/
def zFP (g g1 : zM) : Prop := (∀ c, c ≠ 493 → g1 c = g c) ∧ ∀ k, k ≠ 10 → k ≠ 12 → g1 493 k = g 493 k
theorem zFP.refl {g : zM} : zFP g g := ⟨fun _ _ => rfl, fun _ _ _ => rfl⟩
theorem zFP.trans {g g1 g2 : zM} (a : zFP g g1) (b : zFP g1 g2) : zFP g g2 := ⟨fun c h => (b.1 c h).trans (a.1 c h), fun k h1 h2 => (b.2 k h1 h2).trans (a.2 k h1 h2)⟩
theorem zFP.set {g : zM} {v : Int32} : zFP g (zset g 493 10 v) := ⟨fun c h => zs_cell h, fun k h1 _ => zs_miss (by omega)⟩
theorem zFP.set2 {g : zM} {v : Int32} : zFP g (zset g 493 12 v) := ⟨fun c h => zs_cell h, fun k _ h2 => zs_miss (by omega)⟩
theorem zTR.fp {g g1 : zM} {n : Nat} {b : Nat → Nat} (e : zTR g n b) (f : zFP g g1) : zTR g1 n b := ⟨by rw [f.2 11 (by omega) (by omega)]; exact e.1, fun i hi => by rw [f.1 499 (by omega)]; exact e.2 i hi⟩
theorem r_isAt {g : zM} {n : Nat} {b : Nat → Nat} (hT : zTW n b) (e : zTR g n b) {p : Nat} (hp : g 493 10 = nI p) (hn : p < n) {lo hi : Nat} (h : hi < 128) (hl : lo ≤ hi) : fX12_isAt (nI lo) (nI hi) g = some (if lo ≤ b p ∧ b p ≤ hi then 1 else 0) := by
  have h4 := hT.1
  have hb := hT.2 p hn
  unfold fX12_isAt
  rw [e.1, hp, if_neg (by rw [nI_leI (by omega) (by omega)]; omega), zchk_n (by omega) (by omega), zchk_n (by omega) (by omega), nI_cl (by omega), e.2 p hn]
  rcases Nat.lt_or_ge (b p) 128 with q | q
  · rw [zsb_lo _ q]
    by_cases q1 : b p < lo
    · rw [if_pos (by rw [nI_ltI (by omega) (by omega)]; exact q1), if_neg (by omega)]
    · rw [if_neg (by rw [nI_ltI (by omega) (by omega)]; exact q1)]
      by_cases q2 : hi < b p
      · rw [if_pos (by rw [nI_ltI (by omega) (by omega)]; exact q2), if_neg (by omega)]
      · rw [if_neg (by rw [nI_ltI (by omega) (by omega)]; exact q2), if_pos (by omega)]
  · have h0 := zsb_hi _ hb q
    have : zsb (b p) < nI lo := by
      rw [Int32.lt_iff_toInt_lt] at h0 ⊢
      rw [nI_toInt (by omega)]
      have z : (0 : Int32).toInt = 0 := by decide
      omega
    rw [if_pos this, if_neg (by omega)]
theorem r_isAt_end {g : zM} {n : Nat} {b : Nat → Nat} (e : zTR g n b) (hp : g 493 10 = nI n) {lo hi : Int32} : fX12_isAt lo hi g = some 0 := by
  unfold fX12_isAt
  rw [e.1, hp, if_pos (Int32.le_refl _)]
theorem r_blanks_L {n : Nat} {b : Nat → Nat} (hT : zTW n b) {K : zM → Option zM} : ∀ d p m (g : zM), zTR g n b → g 493 10 = nI p → p + d = n → d < m → ∃ g1, fX12_blanks_L0 K m g = K g1 ∧ zFP g g1 ∧ g1 493 10 = nI (znb b d p) := by
  have h4 := hT.1
  intro d
  induction d with
  | zero =>
    intro p m g e hp hd hm
    obtain ⟨m, rfl⟩ : ∃ k, m = k + 1 := ⟨m - 1, by omega⟩
    refine ⟨g, ?_, .refl, hp⟩
    rw [fX12_blanks_L0, r_isAt_end e (by rw [hp]; congr 1), zb_s, if_pos rfl]
  | succ d ih =>
    intro p m g e hp hd hm
    obtain ⟨m, rfl⟩ : ∃ k, m = k + 1 := ⟨m - 1, by omega⟩
    have ha : fX12_isAt 32 32 g = some (if 32 ≤ b p ∧ b p ≤ 32 then 1 else 0) := r_isAt (lo := 32) (hi := 32) hT e hp (by omega) (by omega) (by omega)
    rw [fX12_blanks_L0, ha, zb_s]
    by_cases q : b p = 32
    · obtain ⟨g1, a1, a2, a3⟩ := ih (p + 1) m (zset g 493 10 (nI (p + 1))) (e.fp .set) (zs_hit ⟨rfl, rfl⟩) (by omega) (by omega)
      refine ⟨g1, ?_, zFP.set.trans a2, ?_⟩
      · rw [if_pos (show 32 ≤ b p ∧ b p ≤ 32 by omega), if_neg (by decide), zput_e, hp, nI_1]
        exact a1
      · rw [a3]
        show _ = nI (if b p = 32 then znb b d (p + 1) else p)
        rw [if_pos q]
    · refine ⟨g, ?_, .refl, ?_⟩
      · rw [if_neg (show ¬ (32 ≤ b p ∧ b p ≤ 32) by omega), if_pos rfl]
      · rw [hp]
        show _ = nI (if b p = 32 then znb b d (p + 1) else p)
        rw [if_neg q]
theorem r_blanks {g : zM} {n : Nat} {b : Nat → Nat} (hT : zTW n b) (e : zTR g n b) {p : Nat} (hp : g 493 10 = nI p) (hn : p ≤ n) : ∃ g1, fX12_blanks g = some g1 ∧ zFP g g1 ∧ g1 493 10 = nI (znb b (n - p) p) ∧ g1 493 12 = nI (znb b (n - p) p) := by
  have h4 := hT.1
  obtain ⟨g1, a1, a2, a3⟩ := r_blanks_L hT (K := fun g4 => zput g4 493 12 (g4 493 10) (fun g5 => some g5)) (n - p) p zFU g e hp (by omega) (by unfold zFU; omega)
  refine ⟨zset g1 493 12 (nI (znb b (n - p) p)), ?_, a2.trans .set2, by rw [zs_miss (by omega)]; exact a3, zs_hit ⟨rfl, rfl⟩⟩
  unfold fX12_blanks
  rw [a1, zput_e, a3]
theorem r_letters_L {n : Nat} {b : Nat → Nat} (hT : zTW n b) : ∀ d p m (g : zM), zTR g n b → g 493 10 = nI p → p + d = n → d < m → ∃ g1, fX12_lettersPass_L4 m g = some g1 ∧ zFP g g1 ∧ g1 493 10 = nI (zre b 1 d p) ∧ g1 493 12 = g 493 12 := by
  have h4 := hT.1
  intro d
  induction d with
  | zero =>
    intro p m g e hp hd hm
    obtain ⟨m, rfl⟩ : ∃ k, m = k + 1 := ⟨m - 1, by omega⟩
    refine ⟨g, ?_, .refl, hp, rfl⟩
    rw [fX12_lettersPass_L4, r_isAt_end e (by rw [hp]; congr 1), zb_s, if_pos rfl]
  | succ d ih =>
    intro p m g e hp hd hm
    obtain ⟨m, rfl⟩ : ∃ k, m = k + 1 := ⟨m - 1, by omega⟩
    have ha : fX12_isAt 97 122 g = some (if 97 ≤ b p ∧ b p ≤ 122 then 1 else 0) := r_isAt (lo := 97) (hi := 122) hT e hp (by omega) (by omega) (by omega)
    have hz : zso (b p) = 1 ↔ 97 ≤ b p ∧ b p ≤ 122 := by
      unfold zso
      split
      · simp [*]
      · split <;> simp [*]
    rw [fX12_lettersPass_L4, ha, zb_s]
    by_cases q : 97 ≤ b p ∧ b p ≤ 122
    · obtain ⟨g1, a1, a2, a3, a4⟩ := ih (p + 1) m (zset g 493 10 (nI (p + 1))) (e.fp .set) (zs_hit ⟨rfl, rfl⟩) (by omega) (by omega)
      refine ⟨g1, ?_, zFP.set.trans a2, ?_, ?_⟩
      · rw [if_pos q, if_neg (by decide), zput_e, hp, nI_1]
        exact a1
      · rw [a3]
        show _ = nI (if zso (b p) = 1 then zre b 1 d (p + 1) else p)
        rw [if_pos (hz.mpr q)]
      · rw [a4, zs_miss (by omega)]
    · refine ⟨g, ?_, .refl, ?_, rfl⟩
      · rw [if_neg q, if_pos rfl]
      · rw [hp]
        show _ = nI (if zso (b p) = 1 then zre b 1 d (p + 1) else p)
        rw [if_neg (fun h => q (hz.mp h))]
theorem r_lettersPass {g : zM} {n : Nat} {b : Nat → Nat} (hT : zTW n b) (e : zTR g n b) {p : Nat} (hp : g 493 10 = nI p) (hn : p ≤ n) {t : Nat} (ht : t = znb b (n - p) p) : ∃ g1, fX12_lettersPass g = some g1 ∧ zFP g g1 ∧ g1 493 10 = nI (zre b 1 (n - t) t) ∧ g1 493 12 = nI t := by
  have h4 := hT.1
  obtain ⟨g1, a1, a2, a3, a4⟩ := r_blanks hT e hp hn
  rw [← ht] at a3 a4
  have := znb_le (b := b) (n - p) p
  obtain ⟨g2, b1, b2, b3, b4⟩ := r_letters_L hT (n - t) t zFU g1 (e.fp a2) a3 (by omega) (by unfold zFU; omega)
  refine ⟨g2, ?_, a2.trans b2, b3, by rw [b4]; exact a4⟩
  unfold fX12_lettersPass
  rw [a1, zb_s]
  exact b1
