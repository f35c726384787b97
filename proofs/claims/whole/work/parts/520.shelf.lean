/-! SHELVES -/
theorem s_1 : ∀ c, c < 9 → (1 : Int32) <<< (nI c &&& 31) = nI (2 ^ c) := by decide +kernel
/-- what the LETTERS of a set hold -/
def zlo (ln : Nat → Nat) : Nat → Nat → Nat
  | 0, _ => 0
  | c + 1, s => zlo ln c s + (if s.testBit c = true then ln c else 0)
theorem zlo_le {ln : Nat → Nat} (h : ∀ l, ln l ≤ 24) (s : Nat) : ∀ c, zlo ln c s ≤ 24 * c
  | 0 => Nat.le_refl _
  | c + 1 => by
    have := zlo_le h s c
    have := h c
    show zlo ln c s + _ ≤ _
    split <;> omega
theorem zlo_lt {ln : Nat → Nat} {s s2 : Nat} : ∀ {c : Nat}, (∀ i, i < c → s.testBit i = s2.testBit i) → zlo ln c s = zlo ln c s2
  | 0, _ => rfl
  | c + 1, h => by
    show zlo ln c s + _ = zlo ln c s2 + _
    rw [zlo_lt (fun i hi => h i (by omega)), h c (by omega)]
theorem two_le {c : Nat} (h : c ≤ 8) : 2 ^ c ≤ 256 := by
  have := Nat.pow_le_pow_right (n := 2) (by omega) h
  exact this
/-- the chain of the parts of a set -/
def zch (P : Nat → Bool) (F : Nat → Nat) (s : Nat) : Nat → Nat → Nat → Nat
  | 0, _, b => b
  | n + 1, p, b => if p = 0 then b else zch P F s n ((p - 1) &&& s) (if P p = true ∧ F (s - p) + 1 < b then F (s - p) + 1 else b)
/-- the fewest shelves of the sets below k (1000: none) -/
def zFa (P : Nat → Bool) : Nat → Nat → Nat
  | 0 => fun _ => 0
  | k + 1 => zup (zFa P k) k (if k = 0 then 0 else zch P (zFa P k) k 256 k 1000)
def zoF (v : Nat) : Int32 := if v = 1000 then -1 else nI v
theorem zch_le {P : Nat → Bool} {F : Nat → Nat} {s : Nat} (hF : ∀ x, x < s → F x ≤ x ∨ F x = 1000) : ∀ (n p b : Nat), (b ≤ s ∨ b = 1000) → p ≤ s → s < 256 → (zch P F s n p b ≤ s ∨ zch P F s n p b = 1000)
  | 0, _, _, h, _, _ => h
  | n + 1, p, b, h, hp, hs => by
    unfold zch
    split
    · exact h
    · refine zch_le hF n _ _ ?_ (Nat.le_trans (Nat.and_le_left) (by omega)) hs
      split
      · rename_i h1 h2
        have := hF (s - p) (by omega)
        omega
      · exact h
theorem zFa_le {P : Nat → Bool} : ∀ (k : Nat), k ≤ 256 → ∀ s, s < k → (zFa P k s ≤ s ∨ zFa P k s = 1000)
  | 0, _, s, h => by omega
  | k + 1, hk, s, h => by
    show (zup (zFa P k) k _ s ≤ s ∨ zup (zFa P k) k _ s = 1000)
    by_cases q : s = k
    · rw [zup_hit q, q]
      split
      · omega
      · exact zch_le (fun x hx => zFa_le k (by omega) x hx) 256 k 1000 (Or.inr rfl) (Nat.le_refl _) (by omega)
    · rw [zup_miss q]
      exact zFa_le k (by omega) s (by omega)
theorem zFa_up {P : Nat → Bool} {k s : Nat} (h : s ≠ k) : zFa P (k + 1) s = zFa P k s := zup_miss h
theorem x_sub : ∀ s, s < 256 → ∀ p, p < 256 → p &&& s = p → s ^^^ p = s - p := by decide +kernel
theorem i_rest {s p : Nat} (hs : s < 256) (hp : p < 256) (h : p &&& s = p) : nI s &&& (nI p ^^^ (-1)) = nI (s - p) := by
  rw [← x_sub s hs p hp h]
  apply b_ext
  intro i hi
  rw [b_and, b_xor, b_m1 i hi, w_nat i (by omega), w_nat i (by omega), w_nat i (Nat.lt_of_lt_of_le (Nat.xor_lt_two_pow (n := 8) hs hp) (by omega)), Nat.testBit_xor]
  have : p.testBit i = true → s.testBit i = true := fun q => by
    rw [← h, Nat.testBit_and] at q
    cases r : s.testBit i
    · rw [r] at q; simp at q
    · rfl
  cases q : p.testBit i <;> cases r : s.testBit i <;> simp_all
theorem and_sub {p s : Nat} : ((p - 1) &&& s) &&& s = (p - 1) &&& s := by rw [Nat.and_assoc, Nat.and_self]
/-- the class's inner loop -/
theorem c_chain {room set k : Nat} {P : Nat → Bool} (hroom : room < 1000) (hk : k = set) (hset : set < 256) (V : Int32) (K : zM → Option (Int32 × zM)) : ∀ (n m p b : Nat) (g : zM), p < n → p < m → p ≤ set → p &&& set = p → (b ≤ set ∨ b = 1000) → (∀ s, s < set → g 482 s = zoF (zFa P k s)) → g 482 set = zoF b → (∀ s, s < 256 → s ≤ set → ∃ x, x < 1000 ∧ g 481 s = nI x ∧ (P s = decide (x ≤ room))) →
    ∃ g1, fX6_fewestShelves_L24 (nI room) V (nI set) K n (nI p) g = K g1 ∧ g1 482 set = zoF (zch P (zFa P k) set m p b) ∧ (∀ s, s ≠ set → g1 482 s = g 482 s) ∧ ∀ c, c ≠ 482 → g1 c = g c := by
  subst hk
  intro n
  induction n with
  | zero => intro m p b g hn; omega
  | succ n ih =>
    intro m p b g hn hm hp hps hb hF hs hL
    obtain ⟨m, rfl⟩ : ∃ q, m = q + 1 := ⟨m - 1, by omega⟩
    unfold zch
    by_cases q0 : p = 0
    · subst q0
      refine ⟨g, ?_, by rw [if_pos rfl]; exact hs, fun _ _ => rfl, fun _ _ => rfl⟩
      simp only [fX6_fewestShelves_L24]
      simp (disch := omega) only [nL_lt, nL_gt, nL_le, nL_ge, nL_eq, nL_qe, nI_ltI, nI_leI, nI_eq, nL_add, nL_dda, nI_add, nL_sub, pk_sub, nL_mul, nL_clamp, nI_cl, zchk_n, zchk_l, zb_s, zb2_s, zb3_s, zb3_e, zput_e, zjoin_e, zs_hit, zs_miss, nle_t, nle_f, nlt_t, nlt_f, neq_t, neq_f, ↓reduceIte, and_self, and_true, true_and, and_false, false_and, not_true_eq_false, not_false_eq_true, Nat.add_zero]
    · rw [if_neg q0]
      obtain ⟨x, x1, x2, x3⟩ := hL p (by omega) hp
      have hr := zFa_le (P := P) k (by omega) (k - p) (by omega)
      have hrest := hF (k - p) (by omega)
      have hnx : (p - 1) &&& k ≤ p - 1 := Nat.and_le_left
      have stepk : ∀ (b' : Nat) (g' : zM), (b' ≤ k ∨ b' = 1000) → (∀ s, s < k → g' 482 s = zoF (zFa P k s)) → g' 482 k = zoF b' → (∀ c, c ≠ 482 → g' c = g c) → (∀ s, s ≠ k → g' 482 s = g 482 s) → ∃ g1, fX6_fewestShelves_L24 (nI room) V (nI k) K n (nI ((p - 1) &&& k)) g' = K g1 ∧ g1 482 k = zoF (zch P (zFa P k) k m ((p - 1) &&& k) b') ∧ (∀ s, s ≠ k → g1 482 s = g 482 s) ∧ ∀ c, c ≠ 482 → g1 c = g c := by
        intro b' g' h1 h2 h3 h4 h5
        obtain ⟨g1, a1, a2, a3, a4⟩ := ih m ((p - 1) &&& k) b' g' (by omega) (by omega) (by omega) and_sub h1 h2 h3 (by rw [h4 481 (by omega)]; exact hL)
        exact ⟨g1, a1, a2, fun s hs => (a3 s hs).trans (h5 s hs), fun c hc => (a4 c hc).trans (h4 c hc)⟩
      have hand : (nI p - 1) &&& nI k = nI ((p - 1) &&& k) := by
        rw [nL_sub (by show 1 ≤ p; omega), nx_and]
      simp only [fX6_fewestShelves_L24]
      have hsub : nI k - nI p = nI (k - p) := pk_sub hp
      have hp0 : ¬ nI p ≤ 0 := by simp (disch := omega) only [nL_lt, nL_gt, nL_le, nL_ge, nL_eq, nL_qe, nI_ltI, nI_leI, nI_eq, nL_add, nL_dda, nI_add, nL_sub, pk_sub, nL_mul, nL_clamp, nI_cl, zchk_n, zchk_l, zb_s, zb2_s, zb3_s, zb3_e, zput_e, zjoin_e, zs_hit, zs_miss, nle_t, nle_f, nlt_t, nlt_f, neq_t, neq_f, ↓reduceIte, and_self, and_true, true_and, and_false, false_and, not_true_eq_false, not_false_eq_true, Nat.add_zero]
      rw [if_neg hp0, hsub, hand, zchk_n (by omega) (by omega), zchk_n (by omega) (by omega)]
      simp only [zjoin_e, nI_cl (show p < 2147483648 by omega), nI_cl (show k - p < 2147483648 by omega), nI_cl (show k < 2147483648 by omega), x2, hrest, hs]
      have hPx : nI room < nI x ↔ ¬ P p = true := by
        rw [nI_ltI (by omega) (by omega), x3]
        simp
      by_cases qP : P p = true
      · rw [if_neg (fun h => (hPx.mp h) qP)]
        by_cases qr : zFa P k (k - p) = 1000
        · rw [qr]
          have : zoF 1000 = -1 := rfl
          rw [this, if_pos rfl, if_true, if_neg (by omega)]
          exact stepk b g hb hF hs (fun _ _ => rfl) (fun _ _ => rfl)
        · have hv : zoF (zFa P k (k - p)) = nI (zFa P k (k - p)) := if_neg qr
          have hlt : zFa P k (k - p) ≤ k - p := by omega
          rw [hv, if_neg (by rw [nI_m1 (by omega)]; exact id), if_neg (by decide), zchk_n (by omega) (by omega), zchk_n (by omega) (by omega), zchk_n (by omega) (by omega)]
          have hput : ∃ g1, fX6_fewestShelves_L24 (nI room) V (nI k) K n (nI ((p - 1) &&& k)) (zset g 482 k (nI (zFa P k (k - p)) + 1)) = K g1 ∧ g1 482 k = zoF (zch P (zFa P k) k m ((p - 1) &&& k) (zFa P k (k - p) + 1)) ∧ (∀ s, s ≠ k → g1 482 s = g 482 s) ∧ ∀ c, c ≠ 482 → g1 c = g c := by
            refine stepk (zFa P k (k - p) + 1) _ (by omega) (fun s hs => ?_) ?_ (fun c hc => zs_cell hc) (fun s hs => ?_)
            · simp (disch := omega) only [nL_lt, nL_gt, nL_le, nL_ge, nL_eq, nL_qe, nI_ltI, nI_leI, nI_eq, nL_add, nL_dda, nI_add, nL_sub, pk_sub, nL_mul, nL_clamp, nI_cl, zchk_n, zchk_l, zb_s, zb2_s, zb3_s, zb3_e, zput_e, zjoin_e, zs_hit, zs_miss, nle_t, nle_f, nlt_t, nlt_f, neq_t, neq_f, ↓reduceIte, and_self, and_true, true_and, and_false, false_and, not_true_eq_false, not_false_eq_true, Nat.add_zero]; exact hF s hs
            · simp (disch := omega) only [nL_lt, nL_gt, nL_le, nL_ge, nL_eq, nL_qe, nI_ltI, nI_leI, nI_eq, nL_add, nL_dda, nI_add, nL_sub, pk_sub, nL_mul, nL_clamp, nI_cl, zchk_n, zchk_l, zb_s, zb2_s, zb3_s, zb3_e, zput_e, zjoin_e, zs_hit, zs_miss, nle_t, nle_f, nlt_t, nlt_f, neq_t, neq_f, ↓reduceIte, and_self, and_true, true_and, and_false, false_and, not_true_eq_false, not_false_eq_true, Nat.add_zero]; exact (if_neg (by omega)).symm
            · simp (disch := omega) only [nL_lt, nL_gt, nL_le, nL_ge, nL_eq, nL_qe, nI_ltI, nI_leI, nI_eq, nL_add, nL_dda, nI_add, nL_sub, pk_sub, nL_mul, nL_clamp, nI_cl, zchk_n, zchk_l, zb_s, zb2_s, zb3_s, zb3_e, zput_e, zjoin_e, zs_hit, zs_miss, nle_t, nle_f, nlt_t, nlt_f, neq_t, neq_f, ↓reduceIte, and_self, and_true, true_and, and_false, false_and, not_true_eq_false, not_false_eq_true, Nat.add_zero]
          simp only [zput_e]
          rcases hb with hb | hb
          · have hbv : zoF b = nI b := if_neg (by omega)
            rw [hbv, if_neg (by rw [nI_m1 (by omega)]; exact id), nI_1]
            by_cases qb : zFa P k (k - p) + 1 < b
            · rw [if_neg (by rw [nI_leI (by omega) (by omega)]; omega), if_pos ⟨qP, qb⟩]
              rw [nI_1] at hput
              exact hput
            · rw [if_pos (by rw [nI_leI (by omega) (by omega)]; omega), if_neg (fun h => qb h.2)]
              exact stepk b g (Or.inl hb) hF hs (fun _ _ => rfl) (fun _ _ => rfl)
          · subst hb
            have hbv : zoF 1000 = -1 := rfl
            rw [hbv, if_pos rfl, if_pos ⟨qP, by omega⟩]
            exact hput
      · rw [if_pos (hPx.mpr qP), if_true, if_neg (fun h => qP h.1)]
        exact stepk b g hb hF hs (fun _ _ => rfl) (fun _ _ => rfl)
/-- the reference's inner loop -/
theorem r_chain {room set : Nat} {P : Nat → Bool} {F : Nat → Nat} (hroom : room < 1000) (hset : set < 256) {g : zM} (hF1 : ∀ x, x < set → F x ≤ x ∨ F x = 1000) (hF : ∀ s, s < set → g 506 s = nI (F s)) (hL : ∀ s, s < 256 → s ≤ set → ∃ x, x < 1000 ∧ fX12_lengthOf (nI s) g = some (nI x) ∧ (P s = decide (x ≤ room))) : ∀ (n m p b : Nat), p < n → p < m → p ≤ set → p &&& set = p → b ≤ 1000 →
    fX12_fewestOf_L7 (nI set) (nI room) g n (nI b) (nI p) = some (nI (zch P F set m p b)) := by
  intro n
  induction n with
  | zero => intro m p b hn; omega
  | succ n ih =>
    intro m p b hn hm hp hps hb
    obtain ⟨m, rfl⟩ : ∃ q, m = q + 1 := ⟨m - 1, by omega⟩
    unfold zch
    by_cases q0 : p = 0
    · subst q0
      simp only [fX12_fewestOf_L7]
      simp (disch := omega) only [nL_lt, nL_gt, nL_le, nL_ge, nL_eq, nL_qe, nI_ltI, nI_leI, nI_eq, nL_add, nL_dda, nI_add, nL_sub, pk_sub, nL_mul, nL_clamp, nI_cl, zchk_n, zchk_l, zb_s, zb2_s, zb3_s, zb3_e, zput_e, zjoin_e, zs_hit, zs_miss, nle_t, nle_f, nlt_t, nlt_f, neq_t, neq_f, ↓reduceIte, and_self, and_true, true_and, and_false, false_and, not_true_eq_false, not_false_eq_true, Nat.add_zero]
    · rw [if_neg q0]
      obtain ⟨x, x1, x2, x3⟩ := hL p (by omega) hp
      have hr := hF1 (set - p) (by omega)
      have hrest := hF (set - p) (by omega)
      have hnx : (p - 1) &&& set ≤ p - 1 := Nat.and_le_left
      have hand : (nI p - 1) &&& nI set = nI ((p - 1) &&& set) := by
        rw [nL_sub (by show 1 ≤ p; omega), nx_and]
      have hp0 : ¬ nI p ≤ 0 := by simp (disch := omega) only [nL_lt, nL_gt, nL_le, nL_ge, nL_eq, nL_qe, nI_ltI, nI_leI, nI_eq, nL_add, nL_dda, nI_add, nL_sub, pk_sub, nL_mul, nL_clamp, nI_cl, zchk_n, zchk_l, zb_s, zb2_s, zb3_s, zb3_e, zput_e, zjoin_e, zs_hit, zs_miss, nle_t, nle_f, nlt_t, nlt_f, neq_t, neq_f, ↓reduceIte, and_self, and_true, true_and, and_false, false_and, not_true_eq_false, not_false_eq_true, Nat.add_zero]
      simp only [fX12_fewestOf_L7]
      rw [if_neg hp0, x2, zb_s, hand, i_rest hset (by omega) hps, zchk_n (by omega) (by omega), nI_cl (by omega), hrest]
      have hPx : nI room < nI x ↔ ¬ P p = true := by
        rw [nI_ltI (by omega) (by omega), x3]
        simp
      have hadd : 1 + nI (F (set - p)) = nI (F (set - p) + 1) := by
        rw [nL_dda]
        congr 1
        show 1 + _ = _
        omega
      by_cases qP : P p = true
      · rw [if_neg (fun h => (hPx.mp h) qP), hadd]
        by_cases qb : F (set - p) + 1 < b
        · rw [if_pos (by rw [nI_ltI (by omega) (by omega)]; exact qb), if_pos ⟨qP, qb⟩]
          exact ih m _ _ (by omega) (by omega) (by omega) and_sub (by omega)
        · rw [if_neg (by rw [nI_ltI (by omega) (by omega)]; exact qb), if_neg (fun h => qb h.2)]
          exact ih m _ _ (by omega) (by omega) (by omega) and_sub hb
      · rw [if_pos (hPx.mpr qP), if_neg (fun h => qP h.1)]
        exact ih m _ _ (by omega) (by omega) (by omega) and_sub hb
/-- the greatest number of LETTERS on one -/
def zgs (P : Nat → Bool) (N : Nat) : Int32 := zfo (fun s a => if P s = true then zmx a (zbc (nI s)) else a) N 0 0
theorem zgs_s {P : Nat → Bool} {N : Nat} : zgs P (N + 1) = if P N = true then zmx (zgs P N) (zbc (nI N)) else zgs P N := zfo_s
theorem c_shelfAdd {g : zM} {c x : Nat} {ln : Nat → Nat} (h24 : ∀ l, ln l ≤ 24) (hx : ln c = x) (hc : c < 8) (e1 : g 480 2 = nI c) (e2 : ∀ s, s < 2 ^ c → g 481 s = nI (zlo ln c s)) : ∃ g1, fX6_add (nI x) g = some g1 ∧ g1 480 2 = nI (c + 1) ∧ (∀ s, s < 2 ^ (c + 1) → g1 481 s = nI (zlo ln (c + 1) s)) ∧ ∀ d, d ≠ 480 → d ≠ 481 → g1 d = g d := by
  have h2 := two_le (c := c) (by omega)
  have h3 := two_le (c := c + 1) (by omega)
  have hpow : 2 ^ (c + 1) = 2 ^ c + 2 ^ c := by rw [Nat.pow_succ]; omega
  have hpos := Nat.two_pow_pos c
  unfold fX6_add
  rw [e1, s_1 c (by omega)]
  simp (disch := omega) only [nL_lt, nL_gt, nL_le, nL_ge, nL_eq, nL_qe, nI_ltI, nI_leI, nI_eq, nL_add, nL_dda, nI_add, nL_sub, pk_sub, nL_mul, nL_clamp, nI_cl, zchk_n, zchk_l, zb_s, zb2_s, zb3_s, zb3_e, zput_e, zjoin_e, zs_hit, zs_miss, nle_t, nle_f, nlt_t, nlt_f, neq_t, neq_f, ↓reduceIte, and_self, and_true, true_and, and_false, false_and, not_true_eq_false, not_false_eq_true, Nat.add_zero]
  refine zL_Q0 (fun n i (s : zM) => fX6_add_L19 (nI x) (nI (2 ^ c)) (fun g6 => some (zset g6 480 2 (g6 480 2 + 1))) n (nI i) s) (fun i s => (∀ d, d ≠ 481 → s d = g d) ∧ (∀ t, t < 2 ^ c → s 481 t = nI (zlo ln c t)) ∧ ∀ t, t < i → s 481 (2 ^ c + t) = nI (zlo ln c t + x)) (2 ^ c) (fun r => ∃ g1, r = some g1 ∧ g1 480 2 = nI (c + 1) ∧ (∀ s, s < 2 ^ (c + 1) → g1 481 s = nI (zlo ln (c + 1) s)) ∧ ∀ d, d ≠ 480 → d ≠ 481 → g1 d = g d) g (by omega) ⟨fun _ _ => rfl, e2, fun t ht => absurd ht (by omega)⟩ (fun n i s hi hh => ?_) (fun n s hh => ?_)
  · obtain ⟨b1, b2, b3⟩ := hh
    right
    refine ⟨zset s 481 (2 ^ c + i) (nI (zlo ln c i) + nI x), ⟨fun d hd => by rw [zs_cell hd]; exact b1 d hd, fun t ht => ?_, fun t ht => ?_⟩, ?_⟩
    · simp (disch := omega) only [nL_lt, nL_gt, nL_le, nL_ge, nL_eq, nL_qe, nI_ltI, nI_leI, nI_eq, nL_add, nL_dda, nI_add, nL_sub, pk_sub, nL_mul, nL_clamp, nI_cl, zchk_n, zchk_l, zb_s, zb2_s, zb3_s, zb3_e, zput_e, zjoin_e, zs_hit, zs_miss, nle_t, nle_f, nlt_t, nlt_f, neq_t, neq_f, ↓reduceIte, and_self, and_true, true_and, and_false, false_and, not_true_eq_false, not_false_eq_true, Nat.add_zero]; exact b2 t ht
    · by_cases q : t = i
      · subst q; simp (disch := omega) only [nL_lt, nL_gt, nL_le, nL_ge, nL_eq, nL_qe, nI_ltI, nI_leI, nI_eq, nL_add, nL_dda, nI_add, nL_sub, pk_sub, nL_mul, nL_clamp, nI_cl, zchk_n, zchk_l, zb_s, zb2_s, zb3_s, zb3_e, zput_e, zjoin_e, zs_hit, zs_miss, nle_t, nle_f, nlt_t, nlt_f, neq_t, neq_f, ↓reduceIte, and_self, and_true, true_and, and_false, false_and, not_true_eq_false, not_false_eq_true, Nat.add_zero]
      · simp (disch := omega) only [nL_lt, nL_gt, nL_le, nL_ge, nL_eq, nL_qe, nI_ltI, nI_leI, nI_eq, nL_add, nL_dda, nI_add, nL_sub, pk_sub, nL_mul, nL_clamp, nI_cl, zchk_n, zchk_l, zb_s, zb2_s, zb3_s, zb3_e, zput_e, zjoin_e, zs_hit, zs_miss, nle_t, nle_f, nlt_t, nlt_f, neq_t, neq_f, ↓reduceIte, and_self, and_true, true_and, and_false, false_and, not_true_eq_false, not_false_eq_true, Nat.add_zero]; exact b3 t (by omega)
    · simp only [fX6_add_L19]
      have := zlo_le h24 i c
      have := h24 c
      simp (disch := omega) only [nL_lt, nL_gt, nL_le, nL_ge, nL_eq, nL_qe, nI_ltI, nI_leI, nI_eq, nL_add, nL_dda, nI_add, nL_sub, pk_sub, nL_mul, nL_clamp, nI_cl, zchk_n, zchk_l, zb_s, zb2_s, zb3_s, zb3_e, zput_e, zjoin_e, zs_hit, zs_miss, nle_t, nle_f, nlt_t, nlt_f, neq_t, neq_f, ↓reduceIte, and_self, and_true, true_and, and_false, false_and, not_true_eq_false, not_false_eq_true, Nat.add_zero, b2]
  · obtain ⟨b1, b2, b3⟩ := hh
    simp only [fX6_add_L19]
    have c0 : s 480 2 = nI c := by rw [b1 480 (by omega)]; exact e1
    simp (disch := omega) only [nL_lt, nL_gt, nL_le, nL_ge, nL_eq, nL_qe, nI_ltI, nI_leI, nI_eq, nL_add, nL_dda, nI_add, nL_sub, pk_sub, nL_mul, nL_clamp, nI_cl, zchk_n, zchk_l, zb_s, zb2_s, zb3_s, zb3_e, zput_e, zjoin_e, zs_hit, zs_miss, nle_t, nle_f, nlt_t, nlt_f, neq_t, neq_f, ↓reduceIte, and_self, and_true, true_and, and_false, false_and, not_true_eq_false, not_false_eq_true, Nat.add_zero, c0]
    refine ⟨_, rfl, by simp (disch := omega) only [nL_lt, nL_gt, nL_le, nL_ge, nL_eq, nL_qe, nI_ltI, nI_leI, nI_eq, nL_add, nL_dda, nI_add, nL_sub, pk_sub, nL_mul, nL_clamp, nI_cl, zchk_n, zchk_l, zb_s, zb2_s, zb3_s, zb3_e, zput_e, zjoin_e, zs_hit, zs_miss, nle_t, nle_f, nlt_t, nlt_f, neq_t, neq_f, ↓reduceIte, and_self, and_true, true_and, and_false, false_and, not_true_eq_false, not_false_eq_true, Nat.add_zero], fun t ht => ?_, fun d h1 h2 => by simp (disch := omega) only [nL_lt, nL_gt, nL_le, nL_ge, nL_eq, nL_qe, nI_ltI, nI_leI, nI_eq, nL_add, nL_dda, nI_add, nL_sub, pk_sub, nL_mul, nL_clamp, nI_cl, zchk_n, zchk_l, zb_s, zb2_s, zb3_s, zb3_e, zput_e, zjoin_e, zs_hit, zs_miss, nle_t, nle_f, nlt_t, nlt_f, neq_t, neq_f, ↓reduceIte, and_self, and_true, true_and, and_false, false_and, not_true_eq_false, not_false_eq_true, Nat.add_zero, zs_cell]; exact b1 d h2⟩
    simp (disch := omega) only [nL_lt, nL_gt, nL_le, nL_ge, nL_eq, nL_qe, nI_ltI, nI_leI, nI_eq, nL_add, nL_dda, nI_add, nL_sub, pk_sub, nL_mul, nL_clamp, nI_cl, zchk_n, zchk_l, zb_s, zb2_s, zb3_s, zb3_e, zput_e, zjoin_e, zs_hit, zs_miss, nle_t, nle_f, nlt_t, nlt_f, neq_t, neq_f, ↓reduceIte, and_self, and_true, true_and, and_false, false_and, not_true_eq_false, not_false_eq_true, Nat.add_zero]
    show _ = nI (zlo ln c t + if t.testBit c = true then ln c else 0)
    rcases Nat.lt_or_ge t (2 ^ c) with q | q
    · rw [b2 t q, Nat.testBit_lt_two_pow q]
      rfl
    · obtain ⟨u, rfl⟩ : ∃ u, t = 2 ^ c + u := ⟨t - 2 ^ c, by omega⟩
      have hu : u < 2 ^ c := by omega
      rw [b3 u hu]
      have hbit : (2 ^ c + u).testBit c = true := by
        rw [Nat.testBit_two_pow_add_eq, Nat.testBit_lt_two_pow hu]
        rfl
      rw [hbit, if_pos rfl, hx, zlo_lt (s := 2 ^ c + u) (s2 := u) (fun i hi => Nat.testBit_two_pow_add_gt hi u)]
/-- lengths of all LETTERS n weeks ahead -/
def zln (S : zS) (n l : Nat) : Nat := if l < (zSB S).1 then (zat S l n).1.1 else 0
theorem zln_le {S : zS} (hS : zSW S) (n l : Nat) : zln S n l ≤ 24 := by
  unfold zln
  split
  · exact (zat_W hS (by assumption) n).2.1
  · omega
theorem c_shelfAll {S : zS} {g : zM} (hS : zSW S) (e : zCI S g) {n room : Nat} (hn : n ≤ 40) (b : Bool) (K : zM → Option (Except Nat Int32 × zM)) : ∃ g1, fX11_shelves_L37 (nI room) (nI n) (zbi b) K zFU 0 (zset g 480 2 0) = K g1 ∧ g1 480 2 = nI (zSB S).1 ∧ (∀ s, s < 2 ^ (zSB S).1 → g1 481 s = nI (zlo (zln S n) (zSB S).1 s)) ∧ ∀ c, c ≠ 34 → c ≠ 35 → (c < 446 ∨ 450 ≤ c) → c ≠ 480 → c ≠ 481 → g1 c = g c := by
  have h8 := hS.eight
  have hpos : ∀ c, 0 < 2 ^ c := fun c => Nat.two_pow_pos c
  refine zL_Q0 (fun m i (s : zM) => fX11_shelves_L37 (nI room) (nI n) (zbi b) K m (nI i) s) (fun i s => s 480 2 = nI i ∧ (∀ t, t < 2 ^ i → s 481 t = nI (zlo (zln S n) i t)) ∧ ∀ c, c ≠ 34 → c ≠ 35 → (c < 446 ∨ 450 ≤ c) → c ≠ 480 → c ≠ 481 → s c = g c) (zSB S).1 (fun x => ∃ g1, x = K g1 ∧ g1 480 2 = nI (zSB S).1 ∧ (∀ s, s < 2 ^ (zSB S).1 → g1 481 s = nI (zlo (zln S n) (zSB S).1 s)) ∧ ∀ c, c ≠ 34 → c ≠ 35 → (c < 446 ∨ 450 ≤ c) → c ≠ 480 → c ≠ 481 → g1 c = g c) (zset g 480 2 0) (by omega) ⟨by simp (disch := omega) only [nL_lt, nL_gt, nL_le, nL_ge, nL_eq, nL_qe, nI_ltI, nI_leI, nI_eq, nL_add, nL_dda, nI_add, nL_sub, pk_sub, nL_mul, nL_clamp, nI_cl, zchk_n, zchk_l, zb_s, zb2_s, zb3_s, zb3_e, zput_e, zjoin_e, zs_hit, zs_miss, nle_t, nle_f, nlt_t, nlt_f, neq_t, neq_f, ↓reduceIte, and_self, and_true, true_and, and_false, false_and, not_true_eq_false, not_false_eq_true, Nat.add_zero], fun t ht => ?_, fun c _ _ _ h4 _ => zs_cell h4⟩ (fun m i s hi hh => ?_) (fun m s hh => ?_)
  · have ht : t < 1 := ht
    obtain rfl : t = 0 := by omega
    simp (disch := omega) only [nL_lt, nL_gt, nL_le, nL_ge, nL_eq, nL_qe, nI_ltI, nI_leI, nI_eq, nL_add, nL_dda, nI_add, nL_sub, pk_sub, nL_mul, nL_clamp, nI_cl, zchk_n, zchk_l, zb_s, zb2_s, zb3_s, zb3_e, zput_e, zjoin_e, zs_hit, zs_miss, nle_t, nle_f, nlt_t, nlt_f, neq_t, neq_f, ↓reduceIte, and_self, and_true, true_and, and_false, false_and, not_true_eq_false, not_false_eq_true, Nat.add_zero]
    exact e.2.2.2.2.2.2.2.2.1
  · obtain ⟨b1, b2, b3⟩ := hh
    have es : zCI S s := by
      have l0 : s 481 0 = 0 := by
        rw [b2 0 (hpos i)]
        have : ∀ c, zlo (zln S n) c 0 = 0 := by
          intro c
          induction c with
          | zero => rfl
          | succ c ih => show zlo (zln S n) c 0 + _ = 0; rw [ih]; simp
        rw [this]
        rfl
      exact e.fr' hS (fun c h1 h2 h3 => b3 c h1 h2 (by omega) (by omega) (by omega)) (by rw [l0]; exact e.2.2.2.2.2.2.2.2.1.symm) (by rw [b3 482 (by omega) (by omega) (by omega) (by omega) (by omega)])
    obtain ⟨s1, c1, c2⟩ := c_look0 hS es .refl hi
    obtain ⟨s2, d1, d2⟩ := c_go0 hS es hi hn c2
    have hl : zln S n i = (zat S i n).1.1 := if_pos hi
    obtain ⟨s3, f1, f2, f3, f4⟩ := c_shelfAdd (g := s2) (c := i) (x := (zat S i n).1.1) (zln_le hS n) hl (by omega) (by rw [d2.2 480 (by omega) (by omega) (by omega)]; exact b1) (by rw [d2.2 481 (by omega) (by omega) (by omega)]; exact b2)
    right
    refine ⟨s3, ⟨f2, f3, fun c h1 h2 h3 h4 h5 => by rw [f4 c h4 h5, d2.2 c h1 h2 (by omega)]; exact b3 c h1 h2 h3 h4 h5⟩, ?_⟩
    simp only [fX11_shelves_L37, es.size, es.week]
    have hle : ¬ nI (zSB S).1 ≤ nI i := by
      rw [nI_leI (by omega) (by omega)]
      omega
    rw [if_neg hle, zchk_n (by omega) (by omega), nI_cl (by omega), c1, zb_s, d1, zb_s, d2.mail.1, f1, zb_s, nI_1]
  · obtain ⟨b1, b2, b3⟩ := hh
    have es0 : s 3 1 = nI (zSB S).1 := by rw [b3 3 (by omega) (by omega) (by omega) (by omega) (by omega)]; exact e.size
    refine ⟨s, ?_, b1, b2, b3⟩
    simp only [fX11_shelves_L37, es0]
    simp (disch := omega) only [nL_lt, nL_gt, nL_le, nL_ge, nL_eq, nL_qe, nI_ltI, nI_leI, nI_eq, nL_add, nL_dda, nI_add, nL_sub, pk_sub, nL_mul, nL_clamp, nI_cl, zchk_n, zchk_l, zb_s, zb2_s, zb3_s, zb3_e, zput_e, zjoin_e, zs_hit, zs_miss, nle_t, nle_f, nlt_t, nlt_f, neq_t, neq_f, ↓reduceIte, and_self, and_true, true_and, and_false, false_and, not_true_eq_false, not_false_eq_true, Nat.add_zero]
theorem pk_max {a r : Int32} : (if a < r then r else a) = zmx a r := rfl
theorem m_shelves {S : zS} (hS : zSW S) (v nv : Int32) (b : Bool) : zAsk [2] S (fX11_shelves v nv (zbi b)) (fX12_shelves v nv (zbi b)) := by
  have h8 := hS.eight
  -- v is 1 to 99
  have hv : (zbad 99 (v - 1) ∧ (∀ (g : zM) (n : Int32) (y : Int32), fX11_shelves v n y g = some (.error 2, g)) ∧ ∀ g : zM, fX12_in v 1 99 g = some 0) ∨ ∃ r, 1 ≤ r ∧ r ≤ 99 ∧ v = nI r := by
    rcases zix v (n := 100) (by omega) with h | ⟨r, hr, rfl⟩
    · left
      have h1 : v < 1 ∨ 99 < v := by
        rcases h with h | h
        · left
          rw [Int32.lt_iff_toInt_lt] at h ⊢
          have : (0 : Int32).toInt = 0 := by decide
          have : (1 : Int32).toInt = 1 := by decide
          omega
        · right
          rw [Int32.le_iff_toInt_le, nI_toInt (by omega)] at h
          rw [Int32.lt_iff_toInt_lt]
          have : (99 : Int32).toInt = 99 := by decide
          omega
      refine ⟨?_, fun g n y => ?_, fun g => ?_⟩
      · have hx : (v - 1).toInt < 0 ∨ 99 ≤ (v - 1).toInt := by
          have h2 := Int32.toInt_sub v 1
          have h3 := v.toInt_lt
          have h4 := v.le_toInt
          have h5 : (1 : Int32).toInt = 1 := by decide
          have h6 : (99 : Int32).toInt = 99 := by decide
          rw [h5] at h2
          rw [Int32.lt_iff_toInt_lt, Int32.lt_iff_toInt_lt, h5, h6] at h1
          have h7 : (v.toInt - 1).bmod (2 ^ 32) = v.toInt - 1 ∨ v.toInt = -2147483648 := by
            by_cases q : v.toInt = -2147483648
            · exact Or.inr q
            · left
              exact Int.bmod_eq_of_le (by omega) (by omega)
          rcases h7 with h7 | h7
          · rw [h2, h7]; omega
          · rw [h2, h7]; decide
        rcases hx with hx | hx
        · left
          rw [Int32.lt_iff_toInt_lt]
          exact hx
        · right
          rw [Int32.le_iff_toInt_le, nI_toInt (by omega)]
          exact hx
      · unfold fX11_shelves
        rcases h1 with h1 | h1
        · rw [if_pos h1]
        · have h2 : ¬ v < 1 := fun q => by
            rw [Int32.lt_iff_toInt_lt] at q h1
            have : (99 : Int32).toInt = 99 := by decide
            have : (1 : Int32).toInt = 1 := by decide
            omega
          rw [if_neg h2, if_neg (Int32.not_le.mpr h1)]
      · unfold fX12_in
        rcases h1 with h1 | h1
        · rw [if_pos h1]
        · by_cases q : v < 1
          · rw [if_pos q]
          · rw [if_neg q, if_pos h1]
    · by_cases q : r = 0
      · left
        subst q
        refine ⟨Or.inl (by decide), fun g n y => ?_, fun g => ?_⟩
        · unfold fX11_shelves
          rw [if_pos (by decide)]
        · unfold fX12_in
          rw [if_pos (by decide)]
      · exact Or.inr ⟨r, by omega, by omega, rfl⟩
  rcases hv with ⟨-, hc, hr⟩ | ⟨r, r1, r2, rfl⟩
  · refine ⟨.error 2, fun g e => ⟨g, hc g _ _, .refl⟩, fun g e => zRa_err2 (t := 1) (b := 0) ?_ (by decide)⟩
    unfold fX12_shelves
    simp only [zb_s, zb2_s, zb3_s, zb3_e, zjoin_e, zput_e, r_thr0, r_thr1, zi10, zi01, if_true, if_false, hr]
  have hin : ∀ g : zM, fX12_in (nI r) 1 99 g = some 1 := fun g => r_in (lo := 1) (hi := 99) (by omega) (by omega) (by omega)
  have hv1 : ¬ nI r < 1 := by simp (disch := omega) only [nL_lt, nL_gt, nL_le, nL_ge, nL_eq, nL_qe, nI_ltI, nI_leI, nI_eq, nL_add, nL_dda, nI_add, nL_sub, pk_sub, nL_mul, nL_clamp, nI_cl, zchk_n, zchk_l, zb_s, zb2_s, zb3_s, zb3_e, zput_e, zjoin_e, zs_hit, zs_miss, nle_t, nle_f, nlt_t, nlt_f, neq_t, neq_f, ↓reduceIte, and_self, and_true, true_and, and_false, false_and, not_true_eq_false, not_false_eq_true, Nat.add_zero]
  have hv2 : nI r ≤ 99 := by simp (disch := omega) only [nL_lt, nL_gt, nL_le, nL_ge, nL_eq, nL_qe, nI_ltI, nI_leI, nI_eq, nL_add, nL_dda, nI_add, nL_sub, pk_sub, nL_mul, nL_clamp, nI_cl, zchk_n, zchk_l, zb_s, zb2_s, zb3_s, zb3_e, zput_e, zjoin_e, zs_hit, zs_miss, nle_t, nle_f, nlt_t, nlt_f, neq_t, neq_f, ↓reduceIte, and_self, and_true, true_and, and_false, false_and, not_true_eq_false, not_false_eq_true, Nat.add_zero]
  rcases zix nv (n := 41) (by omega) with h | ⟨n, hn, rfl⟩
  · refine ⟨.error 2, fun g e => ⟨g, ?_, .refl⟩, fun g e => zRa_err2 (t := 1) (b := 0) ?_ (by decide)⟩
    · unfold fX11_shelves
      rw [if_neg hv1, if_pos hv2, show fX11_needAhead nv 0 g = _ from c_needAhead_no h (m := 0) (by omega), zb3_e]
    · unfold fX12_shelves
      simp only [zb_s, zb2_s, zb3_s, zb3_e, zjoin_e, zput_e, r_thr0, r_thr1, zi10, zi01, if_true, if_false, hin, r_noAhead_no h]
  have hN := two_le h8
  have hNp := Nat.two_pow_pos (zSB S).1
  have hlo : ∀ s, zlo (zln S n) (zSB S).1 s < 1000 := fun s => by
    have := zlo_le (ln := zln S n) (zln_le hS n) s (zSB S).1
    omega
  have hP : ∃ P : Nat → Bool, ∀ s, P s = decide (zlo (zln S n) (zSB S).1 s ≤ r) := ⟨_, fun _ => rfl⟩
  obtain ⟨P, hP⟩ := hP
  refine ⟨.ok (if b = true then zgs P (2 ^ (zSB S).1) else zoF (zFa P (2 ^ (zSB S).1) (2 ^ (zSB S).1 - 1))), fun g e => ?_, fun g e => ?_⟩
  · obtain ⟨g1, a1, a2, a3, a4⟩ := c_shelfAll hS e (n := n) (room := r) (by omega) b (fun g10 => if zbi b = 0 then zb2 (fX6_fewestShelves (nI r) g10) (fun r_12 g12 => some (.ok r_12, g12)) else zb (fX6_mostOnOne (nI r) g10) (fun r_13 => some (.ok r_13, g10)))
    have whole : fX11_shelves (nI r) (nI n) (zbi b) g = (fun g10 => if zbi b = 0 then zb2 (fX6_fewestShelves (nI r) g10) (fun r_12 g12 => some (.ok r_12, g12)) else zb (fX6_mostOnOne (nI r) g10) (fun r_13 => some (.ok r_13, g10))) g1 := by
      unfold fX11_shelves fX6_clear
      rw [if_neg hv1, if_pos hv2, show fX11_needAhead (nI n) 0 g = _ from c_needAhead (m := 0) hn (by omega), zb3_s, zput_e, zb_s]
      exact a1
    rw [whole]
    have l0 : g1 481 0 = 0 := by
      rw [a3 0 hNp]
      have : ∀ c, zlo (zln S n) c 0 = 0 := by
        intro c
        induction c with
        | zero => rfl
        | succ c ih => show zlo (zln S n) c 0 + _ = 0; rw [ih]; simp
      rw [this]
      rfl
    have f0 : g1 482 0 = 0 := by rw [a4 482 (by omega) (by omega) (by omega) (by omega) (by omega)]; exact e.2.2.2.2.2.2.2.2.2
    cases b
    · -- fewest
      have main : ∃ g2, fX6_fewestShelves (nI r) g1 = some (zoF (zFa P (2 ^ (zSB S).1) (2 ^ (zSB S).1 - 1)), g2) ∧ (∀ c, c ≠ 482 → g2 c = g1 c) ∧ g2 482 0 = 0 := by
        unfold fX6_fewestShelves
        rw [a2, s_1 _ (by omega)]
        refine zL_Q (fun m k (s : zM) => fX6_fewestShelves_L9 (nI r) (nI (2 ^ (zSB S).1)) _ m (nI k) s) (fun k s => 1 ≤ k ∧ (∀ c, c ≠ 482 → s c = g1 c) ∧ ∀ t, t < k → s 482 t = zoF (zFa P k t)) (2 ^ (zSB S).1) (fun x => ∃ g2, x = some (zoF (zFa P (2 ^ (zSB S).1) (2 ^ (zSB S).1 - 1)), g2) ∧ (∀ c, c ≠ 482 → g2 c = g1 c) ∧ g2 482 0 = 0) (fun m k s hk hh => ?_) (fun m s hh => ?_) (2 ^ (zSB S).1 - 1) 1 zFU g1 (by omega) (by unfold zFU; omega) ⟨Nat.le_refl _, fun _ _ => rfl, fun t ht => ?_⟩
        · obtain ⟨b1, b2, b3⟩ := hh
          have e481 : s 481 = g1 481 := b2 481 (by omega)
          have h482 : ∀ t, t ≠ k → (zset s 482 k (-1)) 482 t = s 482 t := fun t ht => by simp (disch := omega) only [nL_lt, nL_gt, nL_le, nL_ge, nL_eq, nL_qe, nI_ltI, nI_leI, nI_eq, nL_add, nL_dda, nI_add, nL_sub, pk_sub, nL_mul, nL_clamp, nI_cl, zchk_n, zchk_l, zb_s, zb2_s, zb3_s, zb3_e, zput_e, zjoin_e, zs_hit, zs_miss, nle_t, nle_f, nlt_t, nlt_f, neq_t, neq_f, ↓reduceIte, and_self, and_true, true_and, and_false, false_and, not_true_eq_false, not_false_eq_true, Nat.add_zero]
          obtain ⟨s1, c1, c2, c3, c4⟩ := c_chain (room := r) (set := k) (k := k) (P := P) (by omega) rfl (by omega) (nI (2 ^ (zSB S).1)) (fun g18 => fX6_fewestShelves_L9 (nI r) (nI (2 ^ (zSB S).1)) (fun g19 => zchk (nI (2 ^ (zSB S).1) - 1) 256 (some (g19 482 (nI (2 ^ (zSB S).1) - 1).toNatClampNeg, g19))) m (nI k + 1) g18) zFU 256 k 1000 (zset s 482 k (-1)) (by unfold zFU; omega) (by omega) (Nat.le_refl _) (Nat.and_self k) (Or.inr rfl) (fun t ht => by rw [h482 t (by omega)]; exact b3 t ht) (by simp (disch := omega) only [nL_lt, nL_gt, nL_le, nL_ge, nL_eq, nL_qe, nI_ltI, nI_leI, nI_eq, nL_add, nL_dda, nI_add, nL_sub, pk_sub, nL_mul, nL_clamp, nI_cl, zchk_n, zchk_l, zb_s, zb2_s, zb3_s, zb3_e, zput_e, zjoin_e, zs_hit, zs_miss, nle_t, nle_f, nlt_t, nlt_f, neq_t, neq_f, ↓reduceIte, and_self, and_true, true_and, and_false, false_and, not_true_eq_false, not_false_eq_true, Nat.add_zero]; rfl) (fun t ht htk => ⟨zlo (zln S n) (zSB S).1 t, hlo t, by rw [zs_cell (by omega), e481]; exact a3 t (by omega), hP t⟩)
          right
          refine ⟨s1, ⟨by omega, fun c hc => by rw [c4 c hc, zs_cell hc]; exact b2 c hc, fun t ht => ?_⟩, ?_⟩
          · by_cases q : t = k
            · subst q
              rw [c2]
              show _ = zoF (zup (zFa P t) t _ t)
              rw [zup_hit rfl, if_neg (by omega)]
            · rw [c3 t q, h482 t q, zFa_up q]
              exact b3 t (by omega)
          · simp only [fX6_fewestShelves_L9]
            have hle : ¬ nI (2 ^ (zSB S).1) ≤ nI k := by
              rw [nI_leI (by omega) (by omega)]
              omega
            rw [if_neg hle, zchk_n (by omega) (by omega), zput_e, nI_cl (by omega)]
            rw [nI_1] at c1
            rw [nI_1]
            exact c1
        · obtain ⟨b1, b2, b3⟩ := hh
          simp only [fX6_fewestShelves_L9]
          refine ⟨s, ?_, b2, ?_⟩
          · simp (disch := omega) only [nL_lt, nL_gt, nL_le, nL_ge, nL_eq, nL_qe, nI_ltI, nI_leI, nI_eq, nL_add, nL_dda, nI_add, nL_sub, pk_sub, nL_mul, nL_clamp, nI_cl, zchk_n, zchk_l, zb_s, zb2_s, zb3_s, zb3_e, zput_e, zjoin_e, zs_hit, zs_miss, nle_t, nle_f, nlt_t, nlt_f, neq_t, neq_f, ↓reduceIte, and_self, and_true, true_and, and_false, false_and, not_true_eq_false, not_false_eq_true, Nat.add_zero, b3]
          · rw [b3 0 hNp]
            rcases zFa_le (P := P) (2 ^ (zSB S).1) hN 0 hNp with h | h
            · rw [show zFa P (2 ^ (zSB S).1) 0 = 0 from by omega]; rfl
            · exfalso
              have : ∀ k, 1 ≤ k → zFa P k 0 = 0 := by
                intro k hk
                induction k with
                | zero => omega
                | succ k ih =>
                  by_cases q : k = 0
                  · subst q; rfl
                  · rw [zFa_up (fun h => q h.symm)]
                    exact ih (by omega)
              rw [this _ hNp] at h
              omega
        · obtain rfl : t = 0 := by omega
          rw [f0]
          rfl
      obtain ⟨g2, d1, d2, d3⟩ := main
      refine ⟨g2, ?_, fun c h1 h2 h3 => by rw [d2 c (by omega)]; exact a4 c h1 h2 (by omega) (by omega) (by omega), ?_, ?_⟩
      · simp only [zbi_f, if_true, Bool.false_eq_true, if_false, d1, zb2_s]
      · rw [d2 481 (by omega), l0]; exact e.2.2.2.2.2.2.2.2.1.symm
      · rw [d3]; exact e.2.2.2.2.2.2.2.2.2.symm
    · have main : fX6_mostOnOne (nI r) g1 = some (zgs P (2 ^ (zSB S).1)) := by
        unfold fX6_mostOnOne zgs
        refine zL_F0 (fun m s a => fX6_mostOnOne_L4 (nI r) g1 m a (nI s)) (fun s a => if P s = true then zmx a (zbc (nI s)) else a) (2 ^ (zSB S).1) some 0 (by omega) (fun m s a hs => ?_) (fun m a => ?_)
        · have hle : ¬ nI (2 ^ (zSB S).1) ≤ nI s := by
            rw [nI_leI (by omega) (by omega)]
            omega
          have := hlo s
          simp only [fX6_mostOnOne_L4, a2]
          rw [s_1 _ (by omega), if_neg hle, zchk_n (by omega) (by omega), nI_cl (by omega), a3 s hs, zbc_eq, zb_s, nI_1, hP]
          by_cases q : zlo (zln S n) (zSB S).1 s ≤ r
          · have hd : decide (zlo (zln S n) (zSB S).1 s ≤ r) = true := by simp [q]
            have hl : ¬ nI r < nI (zlo (zln S n) (zSB S).1 s) := by rw [nI_ltI (by omega) (by omega)]; omega
            rw [hd, if_neg hl, if_pos rfl]
            rfl
          · have hd : decide (zlo (zln S n) (zSB S).1 s ≤ r) = false := by simp [q]
            have hl : nI r < nI (zlo (zln S n) (zSB S).1 s) := by rw [nI_ltI (by omega) (by omega)]; omega
            rw [hd, if_pos hl]
            rfl
        · simp only [fX6_mostOnOne_L4, a2]
          rw [s_1 _ (by omega)]
          simp (disch := omega) only [nL_lt, nL_gt, nL_le, nL_ge, nL_eq, nL_qe, nI_ltI, nI_leI, nI_eq, nL_add, nL_dda, nI_add, nL_sub, pk_sub, nL_mul, nL_clamp, nI_cl, zchk_n, zchk_l, zb_s, zb2_s, zb3_s, zb3_e, zput_e, zjoin_e, zs_hit, zs_miss, nle_t, nle_f, nlt_t, nlt_f, neq_t, neq_f, ↓reduceIte, and_self, and_true, true_and, and_false, false_and, not_true_eq_false, not_false_eq_true, Nat.add_zero]
      refine ⟨g1, ?_, fun c h1 h2 h3 => a4 c h1 h2 (by omega) (by omega) (by omega), by rw [l0]; exact e.2.2.2.2.2.2.2.2.1.symm, by rw [f0]; exact e.2.2.2.2.2.2.2.2.2.symm⟩
      simp only [zbi_t, zi10, if_false, if_true, main, zb_s]
  · have e0 := e.thr hS 0
    have main : ∃ g2, fX12_shelves_L40 (nI r) (nI n) (zbi b) (fun g31 => fX12_shelves_L79 (nI r) (zbi b) (fun v4_32 g32 => zb (fX12_letters g32) (fun r_33 => zchk (((1 : Int32) <<< (r_33 &&& 31)) - 1) 256 (if zbi b = 0 then if (g32 506 (((1 : Int32) <<< (r_33 &&& 31)) - 1).toNatClampNeg) < 1000 then some (g32 506 (((1 : Int32) <<< (r_33 &&& 31)) - 1).toNatClampNeg, g32) else some ((-1), g32) else some (v4_32, g32)))) zFU 0 0 g31) zFU 0 (zset g 493 0 0) = some (if b = true then zgs P (2 ^ (zSB S).1) else zoF (zFa P (2 ^ (zSB S).1) (2 ^ (zSB S).1 - 1)), g2) ∧ (∀ c, c ≠ 493 → c ≠ 501 → c ≠ 502 → c ≠ 505 → c ≠ 506 → g2 c = zset g 493 0 0 c) ∧ ∀ k, k < 19 → g2 493 k = zset g 493 0 0 493 k := by
      have frr : ∀ {s : zM}, (∀ c, c ≠ 493 → c ≠ 501 → c ≠ 502 → c ≠ 505 → c ≠ 506 → s c = zset g 493 0 0 c) → (∀ k, k < 19 → s 493 k = zset g 493 0 0 493 k) → zFR (zset g 493 0 0) s := fun b1 b2 => ⟨fun c h => b1 c (by omega) (by omega) (by omega) (by omega) (by omega), fun k _ => by rw [b1 494 (by omega) (by omega) (by omega) (by omega) (by omega)], b1 _ (by omega) (by omega) (by omega) (by omega) (by omega), b1 _ (by omega) (by omega) (by omega) (by omega) (by omega), b1 _ (by omega) (by omega) (by omega) (by omega) (by omega), b1 _ (by omega) (by omega) (by omega) (by omega) (by omega), b2 _ (by omega), b2 _ (by omega), b2 _ (by omega), b2 _ (by omega)⟩
      refine zL_Q0 (fun m i (s : zM) => fX12_shelves_L40 (nI r) (nI n) (zbi b) _ m (nI i) s) (fun i s => (∀ l, l < i → s 505 l = nI (zln S n l)) ∧ (∀ c, c ≠ 493 → c ≠ 501 → c ≠ 502 → c ≠ 505 → c ≠ 506 → s c = zset g 493 0 0 c) ∧ ∀ k, k < 19 → s 493 k = zset g 493 0 0 493 k) (zSB S).1 (fun x => ∃ g2, x = some (if b = true then zgs P (2 ^ (zSB S).1) else zoF (zFa P (2 ^ (zSB S).1) (2 ^ (zSB S).1 - 1)), g2) ∧ (∀ c, c ≠ 493 → c ≠ 501 → c ≠ 502 → c ≠ 505 → c ≠ 506 → g2 c = zset g 493 0 0 c) ∧ ∀ k, k < 19 → g2 493 k = zset g 493 0 0 493 k) (zset g 493 0 0) (by omega) ⟨fun l hl => absurd hl (by omega), fun _ _ _ _ _ _ => rfl, fun _ _ => rfl⟩ (fun m i s hi hh => ?_) (fun m s hh => ?_)
      · obtain ⟨b1, b2, b3⟩ := hh
        have es : zRI S s := e0.fr hS (frr b2 b3)
        obtain ⟨s1, c1, c2⟩ := r_ahead0 hS es .refl hi (n := n) (by omega)
        have hl : zln S n i = (zat S i n).1.1 := if_pos hi
        right
        refine ⟨zset s1 505 i (nI (zat S i n).1.1), ⟨fun l hlt => ?_, fun c h1 h2 h3 h4 h5 => by rw [zs_cell h4, c2.2.1 c h1 h2 h3]; exact b2 c h1 h2 h3 h4 h5, fun k hk => by rw [zs_cell (by omega), c2.2.2 k hk]; exact b3 k hk⟩, ?_⟩
        · by_cases q : l = i
          · subst q; simp (disch := omega) only [nL_lt, nL_gt, nL_le, nL_ge, nL_eq, nL_qe, nI_ltI, nI_leI, nI_eq, nL_add, nL_dda, nI_add, nL_sub, pk_sub, nL_mul, nL_clamp, nI_cl, zchk_n, zchk_l, zb_s, zb2_s, zb3_s, zb3_e, zput_e, zjoin_e, zs_hit, zs_miss, nle_t, nle_f, nlt_t, nlt_f, neq_t, neq_f, ↓reduceIte, and_self, and_true, true_and, and_false, false_and, not_true_eq_false, not_false_eq_true, Nat.add_zero]; rw [hl]
          · simp (disch := omega) only [nL_lt, nL_gt, nL_le, nL_ge, nL_eq, nL_qe, nI_ltI, nI_leI, nI_eq, nL_add, nL_dda, nI_add, nL_sub, pk_sub, nL_mul, nL_clamp, nI_cl, zchk_n, zchk_l, zb_s, zb2_s, zb3_s, zb3_e, zput_e, zjoin_e, zs_hit, zs_miss, nle_t, nle_f, nlt_t, nlt_f, neq_t, neq_f, ↓reduceIte, and_self, and_true, true_and, and_false, false_and, not_true_eq_false, not_false_eq_true, Nat.add_zero]; rw [c2.2.1 505 (by omega) (by omega) (by omega)]; exact b1 l (by omega)
        · simp only [fX12_shelves_L40, r_letters es, zb_s]
          have hle : ¬ nI (zSB S).1 ≤ nI i := by
            rw [nI_leI (by omega) (by omega)]
            omega
          rw [if_neg hle, c1, zb_s, zchk_n (by omega) (by omega), zput_e, nI_cl (by omega), c2.1.1, nI_1]
      · obtain ⟨b1, b2, b3⟩ := hh
        have es : zRI S s := e0.fr hS (frr b2 b3)
        simp only [fX12_shelves_L40, r_letters es, zb_s]
        rw [if_pos (by simp (disch := omega) only [nL_lt, nL_gt, nL_le, nL_ge, nL_eq, nL_qe, nI_ltI, nI_leI, nI_eq, nL_add, nL_dda, nI_add, nL_sub, pk_sub, nL_mul, nL_clamp, nI_cl, zchk_n, zchk_l, zb_s, zb2_s, zb3_s, zb3_e, zput_e, zjoin_e, zs_hit, zs_miss, nle_t, nle_f, nlt_t, nlt_f, neq_t, neq_f, ↓reduceIte, and_self, and_true, true_and, and_false, false_and, not_true_eq_false, not_false_eq_true, Nat.add_zero])]
        refine zL_Q0 (fun m k (st : Int32 × zM) => fX12_shelves_L79 (nI r) (zbi b) _ m st.1 (nI k) st.2) (fun k st => st.1 = zgs P k ∧ (∀ t, t < k → st.2 506 t = nI (zFa P k t)) ∧ ∀ c, c ≠ 506 → st.2 c = s c) (2 ^ (zSB S).1) (fun x => ∃ g2, x = some (if b = true then zgs P (2 ^ (zSB S).1) else zoF (zFa P (2 ^ (zSB S).1) (2 ^ (zSB S).1 - 1)), g2) ∧ (∀ c, c ≠ 493 → c ≠ 501 → c ≠ 502 → c ≠ 505 → c ≠ 506 → g2 c = zset g 493 0 0 c) ∧ ∀ k, k < 19 → g2 493 k = zset g 493 0 0 493 k) (0, s) (by omega) ⟨rfl, fun t ht => absurd ht (by omega), fun _ _ => rfl⟩ (fun m k st hk hh => ?_) (fun m st hh => ?_)
        · obtain ⟨a, t⟩ := st
          obtain ⟨c0, c1, c2⟩ := hh
          have c0 : a = zgs P k := c0
          have c1 : ∀ x, x < k → t 506 x = nI (zFa P k x) := c1
          have c2 : ∀ c, c ≠ 506 → t c = s c := c2
          subst c0
          have frt : ∀ {u : zM}, (∀ c, c ≠ 506 → u c = s c) → zRI S u := fun hu => e0.fr hS (frr (fun c h1 h2 h3 h4 h5 => by rw [hu c h5]; exact b2 c h1 h2 h3 h4 h5) (fun k hk => by rw [hu 493 (by omega)]; exact b3 k hk))
          have len : ∀ {u : zM}, (∀ c, c ≠ 506 → u c = s c) → ∀ x, fX12_lengthOf (nI x) u = some (nI (zlo (zln S n) (zSB S).1 x)) ∨ 256 ≤ x := by
            intro u hu x
            rcases Nat.lt_or_ge x 256 with qx | qx
            · left
              have eu := frt hu
              have l5 : u 505 = s 505 := hu 505 (by omega)
              unfold fX12_lengthOf
              refine zL_Q0 (fun m i (a : Int32) => fX12_lengthOf_L4 (nI x) u m a (nI i)) (fun i a => a = nI (zlo (zln S n) i x)) (zSB S).1 (fun y => y = some (nI (zlo (zln S n) (zSB S).1 x))) 0 (by omega) rfl (fun m i a hi ha => ?_) (fun m a ha => ?_)
              · subst ha
                right
                refine ⟨_, rfl, ?_⟩
                simp only [fX12_lengthOf_L4, r_letters eu, zb_s, fX12_hasBit]
                have hle : ¬ nI (zSB S).1 ≤ nI i := by
                  rw [nI_leI (by omega) (by omega)]
                  omega
                rw [if_neg hle, b_test (by omega), w_nat i (by omega)]
                show _ = fX12_lengthOf_L4 (nI x) u m (nI (zlo (zln S n) i x + if x.testBit i = true then zln S n i else 0)) (nI (i + 1))
                cases q : x.testBit i
                · simp [zb, nI_1]
                · simp only [if_true, zb_s, zi10, if_false, nI_1]
                  rw [zchk_n (by omega) (by omega), nI_cl (by omega), l5, b1 i hi, nI_add]
              · subst ha
                simp only [fX12_lengthOf_L4, r_letters eu, zb_s]
                simp (disch := omega) only [nL_lt, nL_gt, nL_le, nL_ge, nL_eq, nL_qe, nI_ltI, nI_leI, nI_eq, nL_add, nL_dda, nI_add, nL_sub, pk_sub, nL_mul, nL_clamp, nI_cl, zchk_n, zchk_l, zb_s, zb2_s, zb3_s, zb3_e, zput_e, zjoin_e, zs_hit, zs_miss, nle_t, nle_f, nlt_t, nlt_f, neq_t, neq_f, ↓reduceIte, and_self, and_true, true_and, and_false, false_and, not_true_eq_false, not_false_eq_true, Nat.add_zero]
            · exact Or.inr qx
          have hF : zFa P (k + 1) k = if k = 0 then 0 else zch P (zFa P k) k 256 k 1000 := zup_hit rfl
          have chain : k ≠ 0 → fX12_fewestOf (nI k) (nI r) t = some (nI (zch P (zFa P k) k 256 k 1000)) := by
            intro hk0
            unfold fX12_fewestOf
            exact r_chain (room := r) (set := k) (P := P) (F := zFa P k) (by omega) (by omega) (fun x hx => zFa_le k (by omega) x hx) c1 (fun x hx hxk => ⟨zlo (zln S n) (zSB S).1 x, hlo x, by rcases len c2 x with h | h; exact h; omega, hP x⟩) zFU 256 k 1000 (by unfold zFU; omega) (by omega) (Nat.le_refl _) (Nat.and_self k) (Nat.le_refl _)
          right
          refine ⟨(zgs P (k + 1), zset t 506 k (nI (zFa P (k + 1) k))), ⟨rfl, fun x hx => ?_, fun c hc => by show (zset t 506 k _) c = s c; rw [zs_cell hc]; exact c2 c hc⟩, ?_⟩
          · show (zset t 506 k (nI (zFa P (k + 1) k))) 506 x = _
            by_cases q : x = k
            · subst q; simp (disch := omega) only [nL_lt, nL_gt, nL_le, nL_ge, nL_eq, nL_qe, nI_ltI, nI_leI, nI_eq, nL_add, nL_dda, nI_add, nL_sub, pk_sub, nL_mul, nL_clamp, nI_cl, zchk_n, zchk_l, zb_s, zb2_s, zb3_s, zb3_e, zput_e, zjoin_e, zs_hit, zs_miss, nle_t, nle_f, nlt_t, nlt_f, neq_t, neq_f, ↓reduceIte, and_self, and_true, true_and, and_false, false_and, not_true_eq_false, not_false_eq_true, Nat.add_zero]
            · rw [zFa_up q]
              simp (disch := omega) only [nL_lt, nL_gt, nL_le, nL_ge, nL_eq, nL_qe, nI_ltI, nI_leI, nI_eq, nL_add, nL_dda, nI_add, nL_sub, pk_sub, nL_mul, nL_clamp, nI_cl, zchk_n, zchk_l, zb_s, zb2_s, zb3_s, zb3_e, zput_e, zjoin_e, zs_hit, zs_miss, nle_t, nle_f, nlt_t, nlt_f, neq_t, neq_f, ↓reduceIte, and_self, and_true, true_and, and_false, false_and, not_true_eq_false, not_false_eq_true, Nat.add_zero]
              exact c1 x (by omega)
          · have hu : ∀ c, c ≠ 506 → (zset t 506 k (nI (zFa P (k + 1) k))) c = s c := fun c hc => by rw [zs_cell hc]; exact c2 c hc
            have hlen := len hu k
            simp only [fX12_shelves_L79, r_letters (frt c2), zb_s]
            have hle : ¬ nI (2 ^ (zSB S).1) ≤ nI k := by
              rw [nI_leI (by omega) (by omega)]
              omega
            rw [s_1 _ (by omega), if_neg hle]
            have hval : ∀ K : Int32 → Option (Int32 × zM), zjoin K (fun k112 => if nI k = 0 then k112 0 else zb (fX12_fewestOf (nI k) (nI r) t) (fun r_21 => k112 r_21)) = K (nI (zFa P (k + 1) k)) := by
              intro K
              rw [zjoin_e, hF]
              by_cases q : k = 0
              · subst q
                exact if_pos (show nI 0 = 0 from rfl)
              · rw [if_neg (nI_ne0 (by omega) (by omega)), chain q, if_neg q, zb_s]
            rw [hval, zchk_n (by omega) (by omega), zput_e, nI_cl (by omega)]
            rcases hlen with hlen | hlen
            · have := hlo k
              rw [hlen, zb_s, zbc_eq, zb_s, nI_1, zgs_s, hP]
              by_cases q : zlo (zln S n) (zSB S).1 k ≤ r
              · have hd : decide (zlo (zln S n) (zSB S).1 k ≤ r) = true := by simp [q]
                have hl : ¬ nI r < nI (zlo (zln S n) (zSB S).1 k) := by rw [nI_ltI (by omega) (by omega)]; omega
                rw [hd, if_neg hl, if_pos rfl]
                rfl
              · have hd : decide (zlo (zln S n) (zSB S).1 k ≤ r) = false := by simp [q]
                have hl : nI r < nI (zlo (zln S n) (zSB S).1 k) := by rw [nI_ltI (by omega) (by omega)]; omega
                rw [hd, if_pos hl]
                rfl
            · omega
        · obtain ⟨a, t⟩ := st
          obtain ⟨c0, c1, c2⟩ := hh
          have c0 : a = zgs P (2 ^ (zSB S).1) := c0
          have c1 : ∀ x, x < 2 ^ (zSB S).1 → t 506 x = nI (zFa P (2 ^ (zSB S).1) x) := c1
          have c2 : ∀ c, c ≠ 506 → t c = s c := c2
          have et : zRI S t := e0.fr hS (frr (fun c h1 h2 h3 h4 h5 => by rw [c2 c h5]; exact b2 c h1 h2 h3 h4 h5) (fun k hk => by rw [c2 493 (by omega)]; exact b3 k hk))
          refine ⟨t, ?_, fun c h1 h2 h3 h4 h5 => by rw [c2 c h5]; exact b2 c h1 h2 h3 h4 h5, fun k hk => by rw [c2 493 (by omega)]; exact b3 k hk⟩
          rw [← c0]
          simp only [fX12_shelves_L79, r_letters et, zb_s]
          rw [s_1 _ (by omega), if_pos (by simp (disch := omega) only [nL_lt, nL_gt, nL_le, nL_ge, nL_eq, nL_qe, nI_ltI, nI_leI, nI_eq, nL_add, nL_dda, nI_add, nL_sub, pk_sub, nL_mul, nL_clamp, nI_cl, zchk_n, zchk_l, zb_s, zb2_s, zb3_s, zb3_e, zput_e, zjoin_e, zs_hit, zs_miss, nle_t, nle_f, nlt_t, nlt_f, neq_t, neq_f, ↓reduceIte, and_self, and_true, true_and, and_false, false_and, not_true_eq_false, not_false_eq_true, Nat.add_zero]), nL_sub (by show 1 ≤ 2 ^ (zSB S).1; omega), zchk_n (by show 2 ^ (zSB S).1 - 1 < 256; omega) (by omega), nI_cl (by show 2 ^ (zSB S).1 - 1 < _; omega)]
          have hlast := c1 (2 ^ (zSB S).1 - 1) (by omega)
          have hle := zFa_le (P := P) (2 ^ (zSB S).1) hN (2 ^ (zSB S).1 - 1) (by omega)
          cases b
          · simp only [zbi_f, if_true, Bool.false_eq_true, if_false]
            rw [show (2 ^ (zSB S).1 - OfNat.ofNat 1) = 2 ^ (zSB S).1 - 1 from rfl, hlast]
            by_cases q : zFa P (2 ^ (zSB S).1) (2 ^ (zSB S).1 - 1) = 1000
            · rw [q, if_neg (by decide)]
              rfl
            · have : zoF (zFa P (2 ^ (zSB S).1) (2 ^ (zSB S).1 - 1)) = nI (zFa P (2 ^ (zSB S).1) (2 ^ (zSB S).1 - 1)) := if_neg q
              rw [this, if_pos (by simp (disch := omega) only [nL_lt, nL_gt, nL_le, nL_ge, nL_eq, nL_qe, nI_ltI, nI_leI, nI_eq, nL_add, nL_dda, nI_add, nL_sub, pk_sub, nL_mul, nL_clamp, nI_cl, zchk_n, zchk_l, zb_s, zb2_s, zb3_s, zb3_e, zput_e, zjoin_e, zs_hit, zs_miss, nle_t, nle_f, nlt_t, nlt_f, neq_t, neq_f, ↓reduceIte, and_self, and_true, true_and, and_false, false_and, not_true_eq_false, not_false_eq_true, Nat.add_zero])]
          · simp only [zbi_t, zi10, if_false, if_true]
    obtain ⟨g2, a1, a2, a3⟩ := main
    refine ⟨_, g2, ?_, zFR.thr.trans ⟨fun c h => a2 c (by omega) (by omega) (by omega) (by omega) (by omega), fun k _ => by rw [a2 494 (by omega) (by omega) (by omega) (by omega) (by omega)], a2 _ (by omega) (by omega) (by omega) (by omega) (by omega), a2 _ (by omega) (by omega) (by omega) (by omega) (by omega), a2 _ (by omega) (by omega) (by omega) (by omega) (by omega), a2 _ (by omega) (by omega) (by omega) (by omega) (by omega), a3 _ (by omega), a3 _ (by omega), a3 _ (by omega), a3 _ (by omega)⟩, by rw [a3 0 (by omega)]; simp (disch := omega) only [nL_lt, nL_gt, nL_le, nL_ge, nL_eq, nL_qe, nI_ltI, nI_leI, nI_eq, nL_add, nL_dda, nI_add, nL_sub, pk_sub, nL_mul, nL_clamp, nI_cl, zchk_n, zchk_l, zb_s, zb2_s, zb3_s, zb3_e, zput_e, zjoin_e, zs_hit, zs_miss, nle_t, nle_f, nlt_t, nlt_f, neq_t, neq_f, ↓reduceIte, and_self, and_true, true_and, and_false, false_and, not_true_eq_false, not_false_eq_true, Nat.add_zero], rfl⟩
    unfold fX12_shelves
    simp only [zb_s, zb2_s, zb3_s, zb3_e, zjoin_e, zput_e, r_thr0, r_thr1, zi10, zi01, if_true, if_false, hin, r_noAhead hn]
    exact a1
