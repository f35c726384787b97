def bt (x : Int32) (i : Nat) : Bool := x.toBitVec.getLsbD i
theorem b_ext {x y : Int32} (h : ∀ i, i < 32 → bt x i = bt y i) : x = y := Int32.toBitVec_inj.mp (BitVec.eq_of_getLsbD_eq (fun i hi => h i hi))
theorem b_or (x y : Int32) (i : Nat) : bt (x ||| y) i = (bt x i || bt y i) := by unfold bt; rw [Int32.toBitVec_or, BitVec.getLsbD_or]
theorem b_and (x y : Int32) (i : Nat) : bt (x &&& y) i = (bt x i && bt y i) := by unfold bt; rw [Int32.toBitVec_and, BitVec.getLsbD_and]
theorem b_xor (x y : Int32) (i : Nat) : bt (x ^^^ y) i = (bt x i ^^ bt y i) := by unfold bt; rw [Int32.toBitVec_xor, BitVec.getLsbD_xor]
theorem b_big {x : Int32} {i : Nat} (h : 32 ≤ i) : bt x i = false := BitVec.getLsbD_of_ge _ _ h
theorem b_255 (i : Nat) : bt 255 i = decide (i < 8) := by
  rcases Nat.lt_or_ge i 32 with h | h
  · exact (by decide +kernel : ∀ i, i < 32 → bt 255 i = decide (i < 8)) i h
  · rw [b_big h, decide_eq_false (by omega)]
theorem b_65535 (i : Nat) : bt 65535 i = decide (i < 16) := by
  rcases Nat.lt_or_ge i 32 with h | h
  · exact (by decide +kernel : ∀ i, i < 32 → bt 65535 i = decide (i < 16)) i h
  · rw [b_big h, decide_eq_false (by omega)]
theorem b_m1 : ∀ i, i < 32 → bt (-1) i = true := by decide +kernel
theorem b_0 (i : Nat) : bt 0 i = false := BitVec.getLsbD_zero
theorem s_l : ∀ n, n < 32 → ((nI n &&& 31).toBitVec.smod 32).toNat = n := by decide +kernel
theorem s_u : ∀ n, n < 32 → (((nI n).toUInt32 &&& Int32.toUInt32 31).toBitVec % 32).toNat = n := by decide +kernel
theorem b_shl (n : Nat) (hn : n < 32) (x : Int32) {i : Nat} (hi : i < 32) : bt (x <<< (nI n &&& 31)) i = (decide (n ≤ i) && bt x (i - n)) := by
  unfold bt
  rw [Int32.toBitVec_shiftLeft]
  show (x.toBitVec <<< ((nI n &&& 31).toBitVec.smod 32).toNat).getLsbD i = _
  rw [s_l n hn, BitVec.getLsbD_shiftLeft]
  rcases Nat.lt_or_ge i n with h | h
  · simp [h, Nat.not_le.mpr h]
  · simp [hi, h, Nat.not_lt.mpr h]
theorem b_ushr (n : Nat) (hn : n < 32) (x : Int32) (i : Nat) : bt ((x.toUInt32 >>> ((nI n).toUInt32 &&& Int32.toUInt32 31)).toInt32) i = bt x (n + i) := by
  show (x.toUInt32 >>> ((nI n).toUInt32 &&& Int32.toUInt32 31)).toBitVec.getLsbD i = x.toUInt32.toBitVec.getLsbD (n + i)
  rw [UInt32.toBitVec_shiftRight]
  show (x.toUInt32.toBitVec >>> (((nI n).toUInt32 &&& Int32.toUInt32 31).toBitVec % 32).toNat).getLsbD i = _
  rw [s_u n hn, BitVec.getLsbD_ushiftRight]
theorem b_sshr (n : Nat) (hn : n < 32) (x : Int32) {i : Nat} (hi : i < 32) : bt (x >>> (nI n &&& 31)) i = if n + i < 32 then bt x (n + i) else bt x 31 := by
  unfold bt
  rw [Int32.toBitVec_shiftRight]
  show (x.toBitVec.sshiftRight ((nI n &&& 31).toBitVec.smod 32).toNat).getLsbD i = _
  rw [s_l n hn, BitVec.getLsbD_sshiftRight, BitVec.msb_eq_getLsbD_last]
  simp [hi]
theorem b_shl8 (x : Int32) {i : Nat} (hi : i < 32) : bt (x <<< ((8 : Int32) &&& 31)) i = (decide (8 ≤ i) && bt x (i - 8)) := b_shl 8 (by omega) x hi
theorem b_shl16 (x : Int32) {i : Nat} (hi : i < 32) : bt (x <<< ((16 : Int32) &&& 31)) i = (decide (16 ≤ i) && bt x (i - 16)) := b_shl 16 (by omega) x hi
theorem b_shl24 (x : Int32) {i : Nat} (hi : i < 32) : bt (x <<< ((24 : Int32) &&& 31)) i = (decide (24 ≤ i) && bt x (i - 24)) := b_shl 24 (by omega) x hi
theorem b_sshr8 (x : Int32) {i : Nat} (hi : i < 32) : bt (x >>> ((8 : Int32) &&& 31)) i = if 8 + i < 32 then bt x (8 + i) else bt x 31 := b_sshr 8 (by omega) x hi
/-! ===== nI under and, xor, >>>, one bit, 65535 ===== -/
theorem nx_and (a b : Nat) : nI a &&& nI b = nI (a &&& b) := by
  apply Int32.toBitVec_inj.1
  show BitVec.ofNat 32 a &&& BitVec.ofNat 32 b = BitVec.ofNat 32 (a &&& b)
  apply BitVec.eq_of_getLsbD_eq
  intro i hi
  simp [hi]
/-! one bit -/
theorem b_1 (i : Nat) : bt 1 i = decide (i = 0) := by
  rcases Nat.lt_or_ge i 32 with h | h
  · exact (by decide +kernel : ∀ i, i < 32 → bt 1 i = decide (i = 0)) i h
  · rw [b_big h, decide_eq_false (by omega)]
theorem b_and1 (y : Int32) : y &&& 1 = if bt y 0 = true then 1 else 0 := by
  apply b_ext
  intro i hi
  rw [b_and, b_1]
  by_cases q : i = 0
  · subst q
    cases q2 : bt y 0
    · simp [b_0]
    · simp [b_1]
  · cases q2 : bt y 0
    · simp [b_0, q]
    · simp [b_1, q]
theorem b_test {x : Int32} {k : Nat} (hk : k < 32) : (x >>> (nI k &&& 31)) &&& 1 = if bt x k = true then 1 else 0 := by
  rw [b_and1, b_sshr k hk x (by omega), Nat.add_zero, if_pos hk]
theorem b_one {k i : Nat} (hk : k < 32) (hi : i < 32) : bt ((1 : Int32) <<< (nI k &&& 31)) i = decide (i = k) := by
  rw [b_shl k hk 1 hi, b_1]
  by_cases q : i = k
  · simp [q]
  · by_cases q2 : k ≤ i
    · simp [q2, q]; omega
    · simp [q2, q]
theorem b_zbs {p : Nat → Bool} : ∀ {N : Nat}, N ≤ 32 → ∀ {i : Nat}, i < 32 → bt (zbs p N) i = (decide (i < N) && p i)
  | 0, _, i, _ => by show bt 0 i = _; rw [b_0]; simp
  | N + 1, hN, i, hi => by
    have ih := b_zbs (p := p) (N := N) (by omega) hi
    rw [zbs_s]
    by_cases q : p N = true
    · rw [if_pos q, b_or, ih, b_one (by omega) hi]
      by_cases q2 : i = N
      · subst q2; simp [q]
      · simp [q2, show i < N + 1 ↔ i < N from by omega]
    · rw [if_neg q, ih]
      by_cases q2 : i = N
      · subst q2; simp [q]
      · simp [show i < N + 1 ↔ i < N from by omega]
/-- whether one of the first i LINES is of KIND k -/
def zhk (L : zL) (k : Nat) : Nat → Bool
  | 0 => false
  | i + 1 => zhk L k i || decide (L.2.1 i = k)
theorem b_zks {L : zL} (hL : zLW L) {k : Nat} (hk : k < 12) : bt (zks L) k = zhk L k L.1 := by
  unfold zks
  have : ∀ N, N ≤ L.1 → bt (zfo (fun i a => a ||| ((1 : Int32) <<< (nI (L.2.1 i) &&& 31))) N 0 0) k = zhk L k N := by
    intro N
    induction N with
    | zero => intro _; exact b_0 _
    | succ N ih =>
      intro hN
      have := hL.2.2 N (by omega)
      rw [zfo_s, b_or, ih (by omega), b_one (by omega) (by omega)]
      show (_ || _) = (zhk L k N || _)
      by_cases q : k = L.2.1 N
      · simp [q]
      · have q' : ¬ L.2.1 N = k := fun h => q h.symm
        simp [q, q']
  exact this L.1 (Nat.le_refl _)
theorem b_zbnd {V : zWd} {L : zL} (h8 : V.2.2.2.1 ≤ 8) {p : Nat} (hp : p < V.2.2.2.1) : bt (zbnd V L) p = zbd L (V.2.2.2.2.1 p) (V.2.2.2.2.2.1 p) L.1 := by
  have : zbnd V L = zbs (fun p => zbd L (V.2.2.2.2.1 p) (V.2.2.2.2.2.1 p) L.1) V.2.2.2.1 := rfl
  rw [this, b_zbs (by omega) (by omega)]
  simp [hp]
/-! how many bits: at most so many as there are places -/
theorem w_nat {m : Nat} (i : Nat) (h : m < 2 ^ 32) : bt (nI m) i = m.testBit i := by
  unfold bt
  show (BitVec.ofNat 32 m).getLsbD i = _
  rw [BitVec.getLsbD_ofNat]
  rcases Nat.lt_or_ge i 32 with q | q
  · simp [q]
  · have : m.testBit i = false := Nat.testBit_lt_two_pow (Nat.lt_of_lt_of_le h (Nat.pow_le_pow_right (by omega) q))
    simp [this]
theorem w_lt {x : Int32} {t : Nat} (ht : t ≤ 32) (h : ∀ i, t ≤ i → i < 32 → bt x i = false) : ∃ m, m < 2 ^ t ∧ x = nI m := by
  have hm : x.toBitVec.toNat < 2 ^ 32 := x.toBitVec.isLt
  have hx : x = nI x.toBitVec.toNat := by
    apply Int32.toBitVec_inj.mp
    show _ = BitVec.ofNat 32 _
    simp
  refine ⟨x.toBitVec.toNat, ?_, hx⟩
  apply Nat.lt_pow_two_of_testBit
  intro i hi
  rcases Nat.lt_or_ge i 32 with q | q
  · have := h i hi q
    rw [hx, w_nat i hm] at this
    exact this
  · exact Nat.testBit_lt_two_pow (Nat.lt_of_lt_of_le hm (Nat.pow_le_pow_right (by omega) q))
theorem a_split (a b c d : Nat) (ha : a < 256) (hc : c < 256) : (a + 256 * b) &&& (c + 256 * d) = (a &&& c) + 256 * (b &&& d) := by
  have h1 : ((a + 256 * b) &&& (c + 256 * d)) % 2 ^ 8 = a &&& c := by
    rw [Nat.and_mod_two_pow, show (a + 256 * b) % 2 ^ 8 = a from by omega, show (c + 256 * d) % 2 ^ 8 = c from by omega]
  have h2 : ((a + 256 * b) &&& (c + 256 * d)) / 2 ^ 8 = b &&& d := by
    rw [Nat.and_div_two_pow, show (a + 256 * b) / 2 ^ 8 = b from by omega, show (c + 256 * d) / 2 ^ 8 = d from by omega]
  have := Nat.mod_add_div ((a + 256 * b) &&& (c + 256 * d)) (2 ^ 8)
  rw [h1, h2] at this
  omega
theorem a_split3 (a b c m : Nat) (ha : a < 256) (hb : b < 256) (hc : c < 256) (hm : m < 256) : (a + 256 * (b + 256 * c)) &&& (m + 256 * (m + 256 * (m + 256 * m))) = (a &&& m) + 256 * ((b &&& m) + 256 * (c &&& m)) := by
  rw [a_split _ _ _ _ ha hm, a_split _ _ _ _ hb hm]
  have : c &&& (m + 256 * m) = c &&& m := by
    have := a_split c 0 m m hc hm
    simpa using this
  rw [this]
theorem p_1 : ∀ b, b < 256 → ∀ r, r < 2 → (b / 2 + 128 * r) &&& 85 = (b / 2) &&& 85 := by decide +kernel
theorem p_2 : ∀ u, u < 256 → ∀ r, r < 4 → (u / 4 + 64 * r) &&& 51 = (u / 4) &&& 51 := by decide +kernel
def pu (b : Nat) : Nat := b - ((b / 2) &&& 85)
def ps (b : Nat) : Nat := (pu b &&& 51) + ((pu b / 4) &&& 51)
def pp (b : Nat) : Nat := (ps b + ps b / 16) % 16
theorem p_u : ∀ b, b < 256 → pu b < 256 ∧ ((b / 2) &&& 85) ≤ b := by decide +kernel
theorem p_s : ∀ b, b < 256 → ps b ≤ 68 ∧ ps b % 16 ≤ 4 ∧ pp b ≤ 8 := by decide +kernel
theorem zbc_le {m : Nat} (hm : m < 16777216) : ∃ c, c ≤ 24 ∧ zbc (nI m) = nI c := by
  have u : ∀ (n s : Nat) (t : Int32), n < 2 ^ 32 → (h : ((t.toUInt32 &&& Int32.toUInt32 31).toBitVec % 32).toNat = s) → ((nI n).toUInt32 >>> (t.toUInt32 &&& Int32.toUInt32 31)).toInt32 = nI (n / 2 ^ s) := fun n s t h1 h2 => pk_ushrN h1 t s h2
  have s1 : (((1 : Int32).toUInt32 &&& Int32.toUInt32 31).toBitVec % 32).toNat = 1 := by decide
  have s2 : (((2 : Int32).toUInt32 &&& Int32.toUInt32 31).toBitVec % 32).toNat = 2 := by decide
  have s4 : (((4 : Int32).toUInt32 &&& Int32.toUInt32 31).toBitVec % 32).toNat = 4 := by decide
  have s8 : (((8 : Int32).toUInt32 &&& Int32.toUInt32 31).toBitVec % 32).toNat = 8 := by decide
  have s16 : (((16 : Int32).toUInt32 &&& Int32.toUInt32 31).toBitVec % 32).toNat = 16 := by decide
  obtain ⟨a, b, c, ha, hb, hc, rfl⟩ : ∃ a b c, a < 256 ∧ b < 256 ∧ c < 256 ∧ m = a + 256 * (b + 256 * c) := ⟨m % 256, m / 256 % 256, m / 65536, by omega, by omega, by omega, by omega⟩
  have pua := p_u a ha
  have pub := p_u b hb
  have puc := p_u c hc
  have psa := p_s a ha
  have psb := p_s b hb
  have psc := p_s c hc
  -- step 1
  have e1 : (nI (a + 256 * (b + 256 * c)) - (((nI (a + 256 * (b + 256 * c))).toUInt32 >>> ((1 : Int32).toUInt32 &&& Int32.toUInt32 31)).toInt32 &&& 1431655765)) = nI (pu a + 256 * (pu b + 256 * pu c)) := by
    rw [u _ 1 1 (by omega) s1]
    have hh : (a + 256 * (b + 256 * c)) / 2 ^ 1 = (a / 2 + 128 * (b % 2)) + 256 * ((b / 2 + 128 * (c % 2)) + 256 * (c / 2)) := by omega
    have hand : ((a + 256 * (b + 256 * c)) / 2 ^ 1) &&& 1431655765 = ((a / 2) &&& 85) + 256 * (((b / 2) &&& 85) + 256 * ((c / 2) &&& 85)) := by
      rw [hh]
      have := a_split3 (a / 2 + 128 * (b % 2)) (b / 2 + 128 * (c % 2)) (c / 2) 85 (by omega) (by omega) (by omega) (by omega)
      rw [p_1 a ha _ (by omega), p_1 b hb _ (by omega)] at this
      exact this
    rw [show (1431655765 : Int32) = nI 1431655765 from rfl, nx_and, hand, pk_sub (by omega)]
    congr 1
    show _ = (a - _) + 256 * ((b - _) + 256 * (c - _))
    omega
  have e2 : ((nI (pu a + 256 * (pu b + 256 * pu c)) &&& 858993459) + ((((nI (pu a + 256 * (pu b + 256 * pu c))).toUInt32 >>> ((2 : Int32).toUInt32 &&& Int32.toUInt32 31)).toInt32) &&& 858993459)) = nI (ps a + 256 * (ps b + 256 * ps c)) := by
    rw [u _ 2 2 (by omega) s2]
    have hh : (pu a + 256 * (pu b + 256 * pu c)) / 2 ^ 2 = (pu a / 4 + 64 * (pu b % 4)) + 256 * ((pu b / 4 + 64 * (pu c % 4)) + 256 * (pu c / 4)) := by omega
    have h1 := a_split3 (pu a) (pu b) (pu c) 51 (by omega) (by omega) (by omega) (by omega)
    have h2 := a_split3 (pu a / 4 + 64 * (pu b % 4)) (pu b / 4 + 64 * (pu c % 4)) (pu c / 4) 51 (by omega) (by omega) (by omega) (by omega)
    rw [p_2 _ pua.1 _ (by omega), p_2 _ pub.1 _ (by omega)] at h2
    rw [hh, show (858993459 : Int32) = nI (51 + 256 * (51 + 256 * (51 + 256 * 51))) from rfl, nx_and, nx_and, h1, h2, nI_add]
    congr 1
    show _ = (_ + _) + 256 * ((_ + _) + 256 * (_ + _))
    omega
  have e3 : ((nI (ps a + 256 * (ps b + 256 * ps c)) + (((nI (ps a + 256 * (ps b + 256 * ps c))).toUInt32 >>> ((4 : Int32).toUInt32 &&& Int32.toUInt32 31)).toInt32)) &&& 252645135) = nI (pp a + 256 * (pp b + 256 * pp c)) := by
    rw [u _ 4 4 (by omega) s4, nI_add]
    have hh : (ps a + 256 * (ps b + 256 * ps c)) + (ps a + 256 * (ps b + 256 * ps c)) / 2 ^ 4 = (ps a + ps a / 16 + 16 * (ps b % 16)) + 256 * ((ps b + ps b / 16 + 16 * (ps c % 16)) + 256 * (ps c + ps c / 16)) := by omega
    have h1 := a_split3 (ps a + ps a / 16 + 16 * (ps b % 16)) (ps b + ps b / 16 + 16 * (ps c % 16)) (ps c + ps c / 16) 15 (by omega) (by omega) (by omega) (by omega)
    have m15 : ∀ x, x &&& 15 = x % 16 := fun x => Nat.and_two_pow_sub_one_eq_mod x 4
    rw [m15, m15, m15] at h1
    rw [hh, show (252645135 : Int32) = nI (15 + 256 * (15 + 256 * (15 + 256 * 15))) from rfl, nx_and, h1]
    congr 1
    show _ = (_ % 16) + 256 * ((_ % 16) + 256 * (_ % 16))
    omega
  have e4 : (nI (pp a + 256 * (pp b + 256 * pp c)) + (((nI (pp a + 256 * (pp b + 256 * pp c))).toUInt32 >>> ((8 : Int32).toUInt32 &&& Int32.toUInt32 31)).toInt32)) = nI ((pp a + pp b) + 256 * ((pp b + pp c) + 256 * pp c)) := by
    rw [u _ 8 8 (by omega) s8, nI_add]
    congr 1
    omega
  have e5 : ((nI ((pp a + pp b) + 256 * ((pp b + pp c) + 256 * pp c)) + (((nI ((pp a + pp b) + 256 * ((pp b + pp c) + 256 * pp c))).toUInt32 >>> ((16 : Int32).toUInt32 &&& Int32.toUInt32 31)).toInt32)) &&& 63) = nI (pp a + pp b + pp c) := by
    rw [u _ 16 16 (by omega) s16, nI_add, show (63 : Int32) = nI 63 from rfl, nx_and]
    congr 1
    have hw : ((pp a + pp b) + 256 * ((pp b + pp c) + 256 * pp c)) / 2 ^ 16 = pp c := by omega
    rw [hw, show (pp a + pp b) + 256 * ((pp b + pp c) + 256 * pp c) + pp c = (pp a + pp b + pp c) + 64 * (4 * (pp b + pp c) + 1024 * pp c) from by omega]
    refine (Nat.and_two_pow_sub_one_eq_mod _ 6).trans ?_
    rw [show 2 ^ 6 = 64 from rfl, Nat.add_mul_mod_self_left, Nat.mod_eq_of_lt (by omega)]
  refine ⟨pp a + pp b + pp c, by omega, ?_⟩
  have hz : zbc (nI (a + 256 * (b + 256 * c))) = _ := rfl
  unfold zbc fJ6_bitCount_0f7a4
  rw [Option.getD_some, e1, e2, e3, e4, e5]
