/-! FED -/
def zby (v : Int32) (s : Nat) : Nat := v.toBitVec.toNat / 2 ^ s % 256
theorem zby_lt {v : Int32} {s : Nat} : zby v s < 256 := Nat.mod_lt _ (by omega)
theorem b_zby (v : Int32) (s i : Nat) (hi : i < 32) : bt (nI (zby v s)) i = (decide (i < 8) && bt v (s + i)) := by
  show (BitVec.ofNat 32 (v.toBitVec.toNat / 2 ^ s % 2 ^ 8)).getLsbD i = (decide (i < 8) && v.toBitVec.toNat.testBit (s + i))
  rw [BitVec.getLsbD_ofNat, Nat.testBit_mod_two_pow, Nat.testBit_div_two_pow, Nat.add_comm s i]
  simp [hi]
theorem zby_c (v : Int32) {s : Nat} (hs : s < 32) : ((v.toUInt32 >>> ((nI s).toUInt32 &&& Int32.toUInt32 31)).toInt32) &&& 255 = nI (zby v s) := by
  apply b_ext
  intro i hi
  rw [b_and, b_ushr s hs, b_255, b_zby v s i hi, Bool.and_comm]
theorem t8_ext {x y : Int32} (h : ∀ i, i < 8 → bt x i = bt y i) : x.toInt8 = y.toInt8 := by
  apply Int8.toBitVec_inj.mp
  rw [Int32.toBitVec_toInt8, Int32.toBitVec_toInt8]
  apply BitVec.eq_of_getLsbD_eq
  intro i hi
  rw [BitVec.getLsbD_signExtend, BitVec.getLsbD_signExtend, if_pos (by omega), if_pos (by omega)]
  have := h i hi
  unfold bt at this
  rw [this]
theorem zby_r (v : Int32) {s : Nat} (hs : s ≤ 24) : vp_nar .byte ((v >>> (nI s &&& 31)).toInt8.toInt32) = zsb (zby v s) := by
  show ((v >>> (nI s &&& 31)).toInt8.toInt32).toInt8.toInt32 = (nI (zby v s)).toInt8.toInt32
  rw [Int8.toInt8_toInt32]
  congr 1
  apply t8_ext
  intro i hi
  rw [b_sshr s (by omega) v (by omega), if_pos (by omega), b_zby v s i (by omega)]
  simp [hi]
theorem nL_rmul {a n : Nat} : nI a * (no_index (OfNat.ofNat n) : Int32) = nI (a * OfNat.ofNat n) := pk_mul a n
theorem nL_bus {a n : Nat} (h : a ≤ OfNat.ofNat n) : (no_index (OfNat.ofNat n) : Int32) - nI a = nI (OfNat.ofNat n - a) := pk_sub h
def zfv (v1 v2 v3 v4 v5 : Int32) (j : Nat) : Int32 := if j = 0 then v1 else if j = 1 then v2 else if j = 2 then v3 else if j = 3 then v4 else v5
def zfd (v : Nat → Int32) (k : Nat) : Nat := zby (v (k / 4)) (24 - 8 * (k - k / 4 * 4))
theorem zfd_b {v : Nat → Int32} {j k : Nat} (hk : k < 4) : zfd v (4 * j + k) = zby (v j) (24 - 8 * k) := by
  unfold zfd
  rw [show (4 * j + k) / 4 = j from by omega, show 4 * j + k - j * 4 = k from by omega]
theorem c_put1 {g : zM} {t n s : Nat} {v : Int32} (h : g 0 1 = nI t) (ht : t < 400) (hs : s < 32) : fX11_putBytes_L3 v (n + 1) (nI s) g = fX11_putBytes_L3 v n (nI s + (-8)) (zset (zset g 1 t (nI (zby v s))) 0 1 (nI (t + 1))) := by
  rw [fX11_putBytes_L3, if_neg (by rw [nL_lt (by omega) (by decide)]; omega), h, if_neg (by rw [nL_ge (by omega) (by decide)]; omega), zchk_n (by omega) (by omega), nI_cl (by omega), zby_c v hs, zput_e, zput_e, zs_miss (by omega), h, nI_1]
theorem c_put0 {g : zM} {n : Nat} {v : Int32} : fX11_putBytes_L3 v (n + 1) (nI 0 + (-8)) g = some g := by
  rw [fX11_putBytes_L3, if_pos (by decide)]
theorem c_put {g : zM} {t : Nat} {v : Int32} (h : g 0 1 = nI t) (ht : t + 4 ≤ 400) : ∀ n, ∃ g1, fX11_putBytes_L3 v (n + 5) 24 g = some g1 ∧ g1 0 1 = nI (t + 4) ∧ (∀ k, k < 4 → g1 1 (t + k) = nI (zby v (24 - 8 * k))) ∧ (∀ k, k < t → g1 1 k = g 1 k) ∧ (∀ k, k ≠ 1 → g1 0 k = g 0 k) ∧ ∀ c, c ≠ 0 → c ≠ 1 → g1 c = g c := by
  intro n
  have q1 := c_put1 (n := n + 4) (v := v) (s := 24) h (by omega) (by omega)
  have q2 := c_put1 (g := zset (zset g 1 t (nI (zby v 24))) 0 1 (nI (t + 1))) (t := t + 1) (n := n + 3) (v := v) (s := 16) (zs_hit ⟨rfl, rfl⟩) (by omega) (by omega)
  have q3 := c_put1 (g := zset (zset (zset (zset g 1 t (nI (zby v 24))) 0 1 (nI (t + 1))) 1 (t + 1) (nI (zby v 16))) 0 1 (nI (t + 1 + 1))) (t := t + 1 + 1) (n := n + 2) (v := v) (s := 8) (zs_hit ⟨rfl, rfl⟩) (by omega) (by omega)
  have q4 := c_put1 (g := zset (zset (zset (zset (zset (zset g 1 t (nI (zby v 24))) 0 1 (nI (t + 1))) 1 (t + 1) (nI (zby v 16))) 0 1 (nI (t + 1 + 1))) 1 (t + 1 + 1) (nI (zby v 8))) 0 1 (nI (t + 1 + 1 + 1))) (t := t + 1 + 1 + 1) (n := n + 1) (v := v) (s := 0) (zs_hit ⟨rfl, rfl⟩) (by omega) (by omega)
  have e1 : nI 24 + (-8) = nI 16 := by decide
  have e2 : nI 16 + (-8) = nI 8 := by decide
  have e3 : nI 8 + (-8) = nI 0 := by decide
  rw [e1] at q1
  rw [e2] at q2
  rw [e3] at q3
  have q5 := q1.trans (q2.trans (q3.trans (q4.trans c_put0)))
  refine ⟨_, q5, zs_hit ⟨rfl, by omega⟩, fun k hk => ?_, fun k hk => ?_, fun k hk => ?_, fun c h0 h1 => ?_⟩
  · have : k = 0 ∨ k = 1 ∨ k = 2 ∨ k = 3 := by omega
    rcases this with rfl | rfl | rfl | rfl <;> simp (disch := omega) only [zs_hit, zs_miss]
  · simp (disch := omega) only [zs_miss]
  · simp (disch := omega) only [zs_miss]
  · simp (disch := omega) only [zs_cell]
/-- j of the five are in the TAPE -/
def zFdI (g0 : zM) (v : Nat → Int32) (t j : Nat) (g : zM) : Prop := g 0 1 = nI (t + 4 * j) ∧ (∀ k, k < 4 * j → g 1 (t + k) = nI (zfd v k)) ∧ (∀ k, k < t → g 1 k = g0 1 k) ∧ (∀ k, k ≠ 1 → g 0 k = g0 0 k) ∧ ∀ c, c ≠ 0 → c ≠ 1 → g c = g0 c
theorem c_putI {g0 g : zM} {v : Nat → Int32} {t j : Nat} (e : zFdI g0 v t j g) (h : t + 20 ≤ 400) (hj : j < 5) : ∃ g1, fX11_putBytes (v j) g = some g1 ∧ zFdI g0 v t (j + 1) g1 := by
  obtain ⟨e1, e2, e3, e4, e5⟩ := e
  obtain ⟨g1, a1, a2, a3, a4, a5, a6⟩ := c_put (v := v j) e1 (by omega) 99995
  refine ⟨g1, a1, ?_, fun k hk => ?_, fun k hk => by rw [a4 k (by omega)]; exact e3 k hk, fun k hk => by rw [a5 k hk]; exact e4 k hk, fun c h0 h1 => by rw [a6 c h0 h1]; exact e5 c h0 h1⟩
  · rw [a2]; congr 1
  · by_cases q : k < 4 * j
    · rw [a4 _ (by omega)]; exact e2 k q
    · obtain ⟨d, rfl⟩ : ∃ d, k = 4 * j + d := ⟨k - 4 * j, by omega⟩
      have := a3 d (by omega)
      rw [zfd_b (by omega), ← this]
      congr 1
      omega
/-- the state with 20 more in the TAPE -/
def zSfd (S : zS) (v : Nat → Int32) : zS := (S.1 + 20, (fun i => if i < S.1 then S.2.1 i else zfd v (i - S.1)), S.2.2)
theorem m_feed {S : zS} (hS : zSW S) (v1 v2 v3 v4 v5 : Int32) : zDoN S (fX11_feed v1 v2 v3 v4 v5) (fX12_feed v1 v2 v3 v4 v5) := by
  have ht := hS.1
  generalize htt : S.1 = t at *
  by_cases hf : t + 20 ≤ 400
  case neg =>
    refine ⟨-1, S, hS, fun g e => ⟨g, ?_, e, fun _ _ => rfl⟩, fun g e => ⟨zset g 493 0 0, ?_, e.thr hS 0, fun c h => zs_cell (by omega), zs_cell (by omega)⟩⟩
    · unfold fX11_feed
      rw [e.1, htt, nL_add, if_neg (by rw [nL_le (by show t + 20 < _; omega) (by decide)]; exact hf)]
    · unfold fX12_feed
      rw [zput_e, zs_miss (by omega), e.1, htt, nL_add, if_neg (by rw [nL_le (by show t + 20 < _; omega) (by decide)]; exact hf)]
  obtain ⟨v, hv⟩ : ∃ v, v = zfv v1 v2 v3 v4 v5 := ⟨_, rfl⟩
  have hv0 : v 0 = v1 := by rw [hv]; rfl
  have hv1 : v 1 = v2 := by rw [hv]; rfl
  have hv2 : v 2 = v3 := by rw [hv]; rfl
  have hv3 : v 3 = v4 := by rw [hv]; rfl
  have hv4 : v 4 = v5 := by rw [hv]; rfl
  clear hv
  have hW : zSW (zSfd S v) := by
    refine ⟨by show S.1 + 20 ≤ 400; omega, fun i hi => ?_, hS.2.2⟩
    show (if i < S.1 then S.2.1 i else zfd v (i - S.1)) < 256
    by_cases q : i < S.1
    · rw [if_pos q]; exact hS.2.1 i q
    · rw [if_neg q]; exact zby_lt
  refine ⟨nI (t + 20), zSfd S v, hW, fun g e => ?_, fun g e => ?_⟩
  · have i0 : zFdI g v t 0 g := ⟨by rw [e.1, htt]; rfl, fun k hk => absurd hk (by omega), fun _ _ => rfl, fun _ _ => rfl, fun _ _ _ => rfl⟩
    obtain ⟨g1, a1, i1⟩ := c_putI i0 hf (by omega)
    obtain ⟨g2, a2, i2⟩ := c_putI i1 hf (by omega)
    obtain ⟨g3, a3, i3⟩ := c_putI i2 hf (by omega)
    obtain ⟨g4, a4, i4⟩ := c_putI i3 hf (by omega)
    obtain ⟨g5, a5, i5⟩ := c_putI i4 hf (by omega)
    simp only [Nat.zero_add, Nat.reduceAdd] at a1 a2 a3 a4 a5 i5
    rw [hv0] at a1
    rw [hv1] at a2
    rw [hv2] at a3
    rw [hv3] at a4
    rw [hv4] at a5
    obtain ⟨c1, c2, c3, c4, c5⟩ := i5
    have c1 : g5 0 1 = nI (t + 20) := c1
    obtain ⟨e1, e2, e3, e4, e5, e6, ⟨p, hp, e7, e8⟩, e9, e10, e11⟩ := e
    refine ⟨g5, ?_, ⟨by rw [c1, ← htt]; rfl, fun i hi => ?_, by rw [c4 2 (by omega)]; exact e3, e4.fr hS.2.2.1 (fun c h1 h2 _ _ => c5 c (by omega) (by omega)), by rw [c4 5 (by omega)]; exact e5, fun q => (e6 q).fr (hS.2.2.2.1 q) (fun c h1 h2 _ _ => c5 c (by omega) (by omega)), ⟨p, hp, by rw [c5 76 (by omega) (by omega)]; exact e7, fun j hj => (e8 j hj).fr (hS.2.2.2.2.2 j hj).1 (fun c h1 h2 => c5 c (by omega) (by omega))⟩, by rw [c5 76 (by omega) (by omega)]; exact e9, by rw [c5 481 (by omega) (by omega)]; exact e10, by rw [c5 482 (by omega) (by omega)]; exact e11⟩, fun c h => c5 c (by omega) (by omega)⟩
    · unfold fX11_feed
      rw [e1, htt, nL_add, if_pos (by rw [nL_le (by show t + 20 < _; omega) (by decide)]; exact hf), a1, zb_s, a2, zb_s, a3, zb_s, a4, zb_s, a5, zb_s, c1]
    · have hi : i < S.1 + 20 := hi
      rw [htt] at hi
      show _ = nI (if i < S.1 then S.2.1 i else zfd v (i - S.1))
      rw [htt]
      by_cases q : i < t
      · rw [if_pos q, c3 i q]; exact e2 i (by rw [htt]; exact q)
      · obtain ⟨d, rfl⟩ : ∃ d, i = t + d := ⟨i - t, by omega⟩
        rw [if_neg q, show t + d - t = d from by omega]
        exact c2 d (by omega)
  · have h9 : g 493 9 = nI t := by rw [e.1, htt]
    obtain ⟨G, hG⟩ : ∃ G, G = zset (zset (zset (zset (zset (zset g 493 0 0) 500 0 v1) 500 1 v2) 500 2 v3) 500 3 v4) 500 4 v5 := ⟨_, rfl⟩
    have G9 : G 493 9 = nI t := by rw [hG]; simp (disch := omega) only [zs_miss]; exact h9
    have G5 : ∀ j, j < 5 → G 500 j = v j := by
      intro j hj
      have : j = 0 ∨ j = 1 ∨ j = 2 ∨ j = 3 ∨ j = 4 := by omega
      rw [hG]
      rcases this with rfl | rfl | rfl | rfl | rfl <;> simp (disch := omega) only [zs_hit, zs_miss, hv0, hv1, hv2, hv3, hv4]
    have Gc : ∀ c, c ≠ 493 → c ≠ 500 → G c = g c := fun c h0 h1 => by rw [hG]; simp (disch := omega) only [zs_cell]
    have G3 : ∀ k, k ≠ 0 → G 493 k = g 493 k := fun k hk => by rw [hG]; simp (disch := omega) only [zs_miss]
    have loop : ∃ g1, fX12_feed_L60 (fun g17 => zput g17 493 9 ((g17 493 9) + 20) (fun g18 => some (g18 493 9, g18))) zFU 0 G = some (nI (t + 20), zset g1 493 9 (nI (t + 20))) ∧ (∀ c, c ≠ 499 → g1 c = G c) ∧ ∀ k, g1 499 k = if t ≤ k ∧ k < t + 20 then zsb (zfd v (k - t)) else G 499 k := by
      refine zL_I (fun n i (s : zM) => fX12_feed_L60 _ n (nI i) s) (fun i s => (∀ c, c ≠ 499 → s c = G c) ∧ ∀ k, s 499 k = if t ≤ k ∧ k < t + i then zsb (zfd v (k - t)) else G 499 k) 20 (fun x => ∃ g1, x = some (nI (t + 20), zset g1 493 9 (nI (t + 20))) ∧ (∀ c, c ≠ 499 → g1 c = G c) ∧ ∀ k, g1 499 k = if t ≤ k ∧ k < t + 20 then zsb (zfd v (k - t)) else G 499 k) G (by omega) ⟨fun _ _ => rfl, fun k => by rw [if_neg (by omega)]⟩ (fun n i s hi hh => ?_) (fun n s hh => ?_)
      · obtain ⟨b1, b2⟩ := hh
        have c9 : s 493 9 = nI t := by rw [b1 493 (by omega)]; exact G9
        have c5 : s 500 (i / 4) = v (i / 4) := by rw [b1 500 (by omega)]; exact G5 _ (by omega)
        refine ⟨zset s 499 (t + i) (zsb (zfd v i)), ⟨fun c hc => by rw [zs_cell hc]; exact b1 c hc, fun k => ?_⟩, ?_⟩
        · by_cases q : k = t + i
          · subst q
            rw [zs_hit ⟨rfl, rfl⟩, if_pos (by omega), show t + i - t = i from by omega]
          · rw [zs_miss (by omega), b2]
            by_cases q2 : t ≤ k ∧ k < t + i
            · rw [if_pos q2, if_pos (by omega)]
            · rw [if_neg q2, if_neg (by omega)]
        · have hsh : (24 : Int32) - 8 * (nI i - nI i / 4 * 4) = nI (24 - 8 * (i - i / 4 * 4)) := by
            rw [nL_div (by omega) (by decide) (by decide), nL_rmul, pk_sub (by show i / 4 * 4 ≤ i; omega), nL_mul, nL_bus (by show 8 * (i - i / 4 * 4) ≤ 24; omega)]
          have hdv : nI i / 4 = nI (i / 4) := nL_div (by omega) (by decide) (by decide)
          have hb : vp_nar .byte ((v (i / 4) >>> (nI (24 - 8 * (i - i / 4 * 4)) &&& 31)).toInt8.toInt32) = zsb (zfd v i) := zby_r _ (by omega)
          simp only [fX12_feed_L60, hsh, c9]
          rw [if_neg (by rw [nL_ge (by omega) (by decide)]; omega), hdv, zchk_n (by omega) (by omega), nI_add, zchk_n (by omega) (by omega), nI_cl (by omega), nI_cl (by omega), c5, hb, zput_e, nI_1]
      · obtain ⟨b1, b2⟩ := hh
        have c9 : s 493 9 = nI t := by rw [b1 493 (by omega)]; exact G9
        refine ⟨s, ?_, b1, b2⟩
        simp only [fX12_feed_L60, c9]
        simp (disch := omega) only [nL_lt, nL_gt, nL_le, nL_ge, nL_eq, nL_qe, nI_ltI, nI_leI, nI_eq, nL_add, nL_dda, nI_add, nL_sub, pk_sub, nL_mul, nL_clamp, nI_cl, zchk_n, zchk_l, zb_s, zb2_s, zb3_s, zb3_e, zput_e, zjoin_e, zs_hit, zs_miss, nle_t, nle_f, nlt_t, nlt_f, neq_t, neq_f, ↓reduceIte, and_self, and_true, true_and, and_false, false_and, not_true_eq_false, not_false_eq_true, Nat.add_zero, c9]
    obtain ⟨g1, a1, a2, a3⟩ := loop
    have fr : ∀ c, c ≠ 493 → c ≠ 499 → c ≠ 500 → (zset g1 493 9 (nI (t + 20))) c = g c := fun c h0 h1 h2 => by rw [zs_cell h0, a2 c h1]; exact Gc c h0 h2
    have f493 : ∀ k, k ≠ 0 → k ≠ 9 → (zset g1 493 9 (nI (t + 20))) 493 k = g 493 k := fun k h1 h2 => by rw [zs_miss (by omega), a2 493 (by omega)]; exact G3 k h1
    obtain ⟨e1, e2, e3, e4, e5, e6, e7, e8⟩ := e
    refine ⟨zset g1 493 9 (nI (t + 20)), ?_, ⟨?_, fun i hi => ?_, by rw [f493 14 (by omega) (by omega)]; exact e3, e4.fr hS.2.2.1 (fun k _ => by rw [fr 494 (by omega) (by omega) (by omega)]), by rw [f493 6 (by omega) (by omega)]; exact e5, fun q => (e6 q).fr (hS.2.2.2.1 q) (fun k _ => by rw [fr 495 (by omega) (by omega) (by omega)]), by rw [f493 7 (by omega) (by omega)]; exact e7, fun j hj => ⟨(e8 j hj).1.fr (hS.2.2.2.2.2 j hj) (fun k _ _ => by rw [fr 498 (by omega) (by omega) (by omega)]), fun c h1 h2 h3 h4 h5 => by rw [fr 498 (by omega) (by omega) (by omega), fr 494 (by omega) (by omega) (by omega)]; exact (e8 j hj).2 c h1 h2 h3 h4 h5⟩⟩, fun c h => fr c (by omega) (by omega) (by omega), fr 508 (by omega) (by omega) (by omega)⟩
    · unfold fX12_feed
      rw [zput_e, zs_miss (by omega), h9, nL_add, if_pos (by rw [nL_le (by show t + 20 < _; omega) (by decide)]; exact hf)]
      simp (disch := omega) only [zchk_l, zput_e, nL_clamp]
      rw [← hG]
      exact a1
    · rw [zs_hit ⟨rfl, rfl⟩]
      show _ = nI (S.1 + 20)
      rw [htt]
    · have hi : i < S.1 + 20 := hi
      rw [htt] at hi
      show _ = zsb (if i < S.1 then S.2.1 i else zfd v (i - S.1))
      rw [htt, zs_cell (by omega), a3]
      by_cases q : i < t
      · rw [if_pos q, if_neg (by omega), Gc 499 (by omega) (by omega)]; exact e2 i (by rw [htt]; exact q)
      · rw [if_neg q, if_pos (by omega)]
