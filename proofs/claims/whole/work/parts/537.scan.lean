/-! THE SCAN, and the class's steps through it -/
abbrev zck (b : Nat → Nat) (n k : Nat) : Nat := zcd b n (zT b n k)
def ySc (g : zM) (h n : Nat) (b : Nat → Nat) (N : Nat) : Prop := zTC g h n b ∧ (g h 5 = nI N ∧ g h 7 = -1) ∧ ∀ j, j ≤ N → g (h + 2) j = nI (zck b n j) ∧ g (h + 3) j = nI (zT b n j) ∧ g (h + 4) j = nI (zlg b n (zT b n j))
theorem c_number_L {g : zM} {h n : Nat} {b : Nat → Nat} (hT : zTW n b) (e : zTC g h n b) {v1 v2 : Int32} {q : Nat} (hq : v1 + v2 = nI q) (hn : q ≤ n) : ∀ d p m a, p + d = q → d < m → (∀ j, p ≤ j → j < p + d → 48 ≤ b j ∧ b j ≤ 57) → fX9_numberCode_L14 h v1 v2 g m (nI a) (nI p) = some (nI (znv b d p a)) := by
  have h4 := hT.1
  intro d
  induction d with
  | zero =>
    intro p m a hp hm _
    obtain ⟨m, rfl⟩ : ∃ k, m = k + 1 := ⟨m - 1, by omega⟩
    rw [fX9_numberCode_L14, hq, if_pos (by rw [nI_leI (by omega) (by omega)]; omega)]
    rfl
  | succ d ih =>
    intro p m a hp hm hd
    obtain ⟨m, rfl⟩ : ∃ k, m = k + 1 := ⟨m - 1, by omega⟩
    have h5 := hd p (Nat.le_refl _) (by omega)
    rw [fX9_numberCode_L14, hq, if_neg (by rw [nI_leI (by omega) (by omega)]; omega), e.1, if_neg (by rw [nI_leI (by omega) (by omega)]; omega), zchk_n (by omega) (by omega), nI_cl (by omega), e.2 p (by omega), nL_mul, nI_add, nL_sub (by omega), nI_1]
    exact ih (p + 1) m _ (by omega) (by omega) (fun j h6 h7 => hd j (by omega) (by omega))
theorem c_codeOf {g : zM} {h n : Nat} {b : Nat → Nat} (hT : zTW n b) (e : zTC g h n b) {p : Nat} (hp : p < n) : fX9_codeOf h (nI p) (nI (zte b n p - p)) g = some (nI (zcd b n p)) := by
  have h4 := hT.1
  have h5 := zte_le (b := b) hp
  have h3 := zso_3 (x := b p)
  unfold fX9_codeOf zcd
  rw [zchk_n (by omega) (by omega), nI_cl (by omega), e.2 p hp, c_sort (hT.2 p hp), zb_s, if_neg (show ¬ n ≤ p by omega)]
  by_cases q0 : zso (b p) = 0
  · rw [if_pos (by rw [q0]; rfl), if_pos q0, zchk_n (by omega) (by omega), nL_dda]
  · rw [if_neg (nI_ne0 (by omega) (by omega)), if_neg q0]
    by_cases q1 : zso (b p) = 1
    · rw [if_pos (by rw [q1]; rfl), if_pos q1, c_wordCode hT e (by omega), zb_s]
    · rw [if_neg (by rw [nL_eq (by omega) (by decide)]; exact q1), if_neg q1]
      unfold fX9_numberCode
      by_cases q3 : zte b n p - p ≤ 3
      · rw [if_pos (by rw [nL_le (by omega) (by decide)]; exact q3), if_pos q3]
        have := c_number_L hT e (v1 := nI p) (v2 := nI (zte b n p - p)) (q := p + (zte b n p - p)) (nI_add _ _) (by omega) (zte b n p - p) p zFU 0 rfl (by unfold zFU; omega) (zdig hp (by omega))
        rw [show fX9_numberCode_L14 h (nI p) (nI (zte b n p - p)) g zFU 0 (nI p) = _ from this, zb_s]
      · rw [if_neg (by rw [nL_le (by omega) (by decide)]; exact q3), if_neg q3]
        rfl
theorem c_addToken {g : zM} {h n : Nat} {b : Nat → Nat} (hT : zTW n b) (e : zTC g h n b) {p k : Nat} (hp : p < n) (hk : g h 5 = nI k) (hk4 : k < 400) : fX9_addToken h (nI p) (nI (zte b n p - p)) g = some (zset (zset (zset (zset g (h + 2) k (nI (zcd b n p))) (h + 3) k (nI p)) (h + 4) k (nI (zte b n p - p))) h 5 (nI (k + 1))) := by
  unfold fX9_addToken
  rw [hk, if_neg (by rw [nL_ge (by omega) (by decide)]; omega), c_codeOf hT e hp, zb_s, zchk_n (by omega) (by omega), nI_cl (by omega), zput_e, zs_miss (by omega), hk, zchk_n (by omega) (by omega), nI_cl (by omega), zput_e, zs_miss (by omega), zs_miss (by omega), hk, zchk_n (by omega) (by omega), nI_cl (by omega), zput_e, zput_e, zs_miss (by omega), zs_miss (by omega), zs_miss (by omega), hk, nI_1]
def zScI (g : zM) (h n : Nat) (b : Nat → Nat) (k : Nat) : Prop := zTC g h n b ∧ g h 5 = nI k ∧ ∀ j, j < k → g (h + 2) j = nI (zcd b n (zT b n j)) ∧ g (h + 3) j = nI (zT b n j) ∧ g (h + 4) j = nI (zlg b n (zT b n j))
theorem c_scan_L {h n N : Nat} {b : Nat → Nat} (x : zTx n b N) {K : zM → Option zM} : ∀ d v c k m (g : zM), n - v ≤ d → v ≤ n → c ≤ v → d < m → k ≤ N → k ≤ v → znb b (n - v) v = zT b n k → zScI g h n b k → ∃ g1, fX9_scan_L45 h K m (nI v) (nI c) g = K g1 ∧ zScI g1 h n b N ∧ (∀ c, c ≠ h → c ≠ h + 2 → c ≠ h + 3 → c ≠ h + 4 → g1 c = g c) ∧ ∀ j, j ≠ 5 → g1 h j = g h j := by
  have hT := x.w
  have h4 := x.b400
  intro d
  induction d with
  | zero =>
    intro v c k m g hd hv hc hm hk hkv hz e
    obtain ⟨m, rfl⟩ : ∃ j, m = j + 1 := ⟨m - 1, by omega⟩
    obtain rfl : v = n := by omega
    have hkN : k = N := by
      rw [Nat.sub_self] at hz
      by_cases q : k < N
      · have h5 := x.lt k q
        rw [← hz] at h5
        exact absurd h5 (Nat.lt_irrefl _)
      · omega
    subst hkN
    refine ⟨g, ?_, e, fun _ _ _ _ _ => rfl, fun _ _ => rfl⟩
    rw [fX9_scan_L45, e.1.1]
    by_cases q : 400 < c
    · omega
    · rw [if_neg (by rw [nL_gt (by omega) (by decide)]; exact q), if_pos (Int32.le_refl _)]
  | succ d ih =>
    intro v c k m g hd hv hc hm hk hkv hz e
    by_cases q : v = n
    · exact ih v c k m g (by omega) hv hc (by omega) hk hkv hz e
    · obtain ⟨m, rfl⟩ : ∃ j, m = j + 1 := ⟨m - 1, by omega⟩
      have hlt : v < n := by omega
      have hte := zte_le (b := b) hlt
      rw [fX9_scan_L45, e.1.1, if_neg (by rw [nL_gt (by omega) (by decide)]; omega), if_neg (by rw [nI_leI (by omega) (by omega)]; omega), c_endOf hT e.1 hlt, zb_s, zchk_n (by omega) (by omega), nI_cl (by omega), e.1.2 v hlt]
      have hu : znb b (n - v) v = if b v = 32 then znb b (n - (v + 1)) (v + 1) else v := by
        rw [show n - v = n - (v + 1) + 1 from by omega]
        rfl
      by_cases q2 : b v = 32
      · have ht : zte b n v = v + 1 := by
          unfold zte
          rw [if_pos (by rw [q2]; decide)]
        rw [if_pos (by rw [q2]; rfl), ht, nI_1]
        rw [hu, if_pos q2] at hz
        exact ih (v + 1) (c + 1) k m g (by omega) (by omega) (by omega) (by omega) hk (by omega) hz e
      · rw [hu, if_neg q2] at hz
        have hkN : k < N := by
          by_cases q3 : k = N
          · rw [q3, x.e] at hz; omega
          · omega
        rw [if_neg (by rw [nL_eq (by have := hT.2 v hlt; omega) (by decide)]; exact q2), show nI (zte b n v) - nI v = nI (zte b n v - v) from pk_sub (by omega), c_addToken hT e.1 hlt e.2.1 (by omega), zb_s, nI_1]
        have hz' : znb b (n - zte b n v) (zte b n v) = zT b n (k + 1) := by
          show _ = znb b (n - zte b n (zT b n k)) (zte b n (zT b n k))
          rw [← hz]
        have hI : zScI (zset (zset (zset (zset g (h + 2) k (nI (zcd b n v))) (h + 3) k (nI v)) (h + 4) k (nI (zte b n v - v))) h 5 (nI (k + 1))) h n b (k + 1) := by
          refine ⟨⟨by rw [zs_miss (by omega), zs_miss (by omega), zs_miss (by omega), zs_miss (by omega)]; exact e.1.1, fun i hi => by rw [zs_miss (by omega), zs_miss (by omega), zs_miss (by omega), zs_miss (by omega)]; exact e.1.2 i hi⟩, zs_hit ⟨rfl, rfl⟩, fun j hj => ?_⟩
          by_cases q3 : j = k
          · subst q3
            rw [← hz]
            have hl : zlg b n v = zte b n v - v := if_neg (by omega)
            rw [hl]
            refine ⟨?_, ?_, ?_⟩ <;> simp (disch := omega) only [zs_hit, zs_miss]
          · have := e.2.2 j (by omega)
            refine ⟨?_, ?_, ?_⟩ <;> simp (disch := omega) only [zs_miss]
            · exact this.1
            · exact this.2.1
            · exact this.2.2
        obtain ⟨g1, a1, a2, a3, a4⟩ := ih (zte b n v) (c + 1) (k + 1) m (zset (zset (zset (zset g (h + 2) k (nI (zcd b n v))) (h + 3) k (nI v)) (h + 4) k (nI (zte b n v - v))) h 5 (nI (k + 1))) (by omega) hte.2 (by omega) (by omega) hkN (by omega) hz' hI
        refine ⟨g1, a1, a2, fun c h1 h2 h3 h5 => by rw [a3 c h1 h2 h3 h5, zs_cell h1, zs_cell h5, zs_cell h3, zs_cell h2], fun j hj => by rw [a4 j hj, zs_miss (by omega), zs_miss (by omega), zs_miss (by omega), zs_miss (by omega)]⟩
theorem c_scan {h n N : Nat} {b : Nat → Nat} (x : zTx n b N) {g : zM} (hh : 2 ≤ h) (et : ∀ i, i < n → g 1 i = nI (b i)) : ∃ g1, fX9_scan h (nI n) g = some g1 ∧ ySc g1 h n b N ∧ g1 h 6 = nI 0 ∧ ∀ c, (c < h ∨ h + 5 ≤ c) → g1 c = g c := by
  have h4 := x.b400
  have hN := x.le
  have hc : (if 400 < nI n then 400 else nI n) = nI n := if_neg (by rw [nL_gt (by omega) (by decide)]; omega)
  unfold fX9_scan
  rw [hc, zput_e, zs_hit ⟨rfl, rfl⟩]
  unfold zacp
  rw [if_pos ⟨by decide, by decide, nI_pos (by omega), by rw [nI_cl (by omega)]; show 0 + n ≤ 400; omega, by rw [nI_cl (by omega)]; show 0 + n ≤ 400; omega⟩, nI_cl (by omega)]
  have z0 : Int32.toNatClampNeg 0 = 0 := by decide
  have zz : nI 0 = 0 := rfl
  simp only [zput_e, z0]
  obtain ⟨g1, a1, a2, a3, a4⟩ := c_scan_L x (h := h) (K := fun g13 => zchk (g13 h 5) 401 (zput g13 (h + 2) (g13 h 5).toNatClampNeg 1021 (fun g15 => zchk (g15 h 5) 401 (zput g15 (h + 3) (g15 h 5).toNatClampNeg (g15 h 4) (fun g17 => zchk (g17 h 5) 401 (zput g17 (h + 4) (g17 h 5).toNatClampNeg 0 (fun g19 => some g19))))))) n 0 0 0 zFU (zset (zset (zset (zcopy (zset g h 4 (nI n)) 1 0 (h + 1) 0 n) h 5 (nI 0)) h 6 (nI 0)) h 7 (-1)) (by omega) (by omega) (by omega) (by unfold zFU; omega) (by omega) (by omega) rfl ⟨⟨by simp (disch := omega) only [zs_hit, zs_miss, zc_miss], fun i hi => by simp (disch := omega) only [zs_miss, zc_hit]; rw [show 0 + (i - 0) = i from by omega]; exact et i hi⟩, by simp (disch := omega) only [zs_hit, zs_miss], fun j hj => absurd hj (Nat.not_lt_zero _)⟩
  simp only [zput_e, zz] at a1
  have b6 := a4 6 (by omega)
  have b7 := a4 7 (by omega)
  simp (disch := omega) only [zs_hit, zs_miss] at b6 b7
  obtain ⟨c1, c2, c3⟩ := a2
  refine ⟨zset (zset (zset g1 (h + 2) N 1021) (h + 3) N (nI n)) (h + 4) N 0, ?_, ⟨⟨by simp (disch := omega) only [zs_miss]; exact c1.1, fun i hi => by simp (disch := omega) only [zs_miss]; exact c1.2 i hi⟩, ⟨by simp (disch := omega) only [zs_miss]; exact c2, by simp (disch := omega) only [zs_miss]; exact b7⟩, fun j hj => ?_⟩, by simp (disch := omega) only [zs_miss]; exact b6, fun c hc => ?_⟩
  · rw [a1]
    simp (disch := omega) only [c2, zs_miss, nI_cl, zchk_n, c1.1]
  · by_cases q : j = N
    · subst q
      show _ = nI (zcd b n (zT b n j)) ∧ _
      rw [x.e]
      have q1 : zcd b n n = 1021 := if_pos (Nat.le_refl _)
      have q2 : zlg b n n = 0 := if_pos (Nat.le_refl _)
      rw [q1, q2]
      refine ⟨?_, ?_, ?_⟩ <;> simp (disch := omega) only [zs_hit, zs_miss] <;> rfl
    · have := c3 j (by omega)
      refine ⟨?_, ?_, ?_⟩ <;> simp (disch := omega) only [zs_miss]
      · exact this.1
      · exact this.2.1
      · exact this.2.2
  · simp (disch := omega) only [zs_cell]
    rw [a3 c (by omega) (by omega) (by omega) (by omega)]
    simp (disch := omega) only [zs_cell, zc_cell]
