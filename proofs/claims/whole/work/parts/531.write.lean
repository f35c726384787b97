/-! WRITTEN -/
def zWr (f : Nat → Nat) (w t s : Int32) (i : Nat) : zL := (i, f, fun _ => w, t, s, false, false)
theorem zWr_add {f : Nat → Nat} {w t s : Int32} {i : Nat} : zLadd (zWr f w t s i) (f i) w = zWr f w t s (i + 1) := by
  have h1 : zup f i (f i) = f := by
    funext j
    by_cases q : j = i
    · rw [zup_hit q, q]
    · rw [zup_miss q]
  have h2 : zup (fun _ : Nat => w) i w = fun _ => w := by
    funext j
    by_cases q : j = i
    · rw [zup_hit q]
    · rw [zup_miss q]
  show (i + 1, zup f i (f i), zup (fun _ => w) i w, t, s, false, false) = (i + 1, f, (fun _ => w), t, s, false, false)
  rw [h1, h2]
theorem r_come1 {g : zM} {n i : Nat} {f : Nat → Nat} {w t s : Int32} (e : zRM g 494 (36 + 53 * n) (zWr f w t s i)) (hi : i < 24) (hn : n < 8) (hw : g 494 4 = w) : ∃ g1, fX12_comes (nI n) (nI (f i)) g = some g1 ∧ zRM g1 494 (36 + 53 * n) (zWr f w t s (i + 1)) ∧ (∀ c, c ≠ 494 → g1 c = g c) ∧ ∀ x, (x < 36 + 53 * n ∨ 36 + 53 * n + 53 ≤ x) → g1 494 x = g 494 x := by
  obtain ⟨l1, l2, l3, l4, l5, l6, l7⟩ := e
  have l1 : g 494 (36 + 53 * n) = nI i := l1
  have l2 : ∀ j, j < i → g 494 (36 + 53 * n + 5 + j) = nI (f j) := l2
  have l3 : ∀ j, j < i → g 494 (36 + 53 * n + 29 + j) = w := l3
  have l4 : g 494 (36 + 53 * n + 1) = t := l4
  have l5 : g 494 (36 + 53 * n + 2) = s := l5
  have l6 : g 494 (36 + 53 * n + 3) = zbi false := l6
  have l7 : g 494 (36 + 53 * n + 4) = zbi false := l7
  have hln : fX12_lines (nI n) g = some (nI i) := by
    unfold fX12_lines fX12_of fX12_at
    simp (disch := omega) only [nL_lt, nL_gt, nL_le, nL_ge, nL_eq, nL_qe, nI_ltI, nI_leI, nI_eq, nL_add, nL_dda, nI_add, nL_sub, pk_sub, nL_mul, nL_clamp, nI_cl, zchk_n, zchk_l, zb_s, zb2_s, zb3_s, zb3_e, zput_e, zjoin_e, zs_hit, zs_miss, nle_t, nle_f, nlt_t, nlt_f, neq_t, neq_f, ↓reduceIte, and_self, and_true, true_and, and_false, false_and, not_true_eq_false, not_false_eq_true, Nat.add_zero, l1]
  unfold fX12_comes
  rw [hln, zb_s]
  unfold fX12_at
  simp (disch := omega) only [nL_lt, nL_gt, nL_le, nL_ge, nL_eq, nL_qe, nI_ltI, nI_leI, nI_eq, nL_add, nL_dda, nI_add, nL_sub, pk_sub, nL_mul, nL_clamp, nI_cl, zchk_n, zchk_l, zb_s, zb2_s, zb3_s, zb3_e, zput_e, zjoin_e, zs_hit, zs_miss, nle_t, nle_f, nlt_t, nlt_f, neq_t, neq_f, ↓reduceIte, and_self, and_true, true_and, and_false, false_and, not_true_eq_false, not_false_eq_true, Nat.add_zero, hw]
  rw [l1]
  refine ⟨_, rfl, ⟨?_, fun j hj => ?_, fun j hj => ?_, ?_, ?_, ?_, ?_⟩, fun c hc => by rw [zs_cell hc, zs_cell hc, zs_cell hc], fun x hx => by rw [zs_miss (by omega), zs_miss (by omega), zs_miss (by omega)]⟩
  · rw [zs_hit ⟨rfl, rfl⟩, nI_1]; rfl
  · have hj : j < i + 1 := hj
    show _ = nI (f j)
    rw [zs_miss (by omega), zs_miss (by omega)]
    by_cases q : j = i
    · subst q; rw [zs_hit ⟨rfl, by omega⟩]
    · rw [zs_miss (by omega)]; exact l2 j (by omega)
  · have hj : j < i + 1 := hj
    show _ = w
    rw [zs_miss (by omega)]
    by_cases q : j = i
    · subst q; rw [zs_hit ⟨rfl, by omega⟩]
    · rw [zs_miss (by omega), zs_miss (by omega)]; exact l3 j (by omega)
  · rw [zs_miss (by omega), zs_miss (by omega), zs_miss (by omega)]; exact l4
  · rw [zs_miss (by omega), zs_miss (by omega), zs_miss (by omega)]; exact l5
  · rw [zs_miss (by omega), zs_miss (by omega), zs_miss (by omega)]; exact l6
  · rw [zs_miss (by omega), zs_miss (by omega), zs_miss (by omega)]; exact l7
theorem r_begins {S : zS} {g : zM} (e : zRI S g) {f : Nat → Nat} {w t s : Int32} {n : Nat} (hn : (zSB S).1 = n) (h8 : n < 8) : ∃ g1, fX12_begins s t g = some (nI n, g1) ∧ zRM g1 494 (36 + 53 * n) (zWr f w t s 0) ∧ g1 494 0 = nI (n + 1) ∧ (∀ c, c ≠ 494 → g1 c = g c) ∧ ∀ x, x ≠ 0 → (x < 36 + 53 * n ∨ 36 + 53 * n + 53 ≤ x) → g1 494 x = g 494 x := by
  have z0 : g 494 0 = nI n := by rw [e.size, hn]
  have le : fX12_letters g = some (nI n) := by rw [r_letters e, hn]
  unfold fX12_begins
  rw [le, zb_s]
  refine zL_I (fun m i (u : zM) => fX12_begins_L8 s t (nI n) _ m (nI i) u) (fun i u => (∀ c, c ≠ 494 → u c = g c) ∧ (∀ x, (x < 36 + 53 * n ∨ 36 + 53 * n + 53 ≤ x) → u 494 x = g 494 x) ∧ ∀ j, j < i → u 494 (36 + 53 * n + j) = 0) 53 (fun x => ∃ g1, x = some (nI n, g1) ∧ zRM g1 494 (36 + 53 * n) (zWr f w t s 0) ∧ g1 494 0 = nI (n + 1) ∧ (∀ c, c ≠ 494 → g1 c = g c) ∧ ∀ x, x ≠ 0 → (x < 36 + 53 * n ∨ 36 + 53 * n + 53 ≤ x) → g1 494 x = g 494 x) g (by omega) ⟨fun _ _ => rfl, fun _ _ => rfl, fun j hj => absurd hj (by omega)⟩ (fun m i u hi hh => ?_) (fun m u hh => ?_)
  · obtain ⟨b1, b2, b3⟩ := hh
    refine ⟨zset u 494 (36 + 53 * n + i) 0, ⟨fun c hc => by rw [zs_cell hc]; exact b1 c hc, fun x hx => by rw [zs_miss (by omega)]; exact b2 x hx, fun j hj => ?_⟩, ?_⟩
    · by_cases q : j = i
      · subst q; exact zs_hit ⟨rfl, rfl⟩
      · rw [zs_miss (by omega)]; exact b3 j (by omega)
    · simp only [fX12_begins_L8, fX12_at]
      simp (disch := omega) only [nL_lt, nL_gt, nL_le, nL_ge, nL_eq, nL_qe, nI_ltI, nI_leI, nI_eq, nL_add, nL_dda, nI_add, nL_sub, pk_sub, nL_mul, nL_clamp, nI_cl, zchk_n, zchk_l, zb_s, zb2_s, zb3_s, zb3_e, zput_e, zjoin_e, zs_hit, zs_miss, nle_t, nle_f, nlt_t, nlt_f, neq_t, neq_f, ↓reduceIte, and_self, and_true, true_and, and_false, false_and, not_true_eq_false, not_false_eq_true, Nat.add_zero]
  · obtain ⟨b1, b2, b3⟩ := hh
    have c0 : u 494 0 = nI n := by rw [b2 0 (by omega)]; exact z0
    have b30 := b3 0 (by omega)
    rw [Nat.add_zero] at b30
    refine ⟨zset (zset (zset u 494 (36 + 53 * n + 2) s) 494 (36 + 53 * n + 1) t) 494 0 (nI (n + 1)), ?_, ⟨?_, fun j hj => absurd hj (Nat.not_lt_zero _), fun j hj => absurd hj (Nat.not_lt_zero _), ?_, ?_, ?_, ?_⟩, zs_hit ⟨rfl, rfl⟩, fun c hc => by rw [zs_cell hc, zs_cell hc, zs_cell hc]; exact b1 c hc, fun x h0 hx => by rw [zs_miss (by omega), zs_miss (by omega), zs_miss (by omega)]; exact b2 x hx⟩
    · simp only [fX12_begins_L8, fX12_at]
      simp (disch := omega) only [nL_lt, nL_gt, nL_le, nL_ge, nL_eq, nL_qe, nI_ltI, nI_leI, nI_eq, nL_add, nL_dda, nI_add, nL_sub, pk_sub, nL_mul, nL_clamp, nI_cl, zchk_n, zchk_l, zb_s, zb2_s, zb3_s, zb3_e, zput_e, zjoin_e, zs_hit, zs_miss, nle_t, nle_f, nlt_t, nlt_f, neq_t, neq_f, ↓reduceIte, and_self, and_true, true_and, and_false, false_and, not_true_eq_false, not_false_eq_true, Nat.add_zero, c0]
    · rw [zs_miss (by omega), zs_miss (by omega), zs_miss (by omega), b30]; rfl
    · rw [zs_miss (by omega), zs_hit ⟨rfl, rfl⟩]; rfl
    · rw [zs_miss (by omega), zs_miss (by omega), zs_hit ⟨rfl, rfl⟩]; rfl
    · rw [zs_miss (by omega), zs_miss (by omega), zs_miss (by omega), b3 3 (by omega)]; rfl
    · rw [zs_miss (by omega), zs_miss (by omega), zs_miss (by omega), b3 4 (by omega)]; rfl
theorem zsb_lo : ∀ b, b < 128 → zsb b = nI b := by decide +kernel
theorem zsb_hi : ∀ b, b < 256 → 128 ≤ b → zsb b < 0 := by decide +kernel
theorem zsb_bad {b : Nat} (h : b < 256) (h2 : 12 ≤ b) : zbad 12 (zsb b) := by
  rcases Nat.lt_or_ge b 128 with q | q
  · rw [zsb_lo b q]
    exact Or.inr (by rw [nI_leI (by omega) (by omega)]; exact h2)
  · exact Or.inl (zsb_hi b h q)
def zAK (S : zS) : Prop := 1 ≤ S.1 ∧ S.1 ≤ 24 ∧ ∀ j, j < S.1 → S.2.1 j < 12
theorem c_areKinds {S : zS} (hS : zSW S) {g : zM} (e : ∀ i, i < S.1 → g 1 i = nI (S.2.1 i)) : (zAK S ∧ fX11_areKinds (nI S.1) g = some 1) ∨ (¬ zAK S ∧ fX11_areKinds (nI S.1) g = some 0) := by
  have h4 := hS.1
  unfold fX11_areKinds
  by_cases q1 : S.1 < 1
  · exact Or.inr ⟨fun h => by have := h.1; omega, by rw [if_pos (by rw [nL_lt (by omega) (by decide)]; exact q1)]⟩
  by_cases q2 : S.1 ≤ 24
  case neg => exact Or.inr ⟨fun h => q2 h.2.1, by rw [if_neg (by rw [nL_lt (by omega) (by decide)]; exact q1), if_neg (by rw [nL_le (by omega) (by decide)]; exact q2)]⟩
  rw [if_neg (by rw [nL_lt (by omega) (by decide)]; exact q1), if_pos (by rw [nL_le (by omega) (by decide)]; exact q2)]
  refine zL_Q0 (fun n i (_ : Unit) => fX11_areKinds_L15 (nI S.1) g n (nI i)) (fun i _ => ∀ j, j < i → S.2.1 j < 12) S.1 (fun x => (zAK S ∧ x = some 1) ∨ (¬ zAK S ∧ x = some 0)) () (by omega) (fun j hj => absurd hj (Nat.not_lt_zero _)) (fun n i _ hi hh => ?_) (fun n _ hh => ?_)
  · have hb := hS.2.1 i hi
    by_cases q : S.2.1 i < 12
    · refine Or.inr ⟨(), fun j hj => ?_, ?_⟩
      · by_cases q3 : j = i
        · subst q3; exact q
        · exact hh j (by omega)
      · simp only [fX11_areKinds_L15]
        simp (disch := omega) only [nL_lt, nL_gt, nL_le, nL_ge, nL_eq, nL_qe, nI_ltI, nI_leI, nI_eq, nL_add, nL_dda, nI_add, nL_sub, pk_sub, nL_mul, nL_clamp, nI_cl, zchk_n, zchk_l, zb_s, zb2_s, zb3_s, zb3_e, zput_e, zjoin_e, zs_hit, zs_miss, nle_t, nle_f, nlt_t, nlt_f, neq_t, neq_f, ↓reduceIte, and_self, and_true, true_and, and_false, false_and, not_true_eq_false, not_false_eq_true, Nat.add_zero, e i hi]
    · refine Or.inl (Or.inr ⟨fun h => q (h.2.2 i hi), ?_⟩)
      simp only [fX11_areKinds_L15]
      simp (disch := omega) only [nL_lt, nL_gt, nL_le, nL_ge, nL_eq, nL_qe, nI_ltI, nI_leI, nI_eq, nL_add, nL_dda, nI_add, nL_sub, pk_sub, nL_mul, nL_clamp, nI_cl, zchk_n, zchk_l, zb_s, zb2_s, zb3_s, zb3_e, zput_e, zjoin_e, zs_hit, zs_miss, nle_t, nle_f, nlt_t, nlt_f, neq_t, neq_f, ↓reduceIte, and_self, and_true, true_and, and_false, false_and, not_true_eq_false, not_false_eq_true, Nat.add_zero, e i hi]
  · refine Or.inl ⟨⟨by omega, q2, hh⟩, ?_⟩
    simp only [fX11_areKinds_L15]
    rw [if_pos (Int32.le_refl _)]
theorem r_L34_0 {v1 v2 : Int32} {g : zM} {K : Int32 → Option (Int32 × zM)} {n : Nat} {i : Int32} : fX12_write_L34 v1 v2 g K (n + 1) 0 i = K 0 := by
  rw [fX12_write_L34]
  by_cases q : g 493 11 ≤ i
  · rw [if_pos q]
  · rw [if_neg q, if_pos rfl]
theorem r_L34 {v1 v2 : Int32} {S : zS} (hS : zSW S) {g : zM} (e : ∀ i, i < S.1 → g 499 i = zsb (S.2.1 i)) (h : g 493 11 = nI S.1) (h1 : 1 ≤ S.1) (h24 : S.1 ≤ 24) {K : Int32 → Option (Int32 × zM)} : (zAK S ∧ fX12_write_L34 v1 v2 g K zFU 1 0 = K 1) ∨ (¬ zAK S ∧ fX12_write_L34 v1 v2 g K zFU 1 0 = K 0) := by
  refine zL_Q0 (fun n i (x : Int32) => fX12_write_L34 v1 v2 g K n x (nI i)) (fun i x => (x = 1 ∧ ∀ j, j < i → S.2.1 j < 12) ∨ (x = 0 ∧ ¬ zAK S)) S.1 (fun x => (zAK S ∧ x = K 1) ∨ (¬ zAK S ∧ x = K 0)) 1 (by omega) (Or.inl ⟨rfl, fun j hj => absurd hj (Nat.not_lt_zero _)⟩) (fun n i x hi hh => ?_) (fun n x hh => ?_)
  · have hb := hS.2.1 i hi
    have h4 := hS.1
    rcases hh with ⟨rfl, hh⟩ | ⟨rfl, hh⟩
    · right
      by_cases q : S.2.1 i < 12
      · refine ⟨1, Or.inl ⟨rfl, fun j hj => ?_⟩, ?_⟩
        · by_cases q3 : j = i
          · subst q3; exact q
          · exact hh j (by omega)
        · have := r_noKind (g := g) q
          rw [fX12_write_L34, h, if_neg (by rw [nI_leI (by omega) (by omega)]; omega), if_neg (by decide), zchk_n (by omega) (by omega), nI_cl (by omega), e i hi, zsb_lo _ (by omega), this, zb_s, if_pos rfl, nI_1]
      · refine ⟨0, Or.inr ⟨rfl, fun hk => q (hk.2.2 i hi)⟩, ?_⟩
        have := r_noKind_no (g := g) (zsb_bad hb (by omega))
        rw [fX12_write_L34, h, if_neg (by rw [nI_leI (by omega) (by omega)]; omega), if_neg (by decide), zchk_n (by omega) (by omega), nI_cl (by omega), e i hi, this, zb_s, if_neg (by decide), nI_1]
    · exact Or.inl (Or.inr ⟨hh, r_L34_0⟩)
  · rcases hh with ⟨rfl, hh⟩ | ⟨rfl, hh⟩
    · refine Or.inl ⟨⟨h1, h24, hh⟩, ?_⟩
      rw [fX12_write_L34, h, if_pos (Int32.le_refl _)]
    · exact Or.inr ⟨hh, r_L34_0⟩
/-- the state with an empty TAPE -/
def zS0 (S : zS) : zS := (0, S.2)
theorem zS0_W {S : zS} (hS : zSW S) : zSW (zS0 S) := ⟨Nat.zero_le _, fun i hi => absurd hi (Nat.not_lt_zero _), hS.2.2⟩
def zU (g : zM) : zM := zset (zset (zset (zset g 493 0 0) 493 11 (zset g 493 0 0 493 9)) 493 9 0) 493 10 0
theorem r_uses {S : zS} {g : zM} (hS : zSW S) (e : zRI S g) : fX12_uses g = some (zU g) ∧ zRI (zS0 S) (zU g) ∧ (∀ c, c ≠ 493 → zU g c = g c) ∧ zU g 493 11 = nI S.1 ∧ zU g 493 0 = 0 := by
  refine ⟨rfl, ?_, fun c h => ?_, ?_, ?_⟩
  · obtain ⟨e1, e2, e3, e4, e5, e6, e7, e8⟩ := e
    have fc : ∀ c, c ≠ 493 → zU g c = g c := fun c h => by unfold zU; rw [zs_cell h, zs_cell h, zs_cell h, zs_cell h]
    have f3 : ∀ k, k ≠ 0 → k ≠ 11 → k ≠ 9 → k ≠ 10 → zU g 493 k = g 493 k := fun k h1 h2 h3 h4 => by unfold zU; rw [zs_miss (by omega), zs_miss (by omega), zs_miss (by omega), zs_miss (by omega)]
    refine ⟨?_, fun i hi => absurd hi (Nat.not_lt_zero _), by rw [f3 14 (by omega) (by omega) (by omega) (by omega)]; exact e3, e4.fr hS.2.2.1 (fun k _ => by rw [fc 494 (by omega)]), by rw [f3 6 (by omega) (by omega) (by omega) (by omega)]; exact e5, fun q => (e6 q).fr (hS.2.2.2.1 q) (fun k _ => by rw [fc 495 (by omega)]), by rw [f3 7 (by omega) (by omega) (by omega) (by omega)]; exact e7, fun j hj => ⟨(e8 j hj).1.fr (hS.2.2.2.2.2 j hj) (fun k _ _ => by rw [fc 498 (by omega)]), fun c h1 h2 h3 h4 h5 => by rw [fc 498 (by omega), fc 494 (by omega)]; exact (e8 j hj).2 c h1 h2 h3 h4 h5⟩⟩
    unfold zU
    rw [zs_miss (by omega), zs_hit ⟨rfl, rfl⟩]
    rfl
  · unfold zU
    rw [zs_cell h, zs_cell h, zs_cell h, zs_cell h]
  · unfold zU
    rw [zs_miss (by omega), zs_miss (by omega), zs_hit ⟨rfl, rfl⟩, zs_miss (by omega)]
    exact e.1
  · unfold zU
    rw [zs_miss (by omega), zs_miss (by omega), zs_miss (by omega), zs_hit ⟨rfl, rfl⟩]
theorem c_uses {S : zS} {g : zM} (hS : zSW S) (e : zCI S g) : zCI (zS0 S) (zset g 0 1 0) := by
  obtain ⟨e1, e2, e3, e4, e5, e6, ⟨p, hp, e7, e8⟩, e9, e10, e11⟩ := e
  exact ⟨zs_hit ⟨rfl, rfl⟩, fun i hi => absurd hi (Nat.not_lt_zero _), by rw [zs_miss (by omega)]; exact e3, e4.fr hS.2.2.1 (fun c h1 h2 _ _ => zs_cell (by omega)), by rw [zs_miss (by omega)]; exact e5, fun q => (e6 q).fr (hS.2.2.2.1 q) (fun c h1 h2 _ _ => zs_cell (by omega)), ⟨p, hp, by rw [zs_cell (by omega)]; exact e7, fun j hj => (e8 j hj).fr (hS.2.2.2.2.2 j hj).1 (fun c h1 h2 => zs_cell (by omega))⟩, by rw [zs_cell (by omega)]; exact e9, by rw [zs_cell (by omega)]; exact e10, by rw [zs_cell (by omega)]; exact e11⟩
theorem zDo.errW {l : List Nat} {S : zS} {f : zM → Option (Except Nat Int32 × zM)} {fm : zM → Option (Int32 × zM)} (hS : zSW S) {c : Nat} {t b : Int32} (hc : c ∈ l ∧ t = nI (l.idxOf c + 1)) (h1 : ∀ g, zCI S g → f g = some (.error c, zset g 0 1 0)) (h2 : ∀ g, zRI S g → fm g = some (b, zset (zU g) 493 0 t)) : zDo l S f fm := by
  refine ⟨.error c, zS0 S, zS0_W hS, fun g e => ⟨_, h1 g e, c_uses hS e, fun c h => zs_cell (by omega)⟩, fun g e => ?_⟩
  obtain ⟨a1, a2, a3, a4, a5⟩ := r_uses hS e
  exact ⟨b, _, h2 g e, a2.thr (zS0_W hS) t, fun c h => by rw [zs_cell (by omega)]; exact a3 c (by omega), by rw [zs_cell (by omega)]; exact a3 508 (by omega), hc.1, by rw [← hc.2]; exact zs_hit ⟨rfl, rfl⟩⟩
