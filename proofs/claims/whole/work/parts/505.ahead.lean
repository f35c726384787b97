/-! AHEAD -/
def zwk (w : Int32) : Int32 := if 9999 < w + 1 then 9999 else w + 1
theorem zwk_r (w : Int32) : (if w + 1 < 9999 then w + 1 else 9999) = zwk w := by
  unfold zwk
  generalize w + 1 = a
  by_cases h : a < 9999
  · rw [if_pos h, if_neg (fun q => by rw [Int32.lt_iff_toInt_lt] at h q; omega)]
  · rw [if_neg h]
    by_cases q : 9999 < a
    · rw [if_pos q]
    · rw [if_neg q]
      apply Int32.toInt_inj.mp
      rw [Int32.lt_iff_toInt_lt] at h q
      omega
def zg1 (W : zLw) (L : zL) (w : Int32) : zL := match zgr W L w with
  | none => L
  | some k => zLadd L k w
def zgo (W : zLw) (p : zL × Int32) : zL × Int32 := (if p.1.2.2.2.2.2.2 = true then zg1 W (zg1 W p.1 p.2) p.2 else zg1 W p.1 p.2, zwk p.2)
def zah (W : zLw) : Nat → zL × Int32 → zL × Int32
  | 0, p => p
  | n + 1, p => zah W n (zgo W p)
theorem zah_succ (W : zLw) : ∀ n p, zah W (n + 1) p = zgo W (zah W n p)
  | 0, _ => rfl
  | n + 1, p => zah_succ W n (zgo W p)
theorem zg1_W {W : zLw} (hW : zWW W) {L : zL} (hL : zLW L) (w : Int32) : zLW (zg1 W L w) := by
  unfold zg1
  cases q : zgr W L w with
  | none => exact hL
  | some k => exact zLadd_W hL (zgr_lt hW q).2.1 (zgr_lt hW q).1
theorem zg1_hot {W : zLw} {L : zL} {w : Int32} : (zg1 W L w).2.2.2 = L.2.2.2 := by
  unfold zg1
  cases zgr W L w <;> rfl
theorem zgo_W {W : zLw} (hW : zWW W) {p : zL × Int32} (hL : zLW p.1) : zLW (zgo W p).1 := by
  show zLW (if p.1.2.2.2.2.2.2 = true then zg1 W (zg1 W p.1 p.2) p.2 else zg1 W p.1 p.2)
  split
  · exact zg1_W hW (zg1_W hW hL _) _
  · exact zg1_W hW hL _
theorem zah_W {W : zLw} (hW : zWW W) : ∀ (n : Nat) {p : zL × Int32}, zLW p.1 → zLW (zah W n p).1
  | 0, _, h => h
  | n + 1, _, h => zah_W hW n (zgo_W hW h)
/-- with a KIND that comes in place of the first -/
def zg1f (W : zLw) (L : zL) (w : Int32) (f : Option Nat) : zL × Option Nat := match zgr W L w with
  | none => (L, f)
  | some k => (zLadd L (f.getD k) w, none)
def zgof (W : zLw) (p : zL × Int32 × Option Nat) : zL × Int32 × Option Nat :=
  let a := zg1f W p.1 p.2.1 p.2.2
  let b := if p.1.2.2.2.2.2.2 = true then zg1f W a.1 p.2.1 a.2 else a
  (b.1, zwk p.2.1, b.2)
def zahf (W : zLw) : Nat → zL × Int32 × Option Nat → zL × Int32 × Option Nat
  | 0, p => p
  | n + 1, p => zahf W n (zgof W p)
theorem zg1f_none {W : zLw} {L : zL} {w : Int32} : zg1f W L w none = (zg1 W L w, none) := by
  unfold zg1f zg1
  cases zgr W L w <;> rfl
theorem zgof_none {W : zLw} {L : zL} {w : Int32} : zgof W (L, w, none) = ((zgo W (L, w)).1, (zgo W (L, w)).2, none) := by
  unfold zgof zgo
  simp only [zg1f_none]
  split <;> rfl
theorem zahf_none {W : zLw} : ∀ (n : Nat) {L : zL} {w : Int32}, zahf W n (L, w, none) = ((zah W n (L, w)).1, (zah W n (L, w)).2, none)
  | 0, _, _ => rfl
  | n + 1, L, w => by
    show zahf W n (zgof W (L, w, none)) = _
    rw [zgof_none, zahf_none n]
    rfl
theorem zg1f_W {W : zLw} (hW : zWW W) {L : zL} (hL : zLW L) {f : Option Nat} (hf : ∀ k, f = some k → k < 12) (w : Int32) : zLW (zg1f W L w f).1 ∧ (∀ k, (zg1f W L w f).2 = some k → k < 12) ∧ (zg1f W L w f).1.2.2.2 = L.2.2.2 := by
  unfold zg1f
  cases q : zgr W L w with
  | none => exact ⟨hL, hf, rfl⟩
  | some k =>
    refine ⟨zLadd_W hL (zgr_lt hW q).2.1 ?_, fun k h => (nomatch h), rfl⟩
    cases f with
    | none => exact (zgr_lt hW q).1
    | some j => exact hf j rfl
theorem zgof_W {W : zLw} (hW : zWW W) {p : zL × Int32 × Option Nat} (hL : zLW p.1) (hf : ∀ k, p.2.2 = some k → k < 12) : zLW (zgof W p).1 ∧ ∀ k, (zgof W p).2.2 = some k → k < 12 := by
  have a := zg1f_W hW hL hf p.2.1
  unfold zgof
  simp only
  split
  · have b := zg1f_W hW a.1 a.2.1 p.2.1
    exact ⟨b.1, b.2.1⟩
  · exact ⟨a.1, a.2.1⟩
/-! the class's sights -/
def zSR (g : zM) (h : Nat) (p : zL × Int32 × Option Nat) : Prop := zCM g (h + 1) p.1 ∧ g h 1 = p.2.1 ∧ g h 2 = zoi p.2.2
def zFS (h : Nat) (g g1 : zM) : Prop := ∀ c, c ≠ 34 → c ≠ 35 → (c < h ∨ h + 4 ≤ c) → g1 c = g c
theorem zFS.trans {h : Nat} {g g1 g2 : zM} (a : zFS h g g1) (b : zFS h g1 g2) : zFS h g g2 := fun c h1 h2 h3 => (b c h1 h2 h3).trans (a c h1 h2 h3)
theorem zFS.fc {h : Nat} {g g1 : zM} (a : zFS h g g1) (hh : 446 ≤ h ∧ h + 4 ≤ 480) : zFC g g1 := ⟨fun c h1 h2 h3 => a c h1 h2 (by omega), by rw [a 481 (by omega) (by omega) (by omega)], by rw [a 482 (by omega) (by omega) (by omega)]⟩
theorem c_look {g : zM} {h r : Nat} {L : zL} (e : zCM g r L) (hr : r + 3 ≤ h ∨ h + 4 ≤ r) (hL : L.1 ≤ 24) (w : Int32) : ∃ g1, fX7_look h r w g = some g1 ∧ zSR g1 h (L, w, none) ∧ ∀ c, (c < h ∨ h + 4 ≤ c) → g1 c = g c := by
  obtain ⟨g1, a1, a2, a3⟩ := c_become (h := h + 1) e (by omega) hL
  unfold fX7_look
  rw [a1]
  simp (disch := omega) only [nL_lt, nL_gt, nL_le, nL_ge, nL_eq, nL_qe, nI_ltI, nI_leI, nI_eq, nL_add, nL_dda, nI_add, nL_sub, pk_sub, nL_mul, nL_clamp, nI_cl, zchk_n, zchk_l, zb_s, zb2_s, zb3_s, zb3_e, zput_e, zjoin_e, zs_hit, zs_miss, nle_t, nle_f, nlt_t, nlt_f, neq_t, neq_f, ↓reduceIte, and_self, and_true, true_and, and_false, false_and, not_true_eq_false, not_false_eq_true, Nat.add_zero]
  refine ⟨_, rfl, ⟨a2.fr ?_ ?_ ?_, ?_, ?_⟩, fun c hc => ?_⟩
  · simp (disch := omega) only [nL_lt, nL_gt, nL_le, nL_ge, nL_eq, nL_qe, nI_ltI, nI_leI, nI_eq, nL_add, nL_dda, nI_add, nL_sub, pk_sub, nL_mul, nL_clamp, nI_cl, zchk_n, zchk_l, zb_s, zb2_s, zb3_s, zb3_e, zput_e, zjoin_e, zs_hit, zs_miss, nle_t, nle_f, nlt_t, nlt_f, neq_t, neq_f, ↓reduceIte, and_self, and_true, true_and, and_false, false_and, not_true_eq_false, not_false_eq_true, Nat.add_zero, zs_cell]
  · simp (disch := omega) only [nL_lt, nL_gt, nL_le, nL_ge, nL_eq, nL_qe, nI_ltI, nI_leI, nI_eq, nL_add, nL_dda, nI_add, nL_sub, pk_sub, nL_mul, nL_clamp, nI_cl, zchk_n, zchk_l, zb_s, zb2_s, zb3_s, zb3_e, zput_e, zjoin_e, zs_hit, zs_miss, nle_t, nle_f, nlt_t, nlt_f, neq_t, neq_f, ↓reduceIte, and_self, and_true, true_and, and_false, false_and, not_true_eq_false, not_false_eq_true, Nat.add_zero, zs_cell]
  · simp (disch := omega) only [nL_lt, nL_gt, nL_le, nL_ge, nL_eq, nL_qe, nI_ltI, nI_leI, nI_eq, nL_add, nL_dda, nI_add, nL_sub, pk_sub, nL_mul, nL_clamp, nI_cl, zchk_n, zchk_l, zb_s, zb2_s, zb3_s, zb3_e, zput_e, zjoin_e, zs_hit, zs_miss, nle_t, nle_f, nlt_t, nlt_f, neq_t, neq_f, ↓reduceIte, and_self, and_true, true_and, and_false, false_and, not_true_eq_false, not_false_eq_true, Nat.add_zero, zs_cell]
  · simp (disch := omega) only [nL_lt, nL_gt, nL_le, nL_ge, nL_eq, nL_qe, nI_ltI, nI_leI, nI_eq, nL_add, nL_dda, nI_add, nL_sub, pk_sub, nL_mul, nL_clamp, nI_cl, zchk_n, zchk_l, zb_s, zb2_s, zb3_s, zb3_e, zput_e, zjoin_e, zs_hit, zs_miss, nle_t, nle_f, nlt_t, nlt_f, neq_t, neq_f, ↓reduceIte, and_self, and_true, true_and, and_false, false_and, not_true_eq_false, not_false_eq_true, Nat.add_zero]
  · simp (disch := omega) only [nL_lt, nL_gt, nL_le, nL_ge, nL_eq, nL_qe, nI_ltI, nI_leI, nI_eq, nL_add, nL_dda, nI_add, nL_sub, pk_sub, nL_mul, nL_clamp, nI_cl, zchk_n, zchk_l, zb_s, zb2_s, zb3_s, zb3_e, zput_e, zjoin_e, zs_hit, zs_miss, nle_t, nle_f, nlt_t, nlt_f, neq_t, neq_f, ↓reduceIte, and_self, and_true, true_and, and_false, false_and, not_true_eq_false, not_false_eq_true, Nat.add_zero]; rfl
  · simp (disch := omega) only [nL_lt, nL_gt, nL_le, nL_ge, nL_eq, nL_qe, nI_ltI, nI_leI, nI_eq, nL_add, nL_dda, nI_add, nL_sub, pk_sub, nL_mul, nL_clamp, nI_cl, zchk_n, zchk_l, zb_s, zb2_s, zb3_s, zb3_e, zput_e, zjoin_e, zs_hit, zs_miss, nle_t, nle_f, nlt_t, nlt_f, neq_t, neq_f, ↓reduceIte, and_self, and_true, true_and, and_false, false_and, not_true_eq_false, not_false_eq_true, Nat.add_zero, zs_cell]; exact a3 c (by omega) (by omega) (by omega)
theorem c_goL {W : zLw} (hW : zWW W) {g : zM} (e : zCL g 29 W) {h : Nat} (hh : 446 ≤ h) {L : zL} {w : Int32} {f : Option Nat} (eS : zSR g h (L, w, f)) (hL : zLW L) (hf : ∀ k, f = some k → k < 12) {t i : Nat} (hi : i < t) (ht : t < 10) (K : zM → Option zM) (n : Nat) :
    ∃ g1, fX7_goWeek_L18 h 29 (nI t) K (n + 1) (nI i) g = fX7_goWeek_L18 h 29 (nI t) K n (nI (i + 1)) g1 ∧ zSR g1 h ((zg1f W L w f).1, w, (zg1f W L w f).2) ∧ zFS h g g1 := by
  obtain ⟨s1, s2, s3⟩ := eS
  have s2 : g h 1 = w := s2
  have s3 : g h 2 = zoi f := s3
  obtain ⟨g1, a1, a2⟩ := c_growth hW e s1 (by omega) hL w
  simp only [fX7_goWeek_L18]
  rw [s2, a1]
  have f2 : g1 h = g h := a2 h (by omega) (by omega)
  have s1' : zCM g1 (h + 1) L := s1.fr (a2 _ (by omega) (by omega)) (a2 _ (by omega) (by omega)) (a2 _ (by omega) (by omega))
  unfold zg1f
  cases q : zgr W L w with
  | none =>
    refine ⟨g1, ?_, ⟨s1', by rw [f2]; exact s2, by rw [f2]; exact s3⟩, fun c h1 h2 _ => a2 c h1 h2⟩
    simp (disch := omega) only [nL_lt, nL_gt, nL_le, nL_ge, nL_eq, nL_qe, nI_ltI, nI_leI, nI_eq, nL_add, nL_dda, nI_add, nL_sub, pk_sub, nL_mul, nL_clamp, nI_cl, zchk_n, zchk_l, zb_s, zb2_s, zb3_s, zb3_e, zput_e, zjoin_e, zs_hit, zs_miss, nle_t, nle_f, nlt_t, nlt_f, neq_t, neq_f, ↓reduceIte, and_self, and_true, true_and, and_false, false_and, not_true_eq_false, not_false_eq_true, Nat.add_zero, zoi]
  | some k =>
    obtain ⟨k1, k2, k3⟩ := zgr_lt hW q
    have go : ∀ j : Nat, j < 12 → f.getD k = j → ∃ g2, fX3_add (h + 1) (nI j) w g1 = some g2 ∧ ∃ g3, zset g2 h 2 (-1) = g3 ∧ zSR g3 h (zLadd L (f.getD k) w, w, none) ∧ zFS h g g3 := by
      intro j hj he
      obtain ⟨g2, b1, b2, b3⟩ := c_add s1' k2 j w
      refine ⟨g2, b1, _, rfl, ⟨?_, ?_, ?_⟩, fun c h1 h2 h3 => ?_⟩
      · rw [he]
        refine b2.fr ?_ ?_ ?_ <;> simp (disch := omega) only [nL_lt, nL_gt, nL_le, nL_ge, nL_eq, nL_qe, nI_ltI, nI_leI, nI_eq, nL_add, nL_dda, nI_add, nL_sub, pk_sub, nL_mul, nL_clamp, nI_cl, zchk_n, zchk_l, zb_s, zb2_s, zb3_s, zb3_e, zput_e, zjoin_e, zs_hit, zs_miss, nle_t, nle_f, nlt_t, nlt_f, neq_t, neq_f, ↓reduceIte, and_self, and_true, true_and, and_false, false_and, not_true_eq_false, not_false_eq_true, Nat.add_zero, zs_cell]
      · simp (disch := omega) only [nL_lt, nL_gt, nL_le, nL_ge, nL_eq, nL_qe, nI_ltI, nI_leI, nI_eq, nL_add, nL_dda, nI_add, nL_sub, pk_sub, nL_mul, nL_clamp, nI_cl, zchk_n, zchk_l, zb_s, zb2_s, zb3_s, zb3_e, zput_e, zjoin_e, zs_hit, zs_miss, nle_t, nle_f, nlt_t, nlt_f, neq_t, neq_f, ↓reduceIte, and_self, and_true, true_and, and_false, false_and, not_true_eq_false, not_false_eq_true, Nat.add_zero]; rw [b3 h (by omega) (by omega) (by omega), f2]; exact s2
      · simp (disch := omega) only [nL_lt, nL_gt, nL_le, nL_ge, nL_eq, nL_qe, nI_ltI, nI_leI, nI_eq, nL_add, nL_dda, nI_add, nL_sub, pk_sub, nL_mul, nL_clamp, nI_cl, zchk_n, zchk_l, zb_s, zb2_s, zb3_s, zb3_e, zput_e, zjoin_e, zs_hit, zs_miss, nle_t, nle_f, nlt_t, nlt_f, neq_t, neq_f, ↓reduceIte, and_self, and_true, true_and, and_false, false_and, not_true_eq_false, not_false_eq_true, Nat.add_zero]; rfl
      · simp (disch := omega) only [nL_lt, nL_gt, nL_le, nL_ge, nL_eq, nL_qe, nI_ltI, nI_leI, nI_eq, nL_add, nL_dda, nI_add, nL_sub, pk_sub, nL_mul, nL_clamp, nI_cl, zchk_n, zchk_l, zb_s, zb2_s, zb3_s, zb3_e, zput_e, zjoin_e, zs_hit, zs_miss, nle_t, nle_f, nlt_t, nlt_f, neq_t, neq_f, ↓reduceIte, and_self, and_true, true_and, and_false, false_and, not_true_eq_false, not_false_eq_true, Nat.add_zero, zs_cell]; rw [b3 c (by omega) (by omega) (by omega), a2 c h1 h2]
    have c1 : g1 h 1 = w := by rw [f2]; exact s2
    have c2 : g1 h 2 = zoi f := by rw [f2]; exact s3
    cases f with
    | none =>
      obtain ⟨g2, b1, g3, b2, b3, b4⟩ := go k k1 rfl
      refine ⟨g3, ?_, b3, b4⟩
      simp (disch := omega) only [nL_lt, nL_gt, nL_le, nL_ge, nL_eq, nL_qe, nI_ltI, nI_leI, nI_eq, nL_add, nL_dda, nI_add, nL_sub, pk_sub, nL_mul, nL_clamp, nI_cl, zchk_n, zchk_l, zb_s, zb2_s, zb3_s, zb3_e, zput_e, zjoin_e, zs_hit, zs_miss, nle_t, nle_f, nlt_t, nlt_f, neq_t, neq_f, ↓reduceIte, and_self, and_true, true_and, and_false, false_and, not_true_eq_false, not_false_eq_true, Nat.add_zero, zoi, c1, c2, nI_m1, b1, b2]
    | some j =>
      have hj := hf j rfl
      obtain ⟨g2, b1, g3, b2, b3, b4⟩ := go j hj rfl
      refine ⟨g3, ?_, b3, b4⟩
      simp (disch := omega) only [nL_lt, nL_gt, nL_le, nL_ge, nL_eq, nL_qe, nI_ltI, nI_leI, nI_eq, nL_add, nL_dda, nI_add, nL_sub, pk_sub, nL_mul, nL_clamp, nI_cl, zchk_n, zchk_l, zb_s, zb2_s, zb3_s, zb3_e, zput_e, zjoin_e, zs_hit, zs_miss, nle_t, nle_f, nlt_t, nlt_f, neq_t, neq_f, ↓reduceIte, and_self, and_true, true_and, and_false, false_and, not_true_eq_false, not_false_eq_true, Nat.add_zero, zoi, c1, c2, nI_m1, b1, b2]
theorem c_goE {h t n : Nat} (K : zM → Option zM) (g : zM) (ht : t < 10) : fX7_goWeek_L18 h 29 (nI t) K (n + 1) (nI t) g = K g := by
  simp only [fX7_goWeek_L18]
  simp (disch := omega) only [nL_lt, nL_gt, nL_le, nL_ge, nL_eq, nL_qe, nI_ltI, nI_leI, nI_eq, nL_add, nL_dda, nI_add, nL_sub, pk_sub, nL_mul, nL_clamp, nI_cl, zchk_n, zchk_l, zb_s, zb2_s, zb3_s, zb3_e, zput_e, zjoin_e, zs_hit, zs_miss, nle_t, nle_f, nlt_t, nlt_f, neq_t, neq_f, ↓reduceIte, and_self, and_true, true_and, and_false, false_and, not_true_eq_false, not_false_eq_true, Nat.add_zero]
theorem c_goWeek {W : zLw} (hW : zWW W) {g : zM} (e : zCL g 29 W) {h : Nat} (hh : 446 ≤ h) {p : zL × Int32 × Option Nat} (eS : zSR g h p) (hL : zLW p.1) (hf : ∀ k, p.2.2 = some k → k < 12) : ∃ g1, fX7_goWeek h 29 g = some g1 ∧ zSR g1 h (zgof W p) ∧ zFS h g g1 := by
  obtain ⟨L, w, f⟩ := p
  have eH : g (h + 1) 6 = zbi L.2.2.2.2.2.2 := eS.1.2.2.2.2.2.2
  have wf := zg1f_W hW hL hf w
  have fin : ∀ (g2 : zM) (q : zL × Option Nat), zSR g2 h (q.1, w, q.2) → ∃ g1, some (zset g2 h 1 (if 9999 < g2 h 1 + 1 then 9999 else g2 h 1 + 1)) = some g1 ∧ zSR g1 h (q.1, zwk w, q.2) ∧ zFS h g2 g1 := by
    intro g2 q hq
    have hw : g2 h 1 = w := hq.2.1
    refine ⟨_, rfl, ⟨hq.1.fr ?_ ?_ ?_, ?_, ?_⟩, fun c h1 h2 h3 => ?_⟩
    · simp (disch := omega) only [nL_lt, nL_gt, nL_le, nL_ge, nL_eq, nL_qe, nI_ltI, nI_leI, nI_eq, nL_add, nL_dda, nI_add, nL_sub, pk_sub, nL_mul, nL_clamp, nI_cl, zchk_n, zchk_l, zb_s, zb2_s, zb3_s, zb3_e, zput_e, zjoin_e, zs_hit, zs_miss, nle_t, nle_f, nlt_t, nlt_f, neq_t, neq_f, ↓reduceIte, and_self, and_true, true_and, and_false, false_and, not_true_eq_false, not_false_eq_true, Nat.add_zero, zs_cell]
    · simp (disch := omega) only [nL_lt, nL_gt, nL_le, nL_ge, nL_eq, nL_qe, nI_ltI, nI_leI, nI_eq, nL_add, nL_dda, nI_add, nL_sub, pk_sub, nL_mul, nL_clamp, nI_cl, zchk_n, zchk_l, zb_s, zb2_s, zb3_s, zb3_e, zput_e, zjoin_e, zs_hit, zs_miss, nle_t, nle_f, nlt_t, nlt_f, neq_t, neq_f, ↓reduceIte, and_self, and_true, true_and, and_false, false_and, not_true_eq_false, not_false_eq_true, Nat.add_zero, zs_cell]
    · simp (disch := omega) only [nL_lt, nL_gt, nL_le, nL_ge, nL_eq, nL_qe, nI_ltI, nI_leI, nI_eq, nL_add, nL_dda, nI_add, nL_sub, pk_sub, nL_mul, nL_clamp, nI_cl, zchk_n, zchk_l, zb_s, zb2_s, zb3_s, zb3_e, zput_e, zjoin_e, zs_hit, zs_miss, nle_t, nle_f, nlt_t, nlt_f, neq_t, neq_f, ↓reduceIte, and_self, and_true, true_and, and_false, false_and, not_true_eq_false, not_false_eq_true, Nat.add_zero, zs_cell]
    · simp (disch := omega) only [nL_lt, nL_gt, nL_le, nL_ge, nL_eq, nL_qe, nI_ltI, nI_leI, nI_eq, nL_add, nL_dda, nI_add, nL_sub, pk_sub, nL_mul, nL_clamp, nI_cl, zchk_n, zchk_l, zb_s, zb2_s, zb3_s, zb3_e, zput_e, zjoin_e, zs_hit, zs_miss, nle_t, nle_f, nlt_t, nlt_f, neq_t, neq_f, ↓reduceIte, and_self, and_true, true_and, and_false, false_and, not_true_eq_false, not_false_eq_true, Nat.add_zero]; rw [hw]; rfl
    · simp (disch := omega) only [nL_lt, nL_gt, nL_le, nL_ge, nL_eq, nL_qe, nI_ltI, nI_leI, nI_eq, nL_add, nL_dda, nI_add, nL_sub, pk_sub, nL_mul, nL_clamp, nI_cl, zchk_n, zchk_l, zb_s, zb2_s, zb3_s, zb3_e, zput_e, zjoin_e, zs_hit, zs_miss, nle_t, nle_f, nlt_t, nlt_f, neq_t, neq_f, ↓reduceIte, and_self, and_true, true_and, and_false, false_and, not_true_eq_false, not_false_eq_true, Nat.add_zero]; exact hq.2.2
    · simp (disch := omega) only [nL_lt, nL_gt, nL_le, nL_ge, nL_eq, nL_qe, nI_ltI, nI_leI, nI_eq, nL_add, nL_dda, nI_add, nL_sub, pk_sub, nL_mul, nL_clamp, nI_cl, zchk_n, zchk_l, zb_s, zb2_s, zb3_s, zb3_e, zput_e, zjoin_e, zs_hit, zs_miss, nle_t, nle_f, nlt_t, nlt_f, neq_t, neq_f, ↓reduceIte, and_self, and_true, true_and, and_false, false_and, not_true_eq_false, not_false_eq_true, Nat.add_zero, zs_cell]
  unfold fX7_goWeek
  rw [eH]
  obtain ⟨g1, a1, a2, a3⟩ := c_goL hW e hh eS hL hf (t := if L.2.2.2.2.2.2 = true then 2 else 1) (i := 0) (by split <;> omega) (by split <;> omega) (fun g10 => zput g10 h 1 (if 9999 < (g10 h 1) + 1 then 9999 else (g10 h 1) + 1) (fun g11 => some g11)) 99999
  cases hot : L.2.2.2.2.2.2
  · simp only [hot, Bool.false_eq_true, if_false] at a1
    simp only [zbi_f, if_true]
    obtain ⟨g2, b1, b2, b3⟩ := fin g1 _ a2
    refine ⟨g2, (a1.trans (c_goE _ g1 (by omega))).trans b1, ?_, a3.trans b3⟩
    unfold zgof
    simp only [hot, Bool.false_eq_true, if_false]
    exact b2
  · simp only [hot, if_true] at a1
    simp only [zbi_t, zi10, if_false]
    obtain ⟨g2, b1, b2, b3⟩ := c_goL hW (e.fr (fun c h1 h2 => a3 c (by omega) (by omega) (by omega))) hh a2 wf.1 wf.2.1 (t := 2) (i := 1) (by omega) (by omega) (fun g10 => zput g10 h 1 (if 9999 < (g10 h 1) + 1 then 9999 else (g10 h 1) + 1) (fun g11 => some g11)) 99998
    obtain ⟨g3, d1, d2, d3⟩ := fin g2 _ b2
    refine ⟨g3, ((a1.trans b1).trans (c_goE _ g2 (by omega))).trans d1, ?_, (a3.trans b3).trans d3⟩
    unfold zgof
    simp only [hot, if_true]
    exact d2
theorem c_go {W : zLw} (hW : zWW W) {h : Nat} (hh : 446 ≤ h) (n : Nat) (hn : n ≤ 40) : ∀ (d i m : Nat) (p : zL × Int32 × Option Nat) (g : zM), i + d = n → d < m → zCL g 29 W → zSR g h p → zLW p.1 → (∀ k, p.2.2 = some k → k < 12) → ∃ g1, fX7_go_L2 h 29 (nI n) m (nI i) g = some g1 ∧ zSR g1 h (zahf W d p) ∧ zFS h g g1 := by
  intro d
  induction d with
  | zero =>
    intro i m p g hi hm e eS hL hf
    obtain ⟨m, rfl⟩ : ∃ q, m = q + 1 := ⟨m - 1, by omega⟩
    refine ⟨g, ?_, eS, fun _ _ _ _ => rfl⟩
    rw [fX7_go_L2]
    simp (disch := omega) only [nL_lt, nL_gt, nL_le, nL_ge, nL_eq, nL_qe, nI_ltI, nI_leI, nI_eq, nL_add, nL_dda, nI_add, nL_sub, pk_sub, nL_mul, nL_clamp, nI_cl, zchk_n, zchk_l, zb_s, zb2_s, zb3_s, zb3_e, zput_e, zjoin_e, zs_hit, zs_miss, nle_t, nle_f, nlt_t, nlt_f, neq_t, neq_f, ↓reduceIte, and_self, and_true, true_and, and_false, false_and, not_true_eq_false, not_false_eq_true, Nat.add_zero]
  | succ d ih =>
    intro i m p g hi hm e eS hL hf
    obtain ⟨m, rfl⟩ : ∃ q, m = q + 1 := ⟨m - 1, by omega⟩
    obtain ⟨g1, a1, a2, a3⟩ := c_goWeek hW e hh eS hL hf
    have wf := zgof_W hW hL hf
    obtain ⟨g2, b1, b2, b3⟩ := ih (i + 1) m _ g1 (by omega) (by omega) (e.fr (fun c h1 h2 => a3 c (by omega) (by omega) (by omega))) a2 wf.1 wf.2
    refine ⟨g2, ?_, b2, a3.trans b3⟩
    rw [fX7_go_L2]
    simp (disch := omega) only [nL_lt, nL_gt, nL_le, nL_ge, nL_eq, nL_qe, nI_ltI, nI_leI, nI_eq, nL_add, nL_dda, nI_add, nL_sub, pk_sub, nL_mul, nL_clamp, nI_cl, zchk_n, zchk_l, zb_s, zb2_s, zb3_s, zb3_e, zput_e, zjoin_e, zs_hit, zs_miss, nle_t, nle_f, nlt_t, nlt_f, neq_t, neq_f, ↓reduceIte, and_self, and_true, true_and, and_false, false_and, not_true_eq_false, not_false_eq_true, Nat.add_zero, a1]
    exact b1
/-- look and go n weeks -/
theorem c_ahead {W : zLw} (hW : zWW W) {g : zM} (e : zCL g 29 W) {h : Nat} (hh : 446 ≤ h) {L : zL} {w : Int32} (eS : zSR g h (L, w, none)) (hL : zLW L) {n : Nat} (hn : n ≤ 40) : ∃ g1, fX7_go h 29 (nI n) g = some g1 ∧ zSR g1 h ((zah W n (L, w)).1, (zah W n (L, w)).2, none) ∧ zFS h g g1 := by
  obtain ⟨g1, a1, a2, a3⟩ := c_go hW hh n hn n 0 zFU (L, w, none) g (by omega) (by unfold zFU; omega) e eS hL (fun k h => nomatch h)
  rw [zahf_none] at a2
  exact ⟨g1, a1, a2, a3⟩
/-! the reference's row -/
def zFQ (g g1 : zM) : Prop := (∀ c, c ≠ 493 → c ≠ 501 → c ≠ 502 → g1 c = g c) ∧ ∀ k, k < 19 → g1 493 k = g 493 k
theorem zFQ.refl {g : zM} : zFQ g g := ⟨fun _ _ _ _ => rfl, fun _ _ => rfl⟩
theorem zFQ.trans {g g1 g2 : zM} (a : zFQ g g1) (b : zFQ g1 g2) : zFQ g g2 := ⟨fun c h1 h2 h3 => (b.1 c h1 h2 h3).trans (a.1 c h1 h2 h3), fun k h => (b.2 k h).trans (a.2 k h)⟩
theorem zFQ.of {g g1 : zM} (a : ∀ c, c ≠ 501 → g1 c = g c) : zFQ g g1 := ⟨fun c _ h _ => a c h, fun k _ => by rw [a 493 (by omega)]⟩
theorem zFQ.fr {g g1 : zM} (a : zFQ g g1) : zFR g g1 := ⟨fun c h => a.1 c (by omega) (by omega) (by omega), fun k _ => by rw [a.1 494 (by omega) (by omega) (by omega)], a.1 _ (by omega) (by omega) (by omega), a.1 _ (by omega) (by omega) (by omega), a.1 _ (by omega) (by omega) (by omega), a.1 _ (by omega) (by omega) (by omega), a.2 _ (by omega), a.2 _ (by omega), a.2 _ (by omega), a.2 _ (by omega)⟩
theorem zRL.fq {g g1 : zM} {W : zLw} (e : zRL g 494 W) (hW : zWW W) (f : zFQ g g1) : zRL g1 494 W := e.fr hW (fun _ _ => by rw [f.1 494 (by omega) (by omega) (by omega)])
theorem r_growsOnce {W : zLw} (hW : zWW W) {g : zM} (e : zRL g 494 W) {L : zL} (hL : zLW L) {w : Int32} (eR : zRR g L L.1 w) : ∃ g1, fX12_growsOnce g = some g1 ∧ zRR g1 (zg1 W L w) (zg1 W L w).1 w ∧ zFQ g g1 := by
  obtain ⟨g1, a1, a2⟩ := r_canGrow hW e hL eR
  have eR1 : zRR g1 L L.1 w := eR.fr (a2 _ (by omega)) (a2 _ (by omega))
  unfold fX12_growsOnce zg1
  rw [a1]
  cases q : zgr W L w with
  | none =>
    refine ⟨g1, ?_, eR1, .of a2⟩
    simp only [zb2_s, Option.isSome_none, zbi_f, if_true]
  | some k =>
    obtain ⟨k1, k2, k3⟩ := zgr_lt hW q
    have h1 := hL.1
    obtain ⟨g2, b1, b2⟩ := r_follows hW (e.fq hW (.of a2)) hL eR1 h1 (Nat.le_refl _)
    have hz : zfol W L L.1 w = some k := by
      unfold zgr at q
      rw [if_pos ⟨k3, k2⟩] at q
      exact q
    rw [hz] at b1
    have c1 : g1 493 19 = nI L.1 := eR1.1
    have c2 : g2 493 = g1 493 := b2 _ (by omega)
    have c3 : g2 502 = g1 502 := b2 _ (by omega)
    simp (disch := omega) only [nL_lt, nL_gt, nL_le, nL_ge, nL_eq, nL_qe, nI_ltI, nI_leI, nI_eq, nL_add, nL_dda, nI_add, nL_sub, pk_sub, nL_mul, nL_clamp, nI_cl, zchk_n, zchk_l, zb_s, zb2_s, zb3_s, zb3_e, zput_e, zjoin_e, zs_hit, zs_miss, nle_t, nle_f, nlt_t, nlt_f, neq_t, neq_f, ↓reduceIte, and_self, and_true, true_and, and_false, false_and, not_true_eq_false, not_false_eq_true, Nat.add_zero, Option.isSome_some, zbi_t, b1, c1, zoi, c2]
    refine ⟨_, rfl, ⟨?_, fun i hi => ?_, ?_, ?_, ?_, ?_, ?_⟩, fun c h1 h2 h3 => ?_, fun j hj => ?_⟩
    · simp (disch := omega) only [nL_lt, nL_gt, nL_le, nL_ge, nL_eq, nL_qe, nI_ltI, nI_leI, nI_eq, nL_add, nL_dda, nI_add, nL_sub, pk_sub, nL_mul, nL_clamp, nI_cl, zchk_n, zchk_l, zb_s, zb2_s, zb3_s, zb3_e, zput_e, zjoin_e, zs_hit, zs_miss, nle_t, nle_f, nlt_t, nlt_f, neq_t, neq_f, ↓reduceIte, and_self, and_true, true_and, and_false, false_and, not_true_eq_false, not_false_eq_true, Nat.add_zero]; rfl
    · have hi' : i < L.1 + 1 := hi
      show _ = nI (zup L.2.1 L.1 k i)
      by_cases q : i = L.1
      · simp (disch := omega) only [nL_lt, nL_gt, nL_le, nL_ge, nL_eq, nL_qe, nI_ltI, nI_leI, nI_eq, nL_add, nL_dda, nI_add, nL_sub, pk_sub, nL_mul, nL_clamp, nI_cl, zchk_n, zchk_l, zb_s, zb2_s, zb3_s, zb3_e, zput_e, zjoin_e, zs_hit, zs_miss, nle_t, nle_f, nlt_t, nlt_f, neq_t, neq_f, ↓reduceIte, and_self, and_true, true_and, and_false, false_and, not_true_eq_false, not_false_eq_true, Nat.add_zero, zup_hit]
      · simp (disch := omega) only [nL_lt, nL_gt, nL_le, nL_ge, nL_eq, nL_qe, nI_ltI, nI_leI, nI_eq, nL_add, nL_dda, nI_add, nL_sub, pk_sub, nL_mul, nL_clamp, nI_cl, zchk_n, zchk_l, zb_s, zb2_s, zb3_s, zb3_e, zput_e, zjoin_e, zs_hit, zs_miss, nle_t, nle_f, nlt_t, nlt_f, neq_t, neq_f, ↓reduceIte, and_self, and_true, true_and, and_false, false_and, not_true_eq_false, not_false_eq_true, Nat.add_zero, zup_miss, c3]; exact eR1.2.1 i (by omega)
    · simp (disch := omega) only [nL_lt, nL_gt, nL_le, nL_ge, nL_eq, nL_qe, nI_ltI, nI_leI, nI_eq, nL_add, nL_dda, nI_add, nL_sub, pk_sub, nL_mul, nL_clamp, nI_cl, zchk_n, zchk_l, zb_s, zb2_s, zb3_s, zb3_e, zput_e, zjoin_e, zs_hit, zs_miss, nle_t, nle_f, nlt_t, nlt_f, neq_t, neq_f, ↓reduceIte, and_self, and_true, true_and, and_false, false_and, not_true_eq_false, not_false_eq_true, Nat.add_zero, c2]; exact eR1.2.2.1
    · simp (disch := omega) only [nL_lt, nL_gt, nL_le, nL_ge, nL_eq, nL_qe, nI_ltI, nI_leI, nI_eq, nL_add, nL_dda, nI_add, nL_sub, pk_sub, nL_mul, nL_clamp, nI_cl, zchk_n, zchk_l, zb_s, zb2_s, zb3_s, zb3_e, zput_e, zjoin_e, zs_hit, zs_miss, nle_t, nle_f, nlt_t, nlt_f, neq_t, neq_f, ↓reduceIte, and_self, and_true, true_and, and_false, false_and, not_true_eq_false, not_false_eq_true, Nat.add_zero, c2]; exact eR1.2.2.2.1
    · simp (disch := omega) only [nL_lt, nL_gt, nL_le, nL_ge, nL_eq, nL_qe, nI_ltI, nI_leI, nI_eq, nL_add, nL_dda, nI_add, nL_sub, pk_sub, nL_mul, nL_clamp, nI_cl, zchk_n, zchk_l, zb_s, zb2_s, zb3_s, zb3_e, zput_e, zjoin_e, zs_hit, zs_miss, nle_t, nle_f, nlt_t, nlt_f, neq_t, neq_f, ↓reduceIte, and_self, and_true, true_and, and_false, false_and, not_true_eq_false, not_false_eq_true, Nat.add_zero, c2]; exact eR1.2.2.2.2.1
    · simp (disch := omega) only [nL_lt, nL_gt, nL_le, nL_ge, nL_eq, nL_qe, nI_ltI, nI_leI, nI_eq, nL_add, nL_dda, nI_add, nL_sub, pk_sub, nL_mul, nL_clamp, nI_cl, zchk_n, zchk_l, zb_s, zb2_s, zb3_s, zb3_e, zput_e, zjoin_e, zs_hit, zs_miss, nle_t, nle_f, nlt_t, nlt_f, neq_t, neq_f, ↓reduceIte, and_self, and_true, true_and, and_false, false_and, not_true_eq_false, not_false_eq_true, Nat.add_zero, c2]; exact eR1.2.2.2.2.2.1
    · simp (disch := omega) only [nL_lt, nL_gt, nL_le, nL_ge, nL_eq, nL_qe, nI_ltI, nI_leI, nI_eq, nL_add, nL_dda, nI_add, nL_sub, pk_sub, nL_mul, nL_clamp, nI_cl, zchk_n, zchk_l, zb_s, zb2_s, zb3_s, zb3_e, zput_e, zjoin_e, zs_hit, zs_miss, nle_t, nle_f, nlt_t, nlt_f, neq_t, neq_f, ↓reduceIte, and_self, and_true, true_and, and_false, false_and, not_true_eq_false, not_false_eq_true, Nat.add_zero, c2]; exact eR1.2.2.2.2.2.2
    · simp (disch := omega) only [nL_lt, nL_gt, nL_le, nL_ge, nL_eq, nL_qe, nI_ltI, nI_leI, nI_eq, nL_add, nL_dda, nI_add, nL_sub, pk_sub, nL_mul, nL_clamp, nI_cl, zchk_n, zchk_l, zb_s, zb2_s, zb3_s, zb3_e, zput_e, zjoin_e, zs_hit, zs_miss, nle_t, nle_f, nlt_t, nlt_f, neq_t, neq_f, ↓reduceIte, and_self, and_true, true_and, and_false, false_and, not_true_eq_false, not_false_eq_true, Nat.add_zero, zs_cell]; rw [b2 c h2, a2 c h2]
    · simp (disch := omega) only [nL_lt, nL_gt, nL_le, nL_ge, nL_eq, nL_qe, nI_ltI, nI_leI, nI_eq, nL_add, nL_dda, nI_add, nL_sub, pk_sub, nL_mul, nL_clamp, nI_cl, zchk_n, zchk_l, zb_s, zb2_s, zb3_s, zb3_e, zput_e, zjoin_e, zs_hit, zs_miss, nle_t, nle_f, nlt_t, nlt_f, neq_t, neq_f, ↓reduceIte, and_self, and_true, true_and, and_false, false_and, not_true_eq_false, not_false_eq_true, Nat.add_zero, c2]; rw [a2 493 (by omega)]
theorem r_goesOn {W : zLw} (hW : zWW W) {g : zM} (e : zRL g 494 W) {p : zL × Int32} (hL : zLW p.1) (eR : zRR g p.1 p.1.1 p.2) : ∃ g1, fX12_goesOn g = some g1 ∧ zRR g1 (zgo W p).1 (zgo W p).1.1 (zgo W p).2 ∧ zFQ g g1 := by
  obtain ⟨L, w⟩ := p
  have fin : ∀ (g2 : zM) (L2 : zL), zRR g2 L2 L2.1 w → ∃ g1, some (zset g2 493 22 (if (g2 493 22) + 1 < 9999 then (g2 493 22) + 1 else 9999)) = some g1 ∧ zRR g1 L2 L2.1 (zwk w) ∧ zFQ g2 g1 := by
    intro g2 L2 h
    obtain ⟨e1, e2, e3, e4, e5, e6, e7⟩ := h
    refine ⟨_, rfl, ⟨?_, fun i hi => ?_, ?_, ?_, ?_, ?_, ?_⟩, fun c h1 h2 h3 => ?_, fun k hk => ?_⟩
    · simp (disch := omega) only [nL_lt, nL_gt, nL_le, nL_ge, nL_eq, nL_qe, nI_ltI, nI_leI, nI_eq, nL_add, nL_dda, nI_add, nL_sub, pk_sub, nL_mul, nL_clamp, nI_cl, zchk_n, zchk_l, zb_s, zb2_s, zb3_s, zb3_e, zput_e, zjoin_e, zs_hit, zs_miss, nle_t, nle_f, nlt_t, nlt_f, neq_t, neq_f, ↓reduceIte, and_self, and_true, true_and, and_false, false_and, not_true_eq_false, not_false_eq_true, Nat.add_zero]; exact e1
    · simp (disch := omega) only [nL_lt, nL_gt, nL_le, nL_ge, nL_eq, nL_qe, nI_ltI, nI_leI, nI_eq, nL_add, nL_dda, nI_add, nL_sub, pk_sub, nL_mul, nL_clamp, nI_cl, zchk_n, zchk_l, zb_s, zb2_s, zb3_s, zb3_e, zput_e, zjoin_e, zs_hit, zs_miss, nle_t, nle_f, nlt_t, nlt_f, neq_t, neq_f, ↓reduceIte, and_self, and_true, true_and, and_false, false_and, not_true_eq_false, not_false_eq_true, Nat.add_zero]; exact e2 i hi
    · simp (disch := omega) only [nL_lt, nL_gt, nL_le, nL_ge, nL_eq, nL_qe, nI_ltI, nI_leI, nI_eq, nL_add, nL_dda, nI_add, nL_sub, pk_sub, nL_mul, nL_clamp, nI_cl, zchk_n, zchk_l, zb_s, zb2_s, zb3_s, zb3_e, zput_e, zjoin_e, zs_hit, zs_miss, nle_t, nle_f, nlt_t, nlt_f, neq_t, neq_f, ↓reduceIte, and_self, and_true, true_and, and_false, false_and, not_true_eq_false, not_false_eq_true, Nat.add_zero]; exact e3
    · simp (disch := omega) only [nL_lt, nL_gt, nL_le, nL_ge, nL_eq, nL_qe, nI_ltI, nI_leI, nI_eq, nL_add, nL_dda, nI_add, nL_sub, pk_sub, nL_mul, nL_clamp, nI_cl, zchk_n, zchk_l, zb_s, zb2_s, zb3_s, zb3_e, zput_e, zjoin_e, zs_hit, zs_miss, nle_t, nle_f, nlt_t, nlt_f, neq_t, neq_f, ↓reduceIte, and_self, and_true, true_and, and_false, false_and, not_true_eq_false, not_false_eq_true, Nat.add_zero]; exact e4
    · simp (disch := omega) only [nL_lt, nL_gt, nL_le, nL_ge, nL_eq, nL_qe, nI_ltI, nI_leI, nI_eq, nL_add, nL_dda, nI_add, nL_sub, pk_sub, nL_mul, nL_clamp, nI_cl, zchk_n, zchk_l, zb_s, zb2_s, zb3_s, zb3_e, zput_e, zjoin_e, zs_hit, zs_miss, nle_t, nle_f, nlt_t, nlt_f, neq_t, neq_f, ↓reduceIte, and_self, and_true, true_and, and_false, false_and, not_true_eq_false, not_false_eq_true, Nat.add_zero]; rw [e5]; exact zwk_r w
    · simp (disch := omega) only [nL_lt, nL_gt, nL_le, nL_ge, nL_eq, nL_qe, nI_ltI, nI_leI, nI_eq, nL_add, nL_dda, nI_add, nL_sub, pk_sub, nL_mul, nL_clamp, nI_cl, zchk_n, zchk_l, zb_s, zb2_s, zb3_s, zb3_e, zput_e, zjoin_e, zs_hit, zs_miss, nle_t, nle_f, nlt_t, nlt_f, neq_t, neq_f, ↓reduceIte, and_self, and_true, true_and, and_false, false_and, not_true_eq_false, not_false_eq_true, Nat.add_zero]; exact e6
    · simp (disch := omega) only [nL_lt, nL_gt, nL_le, nL_ge, nL_eq, nL_qe, nI_ltI, nI_leI, nI_eq, nL_add, nL_dda, nI_add, nL_sub, pk_sub, nL_mul, nL_clamp, nI_cl, zchk_n, zchk_l, zb_s, zb2_s, zb3_s, zb3_e, zput_e, zjoin_e, zs_hit, zs_miss, nle_t, nle_f, nlt_t, nlt_f, neq_t, neq_f, ↓reduceIte, and_self, and_true, true_and, and_false, false_and, not_true_eq_false, not_false_eq_true, Nat.add_zero]; exact e7
    · simp (disch := omega) only [nL_lt, nL_gt, nL_le, nL_ge, nL_eq, nL_qe, nI_ltI, nI_leI, nI_eq, nL_add, nL_dda, nI_add, nL_sub, pk_sub, nL_mul, nL_clamp, nI_cl, zchk_n, zchk_l, zb_s, zb2_s, zb3_s, zb3_e, zput_e, zjoin_e, zs_hit, zs_miss, nle_t, nle_f, nlt_t, nlt_f, neq_t, neq_f, ↓reduceIte, and_self, and_true, true_and, and_false, false_and, not_true_eq_false, not_false_eq_true, Nat.add_zero, zs_cell]
    · simp (disch := omega) only [nL_lt, nL_gt, nL_le, nL_ge, nL_eq, nL_qe, nI_ltI, nI_leI, nI_eq, nL_add, nL_dda, nI_add, nL_sub, pk_sub, nL_mul, nL_clamp, nI_cl, zchk_n, zchk_l, zb_s, zb2_s, zb3_s, zb3_e, zput_e, zjoin_e, zs_hit, zs_miss, nle_t, nle_f, nlt_t, nlt_f, neq_t, neq_f, ↓reduceIte, and_self, and_true, true_and, and_false, false_and, not_true_eq_false, not_false_eq_true, Nat.add_zero]
  obtain ⟨g1, a1, a2, a3⟩ := r_growsOnce hW e hL eR
  have hh : g1 493 24 = zbi L.2.2.2.2.2.2 := by rw [a2.2.2.2.2.2.2, zg1_hot]
  unfold fX12_goesOn zgo
  simp only [a1, zb_s, hh]
  cases hot : L.2.2.2.2.2.2
  · simp only [zbi_f, if_true, zput_e, Bool.false_eq_true, if_false]
    obtain ⟨g2, b1, b2, b3⟩ := fin g1 _ a2
    exact ⟨g2, b1, b2, a3.trans b3⟩
  · simp only [zbi_t, zi10, if_false, zput_e, if_true]
    obtain ⟨g2, b1, b2, b3⟩ := r_growsOnce hW (e.fq hW a3) (zg1_W hW hL w) a2
    obtain ⟨g3, d1, d2, d3⟩ := fin g2 _ b2
    exact ⟨g3, by rw [b1]; exact d1, d2, (a3.trans b3).trans d3⟩
theorem r_goL {W : zLw} (hW : zWW W) (n : Nat) (hn : n ≤ 40) : ∀ (d i m : Nat) (p : zL × Int32) (g : zM), i + d = n → d < m → zRL g 494 W → zRR g p.1 p.1.1 p.2 → zLW p.1 → ∃ g1, fX12_goesFor_L2 (nI n) m (nI i) g = some g1 ∧ zRR g1 (zah W d p).1 (zah W d p).1.1 (zah W d p).2 ∧ zFQ g g1 := by
  intro d
  induction d with
  | zero =>
    intro i m p g hi hm e eR hL
    obtain ⟨m, rfl⟩ : ∃ q, m = q + 1 := ⟨m - 1, by omega⟩
    refine ⟨g, ?_, eR, .refl⟩
    rw [fX12_goesFor_L2]
    simp (disch := omega) only [nL_lt, nL_gt, nL_le, nL_ge, nL_eq, nL_qe, nI_ltI, nI_leI, nI_eq, nL_add, nL_dda, nI_add, nL_sub, pk_sub, nL_mul, nL_clamp, nI_cl, zchk_n, zchk_l, zb_s, zb2_s, zb3_s, zb3_e, zput_e, zjoin_e, zs_hit, zs_miss, nle_t, nle_f, nlt_t, nlt_f, neq_t, neq_f, ↓reduceIte, and_self, and_true, true_and, and_false, false_and, not_true_eq_false, not_false_eq_true, Nat.add_zero]
  | succ d ih =>
    intro i m p g hi hm e eR hL
    obtain ⟨m, rfl⟩ : ∃ q, m = q + 1 := ⟨m - 1, by omega⟩
    obtain ⟨g1, a1, a2, a3⟩ := r_goesOn hW e hL eR
    obtain ⟨g2, b1, b2, b3⟩ := ih (i + 1) m _ g1 (by omega) (by omega) (e.fq hW a3) a2 (zgo_W hW hL)
    refine ⟨g2, ?_, b2, a3.trans b3⟩
    rw [fX12_goesFor_L2]
    simp (disch := omega) only [nL_lt, nL_gt, nL_le, nL_ge, nL_eq, nL_qe, nI_ltI, nI_leI, nI_eq, nL_add, nL_dda, nI_add, nL_sub, pk_sub, nL_mul, nL_clamp, nI_cl, zchk_n, zchk_l, zb_s, zb2_s, zb3_s, zb3_e, zput_e, zjoin_e, zs_hit, zs_miss, nle_t, nle_f, nlt_t, nlt_f, neq_t, neq_f, ↓reduceIte, and_self, and_true, true_and, and_false, false_and, not_true_eq_false, not_false_eq_true, Nat.add_zero, a1]
    exact b1
theorem r_goesFor {W : zLw} (hW : zWW W) {g : zM} (e : zRL g 494 W) {p : zL × Int32} (eR : zRR g p.1 p.1.1 p.2) (hL : zLW p.1) {n : Nat} (hn : n ≤ 40) : ∃ g1, fX12_goesFor (nI n) g = some g1 ∧ zRR g1 (zah W n p).1 (zah W n p).1.1 (zah W n p).2 ∧ zFQ g g1 :=
  r_goL hW n hn n 0 zFU p g (by omega) (by unfold zFU; omega) e eR hL
