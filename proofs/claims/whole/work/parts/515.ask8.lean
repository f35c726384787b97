/-! SEND, CUTS, OUT, FORKS, TEMPERS, MEET, DRAWER -/
/-- a class's sight of any letter, n weeks on -/
theorem c_goAny {S : zS} {g0 s : zM} (hS : zSW S) (e : zCI S g0) (h0 : zFS 446 g0 s) {p : zL × Int32 × Option Nat} (eS : zSR s 446 p) (hL : zLW p.1) (hf : ∀ k, p.2.2 = some k → k < 12) {n : Nat} (hn : n ≤ 40) : ∃ g1, fX7_go 446 29 (nI n) s = some g1 ∧ zSR g1 446 (zahf (zSL S) n p) ∧ zFS 446 g0 g1 := by
  obtain ⟨g1, a1, a2, a3⟩ := c_go (h := 446) hS.law (by omega) n hn n 0 zFU p s (by omega) (by unfold zFU; omega) (e.law.fr (fun c _ _ => h0 c (by omega) (by omega) (by omega))) eS hL hf
  exact ⟨g1, a1, a2, h0.trans a3⟩
theorem zahf_W {W : zLw} (hW : zWW W) : ∀ (n : Nat) {p : zL × Int32 × Option Nat}, zLW p.1 → (∀ k, p.2.2 = some k → k < 12) → zLW (zahf W n p).1
  | 0, _, h, _ => h
  | n + 1, _, h, hf => zahf_W hW n (zgof_W hW h hf).1 (zgof_W hW h hf).2
/-- the last KIND of L, n weeks ahead -/
def zla (S : zS) (L : zL) (n : Nat) : Nat := zlk (zah (zSL S) n (L, (zSB S).2.2.1)).1
theorem zla_lt {S : zS} (hS : zSW S) {L : zL} (hL : zLW L) (n : Nat) : zla S L n < 12 := zlk_lt (zah_W hS.law n hL)
theorem c_la {S : zS} {g0 s : zM} (hS : zSW S) (e : zCI S g0) (h0 : zFS 446 g0 s) {L : zL} (eS : zSR s 446 (L, (zSB S).2.2.1, none)) (hL : zLW L) {n : Nat} (hn : n ≤ 40) : ∃ g1, fX7_go 446 29 (nI n) s = some g1 ∧ fX3_lastKind 447 g1 = some (nI (zla S L n)) ∧ zFS 446 g0 g1 := by
  obtain ⟨g1, a1, a2, a3⟩ := c_goAny hS e h0 eS hL (fun k q => nomatch q) hn
  rw [zahf_none] at a2
  exact ⟨g1, a1, c_lastKind a2.1 (zah_W hS.law n hL), a3⟩
theorem r_la {S : zS} {g0 s : zM} (hS : zSW S) (e : zRI S g0) (h0 : zFQ g0 s) {L : zL} (eR : zRR s L L.1 (zSB S).2.2.1) (hL : zLW L) {n : Nat} (hn : n ≤ 40) : ∃ g1, fX12_goesFor (nI n) s = some g1 ∧ fX12_last g1 = some (nI (zla S L n)) ∧ zFQ g0 g1 := by
  obtain ⟨g1, a1, a2, a3⟩ := r_goesFor (p := (L, (zSB S).2.2.1)) hS.law (e.fq hS h0).law eR hL hn
  exact ⟨g1, a1, r_last a2 (zah_W hS.law n hL), h0.trans a3⟩
/-- a row of SEND -/
def zrow (S : zS) (row : Nat) (sender temper : Int32) : zL := if row < 12 then (1, fun _ => row, fun _ => (zSB S).2.2.1, temper, sender, false, false) else (2, fun i => if i = 0 then row / 12 - 1 else row % 12, fun _ => (zSB S).2.2.1, temper, sender, false, false)
theorem zrow_W {S : zS} {row : Nat} (h : row < 156) {sender temper : Int32} : zLW (zrow S row sender temper) := by
  unfold zrow
  split
  · exact ⟨Nat.le_refl _, by show 1 ≤ 24; omega, fun i hi => by show row < 12; assumption⟩
  · refine ⟨by show 1 ≤ 2; omega, by show 2 ≤ 24; omega, fun i hi => ?_⟩
    show (if i = 0 then row / 12 - 1 else row % 12) < 12
    split <;> omega
theorem pk_rem12 {a : Nat} (ha : a < 2147483648) : nI a - nI a / 12 * 12 = nI (a % 12) := pk_rem (d := 12) ha (by omega) (by omega)
theorem c_lookAtRow {S : zS} {g0 g : zM} (hS : zSW S) (h0 : zFS 446 g0 g) {row : Nat} (h : row < 156) (sender temper : Int32) : ∃ g1, fX7_lookAtRow 446 (nI row) sender temper (zSB S).2.2.1 g = some g1 ∧ zSR g1 446 (zrow S row sender temper, (zSB S).2.2.1, none) ∧ zFS 446 g0 g1 := by
  obtain ⟨g1, a1, a2, a3⟩ := c_begin (g := g) (h := 447) temper sender
  have fin : ∀ (g2 : zM) (L : zL), zCM g2 447 L → zFS 446 g0 g2 → L.1 < 24 → ∃ g3, zb (fX3_add 447 (nI (row % 12)) (zSB S).2.2.1 g2) (fun g3 => some (zset (zset g3 446 1 (zSB S).2.2.1) 446 2 (-1))) = some g3 ∧ zSR g3 446 (zLadd L (row % 12) (zSB S).2.2.1, (zSB S).2.2.1, none) ∧ zFS 446 g0 g3 := by
    intro g2 L e2 f2 hl
    obtain ⟨g3, b1, b2, b3⟩ := c_add e2 hl (row % 12) (zSB S).2.2.1
    refine ⟨_, by rw [b1, zb_s], ⟨b2.fr ?_ ?_ ?_, ?_, ?_⟩, fun c h1 h2 h3 => ?_⟩
    · simp (disch := omega) only [nL_lt, nL_gt, nL_le, nL_ge, nL_eq, nL_qe, nI_ltI, nI_leI, nI_eq, nL_add, nL_dda, nI_add, nL_sub, pk_sub, nL_mul, nL_clamp, nI_cl, zchk_n, zchk_l, zb_s, zb2_s, zb3_s, zb3_e, zput_e, zjoin_e, zs_hit, zs_miss, nle_t, nle_f, nlt_t, nlt_f, neq_t, neq_f, ↓reduceIte, and_self, and_true, true_and, and_false, false_and, not_true_eq_false, not_false_eq_true, Nat.add_zero, zs_cell]
    · simp (disch := omega) only [nL_lt, nL_gt, nL_le, nL_ge, nL_eq, nL_qe, nI_ltI, nI_leI, nI_eq, nL_add, nL_dda, nI_add, nL_sub, pk_sub, nL_mul, nL_clamp, nI_cl, zchk_n, zchk_l, zb_s, zb2_s, zb3_s, zb3_e, zput_e, zjoin_e, zs_hit, zs_miss, nle_t, nle_f, nlt_t, nlt_f, neq_t, neq_f, ↓reduceIte, and_self, and_true, true_and, and_false, false_and, not_true_eq_false, not_false_eq_true, Nat.add_zero, zs_cell]
    · simp (disch := omega) only [nL_lt, nL_gt, nL_le, nL_ge, nL_eq, nL_qe, nI_ltI, nI_leI, nI_eq, nL_add, nL_dda, nI_add, nL_sub, pk_sub, nL_mul, nL_clamp, nI_cl, zchk_n, zchk_l, zb_s, zb2_s, zb3_s, zb3_e, zput_e, zjoin_e, zs_hit, zs_miss, nle_t, nle_f, nlt_t, nlt_f, neq_t, neq_f, ↓reduceIte, and_self, and_true, true_and, and_false, false_and, not_true_eq_false, not_false_eq_true, Nat.add_zero, zs_cell]
    · simp (disch := omega) only [nL_lt, nL_gt, nL_le, nL_ge, nL_eq, nL_qe, nI_ltI, nI_leI, nI_eq, nL_add, nL_dda, nI_add, nL_sub, pk_sub, nL_mul, nL_clamp, nI_cl, zchk_n, zchk_l, zb_s, zb2_s, zb3_s, zb3_e, zput_e, zjoin_e, zs_hit, zs_miss, nle_t, nle_f, nlt_t, nlt_f, neq_t, neq_f, ↓reduceIte, and_self, and_true, true_and, and_false, false_and, not_true_eq_false, not_false_eq_true, Nat.add_zero]
    · simp (disch := omega) only [nL_lt, nL_gt, nL_le, nL_ge, nL_eq, nL_qe, nI_ltI, nI_leI, nI_eq, nL_add, nL_dda, nI_add, nL_sub, pk_sub, nL_mul, nL_clamp, nI_cl, zchk_n, zchk_l, zb_s, zb2_s, zb3_s, zb3_e, zput_e, zjoin_e, zs_hit, zs_miss, nle_t, nle_f, nlt_t, nlt_f, neq_t, neq_f, ↓reduceIte, and_self, and_true, true_and, and_false, false_and, not_true_eq_false, not_false_eq_true, Nat.add_zero]; rfl
    · simp (disch := omega) only [nL_lt, nL_gt, nL_le, nL_ge, nL_eq, nL_qe, nI_ltI, nI_leI, nI_eq, nL_add, nL_dda, nI_add, nL_sub, pk_sub, nL_mul, nL_clamp, nI_cl, zchk_n, zchk_l, zb_s, zb2_s, zb3_s, zb3_e, zput_e, zjoin_e, zs_hit, zs_miss, nle_t, nle_f, nlt_t, nlt_f, neq_t, neq_f, ↓reduceIte, and_self, and_true, true_and, and_false, false_and, not_true_eq_false, not_false_eq_true, Nat.add_zero, zs_cell]; rw [b3 c (by omega) (by omega) (by omega)]; exact f2 c h1 h2 h3
  have f1 : zFS 446 g0 g1 := h0.trans (fun c _ _ h3 => a3 c (by omega))
  have conv : ∀ {g3 : zM} {L L' : zL}, zSR g3 446 (L, (zSB S).2.2.1, none) → L.1 = L'.1 → (∀ i, i < L.1 → L.2.1 i = L'.2.1 i ∧ L.2.2.1 i = L'.2.2.1 i) → L.2.2.2 = L'.2.2.2 → zSR g3 446 (L', (zSB S).2.2.1, none) := by
    intro g3 L L' hh q1 q2 q3
    obtain ⟨⟨c1, c2, c3, c4⟩, d⟩ := hh
    refine ⟨⟨by rw [← q1]; exact c1, fun i hi => ?_, fun i hi => ?_, ?_⟩, d⟩
    · have hi' : i < L.1 := by rw [q1]; exact hi
      rw [← (q2 i hi').1]; exact c2 i hi'
    · have hi' : i < L.1 := by rw [q1]; exact hi
      rw [← (q2 i hi').2]; exact c3 i hi'
    · rw [← q3]; exact c4
  unfold fX7_lookAtRow
  rw [a1]
  by_cases q : row < 12
  · obtain ⟨g3, b1, b2, b3⟩ := fin g1 _ (a2 (fun _ => 0) (fun _ => 0)) f1 (by show 0 < 24; omega)
    refine ⟨g3, ?_, conv b2 ?_ (fun i hi => ?_) ?_, b3⟩
    · simp (disch := omega) only [nL_lt, nL_gt, nL_le, nL_ge, nL_eq, nL_qe, nI_ltI, nI_leI, nI_eq, nL_add, nL_dda, nI_add, nL_sub, pk_sub, nL_mul, nL_clamp, nI_cl, zchk_n, zchk_l, zb_s, zb2_s, zb3_s, zb3_e, zput_e, zjoin_e, zs_hit, zs_miss, nle_t, nle_f, nlt_t, nlt_f, neq_t, neq_f, ↓reduceIte, and_self, and_true, true_and, and_false, false_and, not_true_eq_false, not_false_eq_true, Nat.add_zero, pk_rem12]
      exact b1
    · unfold zrow; rw [if_pos q]; rfl
    · have hi : i < 1 := hi
      obtain rfl : i = 0 := by omega
      unfold zrow
      rw [if_pos q]
      exact ⟨Nat.mod_eq_of_lt q, rfl⟩
    · unfold zrow; rw [if_pos q]; rfl
  · obtain ⟨g2, b1, b2, b3⟩ := c_add (a2 (fun _ => 0) (fun _ => 0)) (by show 0 < 24; omega) (row / 12 - 1) (zSB S).2.2.1
    obtain ⟨g3, d1, d2, d3⟩ := fin g2 _ b2 (f1.trans (fun c _ _ h3 => b3 c (by omega) (by omega) (by omega))) (by show 1 < 24; omega)
    refine ⟨g3, ?_, conv d2 ?_ (fun i hi => ?_) ?_, d3⟩
    · have hd : nI row / 12 - 1 = nI (row / 12 - 1) := by simp (disch := omega) only [nL_lt, nL_gt, nL_le, nL_ge, nL_eq, nL_qe, nI_ltI, nI_leI, nI_eq, nL_add, nL_dda, nI_add, nL_sub, pk_sub, nL_mul, nL_clamp, nI_cl, zchk_n, zchk_l, zb_s, zb2_s, zb3_s, zb3_e, zput_e, zjoin_e, zs_hit, zs_miss, nle_t, nle_f, nlt_t, nlt_f, neq_t, neq_f, ↓reduceIte, and_self, and_true, true_and, and_false, false_and, not_true_eq_false, not_false_eq_true, Nat.add_zero, nL_div]
      simp (disch := omega) only [nL_lt, nL_gt, nL_le, nL_ge, nL_eq, nL_qe, nI_ltI, nI_leI, nI_eq, nL_add, nL_dda, nI_add, nL_sub, pk_sub, nL_mul, nL_clamp, nI_cl, zchk_n, zchk_l, zb_s, zb2_s, zb3_s, zb3_e, zput_e, zjoin_e, zs_hit, zs_miss, nle_t, nle_f, nlt_t, nlt_f, neq_t, neq_f, ↓reduceIte, and_self, and_true, true_and, and_false, false_and, not_true_eq_false, not_false_eq_true, Nat.add_zero, pk_rem12, hd, b1]
      exact d1
    · unfold zrow; rw [if_neg q]; rfl
    · have hi : i < 2 := hi
      unfold zrow
      rw [if_neg q]
      rcases (show i = 0 ∨ i = 1 by omega) with rfl | rfl
      · exact ⟨rfl, rfl⟩
      · exact ⟨rfl, rfl⟩
    · unfold zrow; rw [if_neg q]; rfl
theorem r_leads {S : zS} {g0 g : zM} (hS : zSW S) (e : zRI S g0) (h0 : zFQ g0 g) {row : Nat} (h : row < 156) (sender temper : Int32) {k n : Nat} (hn : n ≤ 40) (hk : k < 12) : ∃ g1, fX12_leads (nI row) sender temper (nI k) (nI n) g = some (zbi (decide (zla S (zrow S row sender temper) n = k)), g1) ∧ zFQ g0 g1 := by
  have w4 : g 494 4 = (zSB S).2.2.1 := (e.fq hS h0).week
  have main : ∀ (m a b : Nat), m = (zrow S row sender temper).1 → (∀ i, i < (zrow S row sender temper).1 → (if i = 0 then a else b) = (zrow S row sender temper).2.1 i) → ∃ s, zset (zset (zset (zset (zset (zset (zset (zset g 493 19 (nI m)) 502 0 (nI a)) 502 1 (nI b)) 493 20 temper) 493 21 sender) 493 23 0) 493 24 0) 493 22 (g 494 4) = s ∧ zRR s (zrow S row sender temper) (zrow S row sender temper).1 (zSB S).2.2.1 ∧ zFQ g0 s := by
    intro m a b hm hab
    have hz : (zrow S row sender temper).2.2.2 = (temper, sender, false, false) := by unfold zrow; split <;> rfl
    have hle : (zrow S row sender temper).1 ≤ 2 := by
      unfold zrow
      split
      · show 1 ≤ 2
        omega
      · show 2 ≤ 2
        omega
    refine ⟨_, rfl, ⟨?_, fun i hi => ?_, ?_, ?_, ?_, ?_, ?_⟩, fun c h1 h2 h3 => ?_, fun k hk => ?_⟩
    · simp (disch := omega) only [nL_lt, nL_gt, nL_le, nL_ge, nL_eq, nL_qe, nI_ltI, nI_leI, nI_eq, nL_add, nL_dda, nI_add, nL_sub, pk_sub, nL_mul, nL_clamp, nI_cl, zchk_n, zchk_l, zb_s, zb2_s, zb3_s, zb3_e, zput_e, zjoin_e, zs_hit, zs_miss, nle_t, nle_f, nlt_t, nlt_f, neq_t, neq_f, ↓reduceIte, and_self, and_true, true_and, and_false, false_and, not_true_eq_false, not_false_eq_true, Nat.add_zero]
    · have := hab i hi
      rcases (show i = 0 ∨ i = 1 by omega) with rfl | rfl
      · simp (disch := omega) only [nL_lt, nL_gt, nL_le, nL_ge, nL_eq, nL_qe, nI_ltI, nI_leI, nI_eq, nL_add, nL_dda, nI_add, nL_sub, pk_sub, nL_mul, nL_clamp, nI_cl, zchk_n, zchk_l, zb_s, zb2_s, zb3_s, zb3_e, zput_e, zjoin_e, zs_hit, zs_miss, nle_t, nle_f, nlt_t, nlt_f, neq_t, neq_f, ↓reduceIte, and_self, and_true, true_and, and_false, false_and, not_true_eq_false, not_false_eq_true, Nat.add_zero]; rw [← this]; rfl
      · simp (disch := omega) only [nL_lt, nL_gt, nL_le, nL_ge, nL_eq, nL_qe, nI_ltI, nI_leI, nI_eq, nL_add, nL_dda, nI_add, nL_sub, pk_sub, nL_mul, nL_clamp, nI_cl, zchk_n, zchk_l, zb_s, zb2_s, zb3_s, zb3_e, zput_e, zjoin_e, zs_hit, zs_miss, nle_t, nle_f, nlt_t, nlt_f, neq_t, neq_f, ↓reduceIte, and_self, and_true, true_and, and_false, false_and, not_true_eq_false, not_false_eq_true, Nat.add_zero]; rw [← this]; rfl
    · simp (disch := omega) only [nL_lt, nL_gt, nL_le, nL_ge, nL_eq, nL_qe, nI_ltI, nI_leI, nI_eq, nL_add, nL_dda, nI_add, nL_sub, pk_sub, nL_mul, nL_clamp, nI_cl, zchk_n, zchk_l, zb_s, zb2_s, zb3_s, zb3_e, zput_e, zjoin_e, zs_hit, zs_miss, nle_t, nle_f, nlt_t, nlt_f, neq_t, neq_f, ↓reduceIte, and_self, and_true, true_and, and_false, false_and, not_true_eq_false, not_false_eq_true, Nat.add_zero, hz]
    · simp (disch := omega) only [nL_lt, nL_gt, nL_le, nL_ge, nL_eq, nL_qe, nI_ltI, nI_leI, nI_eq, nL_add, nL_dda, nI_add, nL_sub, pk_sub, nL_mul, nL_clamp, nI_cl, zchk_n, zchk_l, zb_s, zb2_s, zb3_s, zb3_e, zput_e, zjoin_e, zs_hit, zs_miss, nle_t, nle_f, nlt_t, nlt_f, neq_t, neq_f, ↓reduceIte, and_self, and_true, true_and, and_false, false_and, not_true_eq_false, not_false_eq_true, Nat.add_zero, hz]
    · simp (disch := omega) only [nL_lt, nL_gt, nL_le, nL_ge, nL_eq, nL_qe, nI_ltI, nI_leI, nI_eq, nL_add, nL_dda, nI_add, nL_sub, pk_sub, nL_mul, nL_clamp, nI_cl, zchk_n, zchk_l, zb_s, zb2_s, zb3_s, zb3_e, zput_e, zjoin_e, zs_hit, zs_miss, nle_t, nle_f, nlt_t, nlt_f, neq_t, neq_f, ↓reduceIte, and_self, and_true, true_and, and_false, false_and, not_true_eq_false, not_false_eq_true, Nat.add_zero]; exact w4
    · simp (disch := omega) only [nL_lt, nL_gt, nL_le, nL_ge, nL_eq, nL_qe, nI_ltI, nI_leI, nI_eq, nL_add, nL_dda, nI_add, nL_sub, pk_sub, nL_mul, nL_clamp, nI_cl, zchk_n, zchk_l, zb_s, zb2_s, zb3_s, zb3_e, zput_e, zjoin_e, zs_hit, zs_miss, nle_t, nle_f, nlt_t, nlt_f, neq_t, neq_f, ↓reduceIte, and_self, and_true, true_and, and_false, false_and, not_true_eq_false, not_false_eq_true, Nat.add_zero, hz]; rfl
    · simp (disch := omega) only [nL_lt, nL_gt, nL_le, nL_ge, nL_eq, nL_qe, nI_ltI, nI_leI, nI_eq, nL_add, nL_dda, nI_add, nL_sub, pk_sub, nL_mul, nL_clamp, nI_cl, zchk_n, zchk_l, zb_s, zb2_s, zb3_s, zb3_e, zput_e, zjoin_e, zs_hit, zs_miss, nle_t, nle_f, nlt_t, nlt_f, neq_t, neq_f, ↓reduceIte, and_self, and_true, true_and, and_false, false_and, not_true_eq_false, not_false_eq_true, Nat.add_zero, hz]; rfl
    · simp (disch := omega) only [nL_lt, nL_gt, nL_le, nL_ge, nL_eq, nL_qe, nI_ltI, nI_leI, nI_eq, nL_add, nL_dda, nI_add, nL_sub, pk_sub, nL_mul, nL_clamp, nI_cl, zchk_n, zchk_l, zb_s, zb2_s, zb3_s, zb3_e, zput_e, zjoin_e, zs_hit, zs_miss, nle_t, nle_f, nlt_t, nlt_f, neq_t, neq_f, ↓reduceIte, and_self, and_true, true_and, and_false, false_and, not_true_eq_false, not_false_eq_true, Nat.add_zero, zs_cell]; exact h0.1 c h1 h2 h3
    · simp (disch := omega) only [nL_lt, nL_gt, nL_le, nL_ge, nL_eq, nL_qe, nI_ltI, nI_leI, nI_eq, nL_add, nL_dda, nI_add, nL_sub, pk_sub, nL_mul, nL_clamp, nI_cl, zchk_n, zchk_l, zb_s, zb2_s, zb3_s, zb3_e, zput_e, zjoin_e, zs_hit, zs_miss, nle_t, nle_f, nlt_t, nlt_f, neq_t, neq_f, ↓reduceIte, and_self, and_true, true_and, and_false, false_and, not_true_eq_false, not_false_eq_true, Nat.add_zero]; exact h0.2 k hk
  have fin : ∀ s, zRR s (zrow S row sender temper) (zrow S row sender temper).1 (zSB S).2.2.1 → zFQ g0 s → ∃ g1, zb (fX12_goesFor (nI n) s) (fun g14 => zb (fX12_last g14) (fun r_15 => if r_15 = nI k then some ((1 : Int32), g14) else some (0, g14))) = some (zbi (decide (zla S (zrow S row sender temper) n = k)), g1) ∧ zFQ g0 g1 := by
    intro s hs fs
    obtain ⟨g1, a1, a2, a3⟩ := r_la hS e fs hs (zrow_W h) hn
    have := zla_lt hS (L := zrow S row sender temper) (zrow_W h) n
    refine ⟨g1, ?_, a3⟩
    rw [a1, zb_s, a2, zb_s]
    simp (disch := omega) only [nL_lt, nL_gt, nL_le, nL_ge, nL_eq, nL_qe, nI_ltI, nI_leI, nI_eq, nL_add, nL_dda, nI_add, nL_sub, pk_sub, nL_mul, nL_clamp, nI_cl, zchk_n, zchk_l, zb_s, zb2_s, zb3_s, zb3_e, zput_e, zjoin_e, zs_hit, zs_miss, nle_t, nle_f, nlt_t, nlt_f, neq_t, neq_f, ↓reduceIte, and_self, and_true, true_and, and_false, false_and, not_true_eq_false, not_false_eq_true, Nat.add_zero]
    by_cases q : zla S (zrow S row sender temper) n = k <;> simp [q, zbi]
  unfold fX12_leads
  by_cases q : row < 12
  · obtain ⟨s, s1, s2, s3⟩ := main 1 row (row % 12) (by unfold zrow; rw [if_pos q]) (fun i hi => by
      have hz : (zrow S row sender temper).1 = 1 := by unfold zrow; rw [if_pos q]
      obtain rfl : i = 0 := by omega
      unfold zrow; rw [if_pos q]; rfl)
    obtain ⟨g1, b1, b2⟩ := fin s s2 s3
    refine ⟨g1, ?_, b2⟩
    simp (disch := omega) only [nL_lt, nL_gt, nL_le, nL_ge, nL_eq, nL_qe, nI_ltI, nI_leI, nI_eq, nL_add, nL_dda, nI_add, nL_sub, pk_sub, nL_mul, nL_clamp, nI_cl, zchk_n, zchk_l, zb_s, zb2_s, zb3_s, zb3_e, zput_e, zjoin_e, zs_hit, zs_miss, nle_t, nle_f, nlt_t, nlt_f, neq_t, neq_f, ↓reduceIte, and_self, and_true, true_and, and_false, false_and, not_true_eq_false, not_false_eq_true, Nat.add_zero, pk_rem12]
    rw [show (1 : Int32) = nI 1 from rfl, s1]
    exact b1
  · obtain ⟨s, s1, s2, s3⟩ := main 2 (row / 12 - 1) (row % 12) (by unfold zrow; rw [if_neg q]) (fun i hi => by
      unfold zrow; rw [if_neg q])
    obtain ⟨g1, b1, b2⟩ := fin s s2 s3
    refine ⟨g1, ?_, b2⟩
    have hd : (nI row - 12) / 12 = nI (row / 12 - 1) := by
      rw [nL_sub (by show 12 ≤ row; omega), nL_div (by show row - 12 < _; omega) (by decide) (by decide)]
      congr 1
      show (row - 12) / 12 = row / 12 - 1
      omega
    have hd2 : nI (row - 12) / 12 = nI (row / 12 - 1) := by rw [← hd, nL_sub (by show 12 ≤ row; omega)]
    simp (disch := omega) only [nL_lt, nL_gt, nL_le, nL_ge, nL_eq, nL_qe, nI_ltI, nI_leI, nI_eq, nL_add, nL_dda, nI_add, nL_sub, pk_sub, nL_mul, nL_clamp, nI_cl, zchk_n, zchk_l, zb_s, zb2_s, zb3_s, zb3_e, zput_e, zjoin_e, zs_hit, zs_miss, nle_t, nle_f, nlt_t, nlt_f, neq_t, neq_f, ↓reduceIte, and_self, and_true, true_and, and_false, false_and, not_true_eq_false, not_false_eq_true, Nat.add_zero, pk_rem12, hd2]
    rw [show (2 : Int32) = nI 2 from rfl, s1]
    exact b1
/-- how many of the first rows do -/
def zct (p : Nat → Bool) : Nat → Nat
  | 0 => 0
  | i + 1 => zct p i + (if p i = true then 1 else 0)
theorem zct_le (p : Nat → Bool) : ∀ i, zct p i ≤ i
  | 0 => Nat.le_refl _
  | i + 1 => by
    have := zct_le p i
    show zct p i + _ ≤ _
    split <;> omega
theorem m_send {S : zS} (hS : zSW S) (sv tv kv nv : Int32) (b : Bool) : zAsk [1, 2] S (fX11_send sv tv kv nv (zbi b)) (fX12_send sv tv kv nv (zbi b)) := by
  rcases zix kv (n := 12) (by omega) with h | ⟨k, hk, rfl⟩
  · refine ⟨.error 1, fun g e => ⟨g, ?_, .refl⟩, fun g e => zRa_err2 (t := 1) (b := 0) ?_ (by decide)⟩
    · unfold fX11_send; rw [c_needKind_no h, zb3_e]
    · unfold fX12_send; simp only [zb_s, zb2_s, zb3_s, zb3_e, zjoin_e, zput_e, r_thr0, r_thr1, zi10, zi01, if_true, if_false, r_noKind_no h]
  rcases zix sv (n := 10) (by omega) with h | ⟨sd, hsd, rfl⟩
  · refine ⟨.error 2, fun g e => ⟨g, ?_, .refl⟩, fun g e => zRa_err2 (t := 2) (b := 0) ?_ (by decide)⟩
    · unfold fX11_send fX11_needDigit; rw [c_needKind hk, zb3_s, c_isNoDigit_no h, zb_s, if_neg (by decide), zb3_e]
    · unfold fX12_send; simp only [zb_s, zb2_s, zb3_s, zb3_e, zjoin_e, zput_e, r_thr0, r_thr1, zi10, zi01, if_true, if_false, r_noKind hk, r_noSender_no1 h]
  rcases zix tv (n := 10) (by omega) with h | ⟨td, htd, rfl⟩
  · refine ⟨.error 2, fun g e => ⟨g, ?_, .refl⟩, fun g e => zRa_err2 (t := 2) (b := 0) ?_ (by decide)⟩
    · unfold fX11_send fX11_needDigit; rw [c_needKind hk, zb3_s, c_isNoDigit hsd, zb_s, if_pos rfl, zb3_s, c_isNoDigit_no h, zb_s, if_neg (by decide), zb3_e]
    · unfold fX12_send; simp only [zb_s, zb2_s, zb3_s, zb3_e, zjoin_e, zput_e, r_thr0, r_thr1, zi10, zi01, if_true, if_false, r_noKind hk, r_noSender_no2 hsd h]
  rcases zix nv (n := 41) (by omega) with h | ⟨n, hn, rfl⟩
  · refine ⟨.error 2, fun g e => ⟨g, ?_, .refl⟩, fun g e => zRa_err2 (t := 2) (b := 0) ?_ (by decide)⟩
    · unfold fX11_send fX11_needDigit; rw [c_needKind hk, zb3_s, c_isNoDigit hsd, zb_s, if_pos rfl, zb3_s, c_isNoDigit htd, zb_s, if_pos rfl, zb3_s, show fX11_needAhead nv 0 g = _ from c_needAhead_no h (m := 0) (by omega), zb3_e]
    · unfold fX12_send; simp only [zb_s, zb2_s, zb3_s, zb3_e, zjoin_e, zput_e, r_thr0, r_thr1, zi10, zi01, if_true, if_false, r_noKind hk, r_noSender hsd htd, r_noAhead_no h]
  have hb : ∃ p : Nat → Bool, ∀ row, p row = decide (zla S (zrow S row (nI sd) (nI td)) n = k) := ⟨_, fun _ => rfl⟩
  obtain ⟨p, hp⟩ := hb
  refine ⟨.ok (if b = true then nI (zct p 156) else zoi (zff p 156)), fun g e => ?_, fun g e => ?_⟩
  · have main : ∃ g2, fX11_send_L24 (nI sd) (nI td) (nI k) (nI n) (zbi b) (fun v6_11 g11 => if zbi b = 0 then some (.ok ((-1)), g11) else some (.ok v6_11, g11)) zFU 0 0 g = some (.ok (if b = true then nI (zct p 156) else zoi (zff p 156)), g2) ∧ zFC g g2 := by
      refine zL_Q0 (fun n' i (st : Int32 × zM) => fX11_send_L24 (nI sd) (nI td) (nI k) (nI n) (zbi b) (fun v6_11 g11 => if zbi b = 0 then some (.ok ((-1)), g11) else some (.ok v6_11, g11)) n' st.1 (nI i) st.2) (fun i st => zFS 446 g st.2 ∧ st.1 = nI (zct p i) ∧ (b = false → ∀ j, j < i → p j = false)) 156 (fun x => ∃ g2, x = some (.ok (if b = true then nI (zct p 156) else zoi (zff p 156)), g2) ∧ zFC g g2) (0, g) (by omega) ⟨.refl, rfl, fun _ j hj => absurd hj (by omega)⟩ (fun n' i st hi hh => ?_) (fun n' st hh => ?_)
      · obtain ⟨st, s⟩ := st
        obtain ⟨b1, b2, b3⟩ := hh
        have b1 : zFS 446 g s := b1
        have b2 : st = nI (zct p i) := b2
        subst b2
        have es : zCI S s := e.fr hS (b1.fc (by omega))
        obtain ⟨s1, c1, c2, c3⟩ := c_lookAtRow hS b1 hi (nI sd) (nI td)
        obtain ⟨s2, d1, d2, d3⟩ := c_la hS e c3 c2 (zrow_W hi) (n := n) (by omega)
        have hzl := zla_lt hS (L := zrow S i (nI sd) (nI td)) (zrow_W hi) n
        simp only [fX11_send_L24, es.week]
        by_cases q : zla S (zrow S i (nI sd) (nI td)) n = k
        · have hpi : p i = true := by rw [hp]; simp [q]
          cases b
          · left
            rw [zff_some hi (b3 rfl) hpi]
            refine ⟨s2, ?_, d3.fc (by omega)⟩
            simp (disch := omega) only [nL_lt, nL_gt, nL_le, nL_ge, nL_eq, nL_qe, nI_ltI, nI_leI, nI_eq, nL_add, nL_dda, nI_add, nL_sub, pk_sub, nL_mul, nL_clamp, nI_cl, zchk_n, zchk_l, zb_s, zb2_s, zb3_s, zb3_e, zput_e, zjoin_e, zs_hit, zs_miss, nle_t, nle_f, nlt_t, nlt_f, neq_t, neq_f, ↓reduceIte, and_self, and_true, true_and, and_false, false_and, not_true_eq_false, not_false_eq_true, Nat.add_zero, c1, d1, d2, zbi_f, Bool.false_eq_true]
            rfl
          · right
            refine ⟨(nI (zct p (i + 1)), s2), ⟨d3, rfl, fun q => nomatch q⟩, ?_⟩
            have hz : zct p (i + 1) = zct p i + 1 := by show zct p i + (if p i = true then 1 else 0) = _; rw [if_pos hpi]
            rw [hz]
            simp (disch := omega) only [nL_lt, nL_gt, nL_le, nL_ge, nL_eq, nL_qe, nI_ltI, nI_leI, nI_eq, nL_add, nL_dda, nI_add, nL_sub, pk_sub, nL_mul, nL_clamp, nI_cl, zchk_n, zchk_l, zb_s, zb2_s, zb3_s, zb3_e, zput_e, zjoin_e, zs_hit, zs_miss, nle_t, nle_f, nlt_t, nlt_f, neq_t, neq_f, ↓reduceIte, and_self, and_true, true_and, and_false, false_and, not_true_eq_false, not_false_eq_true, Nat.add_zero, c1, d1, d2, zbi_t, zi10]
        · have hpi : p i = false := by rw [hp]; simp [q]
          have hz : zct p (i + 1) = zct p i := by show zct p i + (if p i = true then 1 else 0) = _; rw [if_neg (by rw [hpi]; decide)]; rfl
          right
          refine ⟨(nI (zct p (i + 1)), s2), ⟨d3, rfl, fun q j hj => ?_⟩, ?_⟩
          · rcases Nat.lt_succ_iff_lt_or_eq.mp hj with q4 | q4
            · exact b3 q j q4
            · rw [q4]; exact hpi
          · rw [hz]
            simp (disch := omega) only [nL_lt, nL_gt, nL_le, nL_ge, nL_eq, nL_qe, nI_ltI, nI_leI, nI_eq, nL_add, nL_dda, nI_add, nL_sub, pk_sub, nL_mul, nL_clamp, nI_cl, zchk_n, zchk_l, zb_s, zb2_s, zb3_s, zb3_e, zput_e, zjoin_e, zs_hit, zs_miss, nle_t, nle_f, nlt_t, nlt_f, neq_t, neq_f, ↓reduceIte, and_self, and_true, true_and, and_false, false_and, not_true_eq_false, not_false_eq_true, Nat.add_zero, c1, d1, d2]
      · obtain ⟨st, s⟩ := st
        obtain ⟨b1, b2, b3⟩ := hh
        have b1 : zFS 446 g s := b1
        have b2 : st = nI (zct p 156) := b2
        refine ⟨s, ?_, b1.fc (by omega)⟩
        rw [← b2]
        simp only [fX11_send_L24]
        simp (disch := omega) only [nL_lt, nL_gt, nL_le, nL_ge, nL_eq, nL_qe, nI_ltI, nI_leI, nI_eq, nL_add, nL_dda, nI_add, nL_sub, pk_sub, nL_mul, nL_clamp, nI_cl, zchk_n, zchk_l, zb_s, zb2_s, zb3_s, zb3_e, zput_e, zjoin_e, zs_hit, zs_miss, nle_t, nle_f, nlt_t, nlt_f, neq_t, neq_f, ↓reduceIte, and_self, and_true, true_and, and_false, false_and, not_true_eq_false, not_false_eq_true, Nat.add_zero]
        cases b
        · rw [zff_none (b3 rfl)]
          simp [zbi, zoi_none]
        · simp [zbi]
    obtain ⟨g2, a1, a2⟩ := main
    refine ⟨g2, ?_, a2⟩
    unfold fX11_send fX11_needDigit
    rw [c_needKind hk, zb3_s, c_isNoDigit hsd, zb_s, if_pos rfl, zb3_s, c_isNoDigit htd, zb_s, if_pos rfl, zb3_s, show fX11_needAhead (nI n) 0 g = _ from c_needAhead (m := 0) hn (by omega), zb3_s]
    exact a1
  · have e0 := e.thr hS 0
    have main : ∃ g2, fX12_send_L57 (nI sd) (nI td) (nI k) (nI n) (zbi b) (fun v6_13 v7_13 g13 => if zbi b = 0 then some (v6_13, g13) else some (v7_13, g13)) zFU (-1) 0 0 (zset g 493 0 0) = some (if b = true then nI (zct p 156) else zoi (zff p 156), g2) ∧ zFQ (zset g 493 0 0) g2 := by
      refine zL_Q0 (fun n' i (st : (Int32 × Int32) × zM) => fX12_send_L57 (nI sd) (nI td) (nI k) (nI n) (zbi b) (fun v6_13 v7_13 g13 => if zbi b = 0 then some (v6_13, g13) else some (v7_13, g13)) n' st.1.1 st.1.2 (nI i) st.2) (fun i st => zFQ (zset g 493 0 0) st.2 ∧ st.1.2 = nI (zct p i) ∧ st.1.1 = zoi (zff p i)) 156 (fun x => ∃ g2, x = some (if b = true then nI (zct p 156) else zoi (zff p 156), g2) ∧ zFQ (zset g 493 0 0) g2) ((-1, 0), zset g 493 0 0) (by omega) ⟨.refl, rfl, rfl⟩ (fun n' i st hi hh => ?_) (fun n' st hh => ?_)
      · obtain ⟨⟨x, y⟩, s⟩ := st
        obtain ⟨b1, b2, b3⟩ := hh
        have b1 : zFQ (zset g 493 0 0) s := b1
        have b2 : y = nI (zct p i) := b2
        have b3 : x = zoi (zff p i) := b3
        subst b2
        subst b3
        obtain ⟨s1, c1, c2⟩ := r_leads hS e0 b1 hi (nI sd) (nI td) (k := k) (n := n) (by omega) hk
        right
        refine ⟨((zoi (zff p (i + 1)), nI (zct p (i + 1))), s1), ⟨c2, rfl, rfl⟩, ?_⟩
        simp only [fX12_send_L57]
        simp (disch := omega) only [nL_lt, nL_gt, nL_le, nL_ge, nL_eq, nL_qe, nI_ltI, nI_leI, nI_eq, nL_add, nL_dda, nI_add, nL_sub, pk_sub, nL_mul, nL_clamp, nI_cl, zchk_n, zchk_l, zb_s, zb2_s, zb3_s, zb3_e, zput_e, zjoin_e, zs_hit, zs_miss, nle_t, nle_f, nlt_t, nlt_f, neq_t, neq_f, ↓reduceIte, and_self, and_true, true_and, and_false, false_and, not_true_eq_false, not_false_eq_true, Nat.add_zero, c1]
        rw [← hp]
        cases q : p i
        · have hz : zct p (i + 1) = zct p i := by show zct p i + (if p i = true then 1 else 0) = _; rw [if_neg (by rw [q]; decide)]; rfl
          have hf : zff p (i + 1) = zff p i := by
            cases q2 : zff p i with
            | none =>
              apply zff_none
              intro j hj
              rcases Nat.lt_succ_iff_lt_or_eq.mp hj with q3 | q3
              · unfold zff at q2
                rw [List.find?_eq_none] at q2
                have := q2 j (List.mem_range.mpr q3)
                cases r : p j
                · rfl
                · exact absurd r this
              · rw [q3]; exact q
            | some t =>
              have := zff_lt q2
              exact zff_some (by omega) this.2.2 this.2.1
          rw [hz, hf]
          simp [zbi]
        · have hz : zct p (i + 1) = zct p i + 1 := by show zct p i + (if p i = true then 1 else 0) = _; rw [if_pos q]
          rw [hz]
          simp (disch := omega) only [nL_lt, nL_gt, nL_le, nL_ge, nL_eq, nL_qe, nI_ltI, nI_leI, nI_eq, nL_add, nL_dda, nI_add, nL_sub, pk_sub, nL_mul, nL_clamp, nI_cl, zchk_n, zchk_l, zb_s, zb2_s, zb3_s, zb3_e, zput_e, zjoin_e, zs_hit, zs_miss, nle_t, nle_f, nlt_t, nlt_f, neq_t, neq_f, ↓reduceIte, and_self, and_true, true_and, and_false, false_and, not_true_eq_false, not_false_eq_true, Nat.add_zero, zbi_t, zi10]
          cases q2 : zff p i with
          | none =>
            have hf : zff p (i + 1) = some i := by
              refine zff_some (by omega) (fun j hj => ?_) q
              unfold zff at q2
              rw [List.find?_eq_none] at q2
              have := q2 j (List.mem_range.mpr hj)
              cases r : p j
              · rfl
              · exact absurd r this
            rw [hf]
            simp (disch := omega) only [nL_lt, nL_gt, nL_le, nL_ge, nL_eq, nL_qe, nI_ltI, nI_leI, nI_eq, nL_add, nL_dda, nI_add, nL_sub, pk_sub, nL_mul, nL_clamp, nI_cl, zchk_n, zchk_l, zb_s, zb2_s, zb3_s, zb3_e, zput_e, zjoin_e, zs_hit, zs_miss, nle_t, nle_f, nlt_t, nlt_f, neq_t, neq_f, ↓reduceIte, and_self, and_true, true_and, and_false, false_and, not_true_eq_false, not_false_eq_true, Nat.add_zero, zoi_none, zoi_some, show ((0 : Int32) ≤ -1) = False from by decide]
          | some t =>
            have h3 := zff_lt q2
            have hf : zff p (i + 1) = some t := zff_some (by omega) h3.2.2 h3.2.1
            rw [hf]
            simp (disch := omega) only [nL_lt, nL_gt, nL_le, nL_ge, nL_eq, nL_qe, nI_ltI, nI_leI, nI_eq, nL_add, nL_dda, nI_add, nL_sub, pk_sub, nL_mul, nL_clamp, nI_cl, zchk_n, zchk_l, zb_s, zb2_s, zb3_s, zb3_e, zput_e, zjoin_e, zs_hit, zs_miss, nle_t, nle_f, nlt_t, nlt_f, neq_t, neq_f, ↓reduceIte, and_self, and_true, true_and, and_false, false_and, not_true_eq_false, not_false_eq_true, Nat.add_zero, zoi_some]
      · obtain ⟨⟨x, y⟩, s⟩ := st
        obtain ⟨b1, b2, b3⟩ := hh
        have b1 : zFQ (zset g 493 0 0) s := b1
        have b2 : y = nI (zct p 156) := b2
        have b3 : x = zoi (zff p 156) := b3
        refine ⟨s, ?_, b1⟩
        rw [← b2, ← b3]
        simp only [fX12_send_L57]
        simp (disch := omega) only [nL_lt, nL_gt, nL_le, nL_ge, nL_eq, nL_qe, nI_ltI, nI_leI, nI_eq, nL_add, nL_dda, nI_add, nL_sub, pk_sub, nL_mul, nL_clamp, nI_cl, zchk_n, zchk_l, zb_s, zb2_s, zb3_s, zb3_e, zput_e, zjoin_e, zs_hit, zs_miss, nle_t, nle_f, nlt_t, nlt_f, neq_t, neq_f, ↓reduceIte, and_self, and_true, true_and, and_false, false_and, not_true_eq_false, not_false_eq_true, Nat.add_zero]
        cases b <;> simp [zbi]
    obtain ⟨g2, a1, a2⟩ := main
    refine zRa_ok (g1 := g2) ?_ a2
    unfold fX12_send
    simp only [zb_s, zb2_s, zb3_s, zb3_e, zjoin_e, zput_e, r_thr0, r_thr1, zi10, zi01, if_true, if_false, r_noKind hk, r_noSender hsd htd, r_noAhead hn]
    exact a1
