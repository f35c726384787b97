/-! WEEKS with draws, the reference -/
def zSset (S : zS) (B : zB') : zS := (S.1, S.2.1, S.2.2.1, (B, S.2.2.2.1.2), S.2.2.2.2)
theorem zSset_W {S : zS} (hS : zSW S) {B : zB'} (hB : zBW B) : zSW (zSset S B) := ⟨hS.1, hS.2.1, ⟨hB, hS.2.2.1.2⟩, hS.2.2.2⟩
abbrev zSslip (S : zS) : Int32 := S.2.2.2.1.2.2.2.2.2.2.1
/-- what a week of the reference leaves alone -/
def zFO (g g1 : zM) : Prop := (∀ c, c ≠ 493 → c ≠ 494 → c ≠ 501 → c ≠ 502 → g1 c = g c) ∧ (∀ k, k < 19 → g1 493 k = g 493 k) ∧ (∀ k, 460 ≤ k → g1 494 k = g 494 k) ∧ ∀ k, k < 36 → k ≠ 0 → k ≠ 4 → k ≠ 6 → k ≠ 7 → g1 494 k = g 494 k
theorem zFO.refl {g : zM} : zFO g g := ⟨fun _ _ _ _ _ => rfl, fun _ _ => rfl, fun _ _ => rfl, fun _ _ _ _ _ _ => rfl⟩
theorem zFO.trans {g g1 g2 : zM} (a : zFO g g1) (b : zFO g1 g2) : zFO g g2 := ⟨fun c h1 h2 h3 h4 => (b.1 c h1 h2 h3 h4).trans (a.1 c h1 h2 h3 h4), fun k h => (b.2.1 k h).trans (a.2.1 k h), fun k h => (b.2.2.1 k h).trans (a.2.2.1 k h), fun k h1 h2 h3 h4 h5 => (b.2.2.2 k h1 h2 h3 h4 h5).trans (a.2.2.2 k h1 h2 h3 h4 h5)⟩
theorem zFQ.fo {g g1 : zM} (f : zFQ g g1) : zFO g g1 := ⟨fun c h1 _ h3 h4 => f.1 c h1 h3 h4, f.2, fun k _ => by rw [f.1 494 (by omega) (by omega) (by omega)], fun k _ _ _ _ _ => by rw [f.1 494 (by omega) (by omega) (by omega)]⟩
theorem zRI.bag {S : zS} {g g1 : zM} (e : zRI S g) (hS : zSW S) {B : zB'} (f : zFO g g1) (hB : zRB g1 494 0 B) : zRI (zSset S B) g1 := by
  obtain ⟨e1, e2, e3, ⟨w1, w2, w3, w4, w5, w6, w7⟩, e5, e6, e7, e8⟩ := e
  obtain ⟨f1, f2, f3, f4⟩ := f
  have h8 := hS.proms
  refine ⟨by rw [f2 9 (by omega)]; exact e1, fun i hi => by rw [f1 499 (by omega) (by omega) (by omega) (by omega)]; exact e2 i hi, by rw [f2 14 (by omega)]; exact e3, ⟨hB, w2.fr hS.law (fun k hk => ?_), fun k hk => by rw [f4 _ (by omega) (by omega) (by omega) (by omega) (by omega)]; exact w3 k hk, by rw [f4 _ (by omega) (by omega) (by omega) (by omega) (by omega)]; exact w4, fun p hp => ?_, by rw [f4 _ (by omega) (by omega) (by omega) (by omega) (by omega)]; exact w6, by rw [f4 _ (by omega) (by omega) (by omega) (by omega) (by omega)]; exact w7⟩, by rw [f2 6 (by omega)]; exact e5, fun q => (e6 q).fr (hS.2.2.2.1 q) (fun k _ => by rw [f1 495 (by omega) (by omega) (by omega) (by omega)]), by rw [f2 7 (by omega)]; exact e7, fun j hj => ⟨(e8 j hj).1.fr (hS.2.2.2.2.2 j hj) (fun k _ _ => by rw [f1 498 (by omega) (by omega) (by omega) (by omega)]), fun c h1 h2 h3 h4 h5 => ?_⟩⟩
  · rcases hk with rfl | hk
    · exact f4 3 (by omega) (by omega) (by omega) (by omega) (by omega)
    · exact f3 k hk.1
  · have hp' : p < (zSV S).2.2.2.1 := hp
    rw [f4 _ (by omega) (by omega) (by omega) (by omega) (by omega), f4 _ (by omega) (by omega) (by omega) (by omega) (by omega)]
    exact w5 p hp
  · rw [f1 498 (by omega) (by omega) (by omega) (by omega), f4 c h1 h2 h3 h4 h5]
    exact (e8 j hj).2 c h1 h2 h3 h4 h5
theorem r_comes {g : zM} {B : zB'} (e : zRB g 494 0 B) (hB : zBW B) {l k : Nat} (hl : l < B.1) (h24 : (B.2.1 l).1 < 24) : ∃ g1, fX12_comes (nI l) (nI k) g = some g1 ∧ zRB g1 494 0 (zBset B l (zLadd (B.2.1 l) k B.2.2.1)) ∧ (∀ c, c ≠ 494 → g1 c = g c) ∧ ∀ x, x < 36 ∨ 460 ≤ x → g1 494 x = g 494 x := by
  have h8 := hB.1
  obtain ⟨e1, e2, e3, e4, e5⟩ := e
  simp only [Nat.zero_add] at e1 e2 e3 e4 e5
  obtain ⟨l1, l2, l3, l4, l5, l6, l7⟩ := e2 l hl
  have hln : fX12_lines (nI l) g = some (nI (B.2.1 l).1) := by
    unfold fX12_lines fX12_of fX12_at
    simp (disch := omega) only [nL_lt, nL_gt, nL_le, nL_ge, nL_eq, nL_qe, nI_ltI, nI_leI, nI_eq, nL_add, nL_dda, nI_add, nL_sub, pk_sub, nL_mul, nL_clamp, nI_cl, zchk_n, zchk_l, zb_s, zb2_s, zb3_s, zb3_e, zput_e, zjoin_e, zs_hit, zs_miss, nle_t, nle_f, nlt_t, nlt_f, neq_t, neq_f, ↓reduceIte, and_self, and_true, true_and, and_false, false_and, not_true_eq_false, not_false_eq_true, Nat.add_zero, l1]
  unfold fX12_comes
  rw [hln, zb_s]
  unfold fX12_at
  simp (disch := omega) only [nL_lt, nL_gt, nL_le, nL_ge, nL_eq, nL_qe, nI_ltI, nI_leI, nI_eq, nL_add, nL_dda, nI_add, nL_sub, pk_sub, nL_mul, nL_clamp, nI_cl, zchk_n, zchk_l, zb_s, zb2_s, zb3_s, zb3_e, zput_e, zjoin_e, zs_hit, zs_miss, nle_t, nle_f, nlt_t, nlt_f, neq_t, neq_f, ↓reduceIte, and_self, and_true, true_and, and_false, false_and, not_true_eq_false, not_false_eq_true, Nat.add_zero, e3]
  generalize hn : (B.2.1 l).1 = n at *
  have l1' : g 494 (36 + 53 * l) + 1 = nI (n + 1) := by rw [l1, nI_1]
  rw [l1']
  have hpos : ∀ x, zset (zset (zset g 494 (36 + 53 * l + (5 + n)) (nI k)) 494 (36 + 53 * l + (29 + n)) B.2.2.1) 494 (36 + 53 * l) (nI (n + 1)) 494 x = if x = 36 + 53 * l then nI (n + 1) else if x = 36 + 53 * l + (29 + n) then B.2.2.1 else if x = 36 + 53 * l + (5 + n) then nI k else g 494 x := by
    intro x
    by_cases q1 : x = 36 + 53 * l
    · rw [if_pos q1, zs_hit ⟨rfl, q1⟩]
    · rw [if_neg q1, zs_miss (fun h => q1 h.2)]
      by_cases q2 : x = 36 + 53 * l + (29 + n)
      · rw [if_pos q2, zs_hit ⟨rfl, q2⟩]
      · rw [if_neg q2, zs_miss (fun h => q2 h.2)]
        by_cases q3 : x = 36 + 53 * l + (5 + n)
        · rw [if_pos q3, zs_hit ⟨rfl, q3⟩]
        · rw [if_neg q3, zs_miss (fun h => q3 h.2)]
  refine ⟨_, rfl, ⟨?_, fun m hm => ?_, ?_, ?_, ?_⟩, fun c hc => by rw [zs_cell hc, zs_cell hc, zs_cell hc], fun x hx => ?_⟩
  · rw [hpos, if_neg (by omega), if_neg (by omega), if_neg (by omega)]; exact e1
  · have hm' : m < B.1 := hm
    show zRM _ 494 (0 + 36 + 53 * m) (zup B.2.1 l (zLadd (B.2.1 l) k B.2.2.1) m)
    rw [Nat.zero_add]
    by_cases q : m = l
    · subst q
      rw [zup_hit rfl]
      refine ⟨?_, fun i hi => ?_, fun i hi => ?_, ?_, ?_, ?_, ?_⟩
      · rw [hpos, if_pos rfl]
        show _ = nI ((B.2.1 m).1 + 1)
        rw [hn]
      · have hi' : i < (B.2.1 m).1 + 1 := hi
        rw [hn] at hi'
        show _ = nI (zup (B.2.1 m).2.1 (B.2.1 m).1 k i)
        rw [hpos, hn, if_neg (by omega)]
        by_cases q2 : i = n
        · subst q2
          rw [if_neg (by omega), if_pos (by omega), zup_hit rfl]
        · rw [if_neg (by omega), if_neg (by omega), zup_miss q2]
          exact l2 i (by omega)
      · have hi' : i < (B.2.1 m).1 + 1 := hi
        rw [hn] at hi'
        show _ = zup (B.2.1 m).2.2.1 (B.2.1 m).1 B.2.2.1 i
        rw [hpos, hn, if_neg (by omega)]
        by_cases q2 : i = n
        · subst q2
          rw [if_pos (by omega), zup_hit rfl]
        · rw [if_neg (by omega), if_neg (by omega), zup_miss q2]
          exact l3 i (by omega)
      · rw [hpos, if_neg (by omega), if_neg (by omega), if_neg (by omega)]; exact l4
      · rw [hpos, if_neg (by omega), if_neg (by omega), if_neg (by omega)]; exact l5
      · rw [hpos, if_neg (by omega), if_neg (by omega), if_neg (by omega)]; exact l6
      · rw [hpos, if_neg (by omega), if_neg (by omega), if_neg (by omega)]; exact l7
    · rw [zup_miss q]
      refine (e2 m hm').fr (fun x h1 h2 => ?_) (hB.2 m hm').2.1
      rw [hpos]
      rcases Nat.lt_or_ge m l with q2 | q2
      · rw [if_neg (by omega), if_neg (by omega), if_neg (by omega)]
      · rw [if_neg (by omega), if_neg (by omega), if_neg (by omega)]
  · rw [hpos, if_neg (by omega), if_neg (by omega), if_neg (by omega)]; exact e3
  · rw [hpos, if_neg (by omega), if_neg (by omega), if_neg (by omega)]; exact e4
  · rw [hpos, if_neg (by omega), if_neg (by omega), if_neg (by omega)]; exact e5
  · rw [hpos, if_neg (by omega), if_neg (by omega), if_neg (by omega)]
theorem zRB.seed {g : zM} {B : zB'} (e : zRB g 494 0 B) (s : Int32) : zRB (zset g 494 7 s) 494 0 (zBseed B s) := by
  obtain ⟨e1, e2, e3, e4, e5⟩ := e
  simp only [Nat.zero_add] at e1 e2 e3 e4 e5
  refine ⟨?_, fun m hm => ?_, ?_, ?_, ?_⟩
  · simp (disch := omega) only [nL_lt, nL_gt, nL_le, nL_ge, nL_eq, nL_qe, nI_ltI, nI_leI, nI_eq, nL_add, nL_dda, nI_add, nL_sub, pk_sub, nL_mul, nL_clamp, nI_cl, zchk_n, zchk_l, zb_s, zb2_s, zb3_s, zb3_e, zput_e, zjoin_e, zs_hit, zs_miss, nle_t, nle_f, nlt_t, nlt_f, neq_t, neq_f, ↓reduceIte, and_self, and_true, true_and, and_false, false_and, not_true_eq_false, not_false_eq_true, Nat.add_zero]; exact e1
  · show zRM _ 494 (0 + 36 + 53 * m) (B.2.1 m)
    rw [Nat.zero_add]
    obtain ⟨l1, l2, l3, l4, l5, l6, l7⟩ := e2 m hm
    refine ⟨?_, fun i hi => ?_, fun i hi => ?_, ?_, ?_, ?_, ?_⟩ <;> rw [zs_miss (by omega)] <;> first | exact l2 i hi | exact l3 i hi | assumption
  · simp (disch := omega) only [nL_lt, nL_gt, nL_le, nL_ge, nL_eq, nL_qe, nI_ltI, nI_leI, nI_eq, nL_add, nL_dda, nI_add, nL_sub, pk_sub, nL_mul, nL_clamp, nI_cl, zchk_n, zchk_l, zb_s, zb2_s, zb3_s, zb3_e, zput_e, zjoin_e, zs_hit, zs_miss, nle_t, nle_f, nlt_t, nlt_f, neq_t, neq_f, ↓reduceIte, and_self, and_true, true_and, and_false, false_and, not_true_eq_false, not_false_eq_true, Nat.add_zero]; exact e3
  · simp (disch := omega) only [nL_lt, nL_gt, nL_le, nL_ge, nL_eq, nL_qe, nI_ltI, nI_leI, nI_eq, nL_add, nL_dda, nI_add, nL_sub, pk_sub, nL_mul, nL_clamp, nI_cl, zchk_n, zchk_l, zb_s, zb2_s, zb3_s, zb3_e, zput_e, zjoin_e, zs_hit, zs_miss, nle_t, nle_f, nlt_t, nlt_f, neq_t, neq_f, ↓reduceIte, and_self, and_true, true_and, and_false, false_and, not_true_eq_false, not_false_eq_true, Nat.add_zero]; rfl
  · simp (disch := omega) only [nL_lt, nL_gt, nL_le, nL_ge, nL_eq, nL_qe, nI_ltI, nI_leI, nI_eq, nL_add, nL_dda, nI_add, nL_sub, pk_sub, nL_mul, nL_clamp, nI_cl, zchk_n, zchk_l, zb_s, zb2_s, zb3_s, zb3_e, zput_e, zjoin_e, zs_hit, zs_miss, nle_t, nle_f, nlt_t, nlt_f, neq_t, neq_f, ↓reduceIte, and_self, and_true, true_and, and_false, false_and, not_true_eq_false, not_false_eq_true, Nat.add_zero]; exact e5
theorem r_draw {g : zM} {B : zB'} (e : zRB g 494 0 B) {s' : Int32} (hs : s' = zsd B.2.2.2.1) : fX12_draw 100 g = some (nI (zrn s' % 100), zset g 494 7 s') ∧ fX12_draw 12 g = some (nI (zrn s' % 12), zset g 494 7 s') := by
  have e7 : g 494 7 = B.2.2.2.1 := by have := e.2.2.2.1; simpa using this
  have r := zrn_lt s'
  have h1 : nI (zrn s') - nI (zrn s') / 100 * 100 = nI (zrn s' % 100) := pk_rem (d := 100) (by omega) (by omega) (by omega)
  have h2 : nI (zrn s') - nI (zrn s') / 12 * 12 = nI (zrn s' % 12) := pk_rem (d := 12) (by omega) (by omega) (by omega)
  unfold fX12_draw znz
  constructor
  · simp (disch := omega) only [zchk_l, nL_clamp, zput_e]
    rw [show g 494 (OfNat.ofNat 7) = B.2.2.2.1 from e7, show 1103515245 * B.2.2.2.1 + 12345 = s' from hs.symm, zs_hit ⟨rfl, rfl⟩, zrn_r, h1, if_neg (by decide)]
  · simp (disch := omega) only [zchk_l, nL_clamp, zput_e]
    rw [show g 494 (OfNat.ofNat 7) = B.2.2.2.1 from e7, show 1103515245 * B.2.2.2.1 + 12345 = s' from hs.symm, zs_hit ⟨rfl, rfl⟩, zrn_r, h2, if_neg (by decide)]
theorem r_grows {S : zS} {g : zM} (hS : zSW S) (e : zRI S g) {l : Nat} (hl : l < (zSB S).1) : ∃ g1, fX12_grows (nI l) g = some (nI (zG1 (zSL S) (zSslip S) (zSB S) l).2, g1) ∧ zRI (zSset S (zG1 (zSL S) (zSslip S) (zSB S) l).1) g1 ∧ zFO g g1 := by
  have hL := hS.letter hl
  obtain ⟨g1, a1, a2, a3⟩ := r_looksAt hS e hl
  have e1 := e.fq hS a3
  obtain ⟨g2, b1, b2⟩ := r_canGrow hS.law e1.law hL a2
  have e2 := e1.fq hS (.of b2)
  have f2 : zFO g g2 := (a3.trans (.of b2)).fo
  have a2' := a2.fr (b2 493 (by omega)) (b2 502 (by omega))
  unfold fX12_grows zG1
  rw [a1, zb_s, b1, zb2_s]
  cases q : zgr (zSL S) ((zSB S).2.1 l) (zSB S).2.2.1 with
  | none =>
    refine ⟨g2, ?_, e2, f2⟩
    simp only [Option.isSome_none, zbi_f, if_true]
    rfl
  | some k =>
    obtain ⟨k1, k2, k3⟩ := zgr_lt hS.law q
    have hz : zfol (zSL S) ((zSB S).2.1 l) ((zSB S).2.1 l).1 (zSB S).2.2.1 = some k := by
      unfold zgr at q
      rw [if_pos ⟨k3, k2⟩] at q
      exact q
    obtain ⟨g3, c1, c2⟩ := r_follows hS.law e2.law hL a2' hL.1 (Nat.le_refl _)
    rw [hz] at c1
    have e3 := e2.fq hS (.of c2)
    have f3 : zFO g g3 := f2.trans (zFQ.of c2).fo
    obtain ⟨u1, hu1⟩ : ∃ u1, u1 = zsd (zSB S).2.2.2.1 := ⟨_, rfl⟩
    obtain ⟨u2, hu2⟩ : ∃ u2, u2 = zsd u1 := ⟨_, rfl⟩
    have w3 := e3.2.2.2.1.1
    have d1 := (r_draw w3 hu1).1
    have w4 := w3.seed u1
    have f4 : ∀ u, zFO g3 (zset g3 494 7 u) := fun u => ⟨fun c _ h _ _ => zs_cell h, fun k _ => by rw [zs_cell (by omega)], fun k hk => zs_miss (by omega), fun k _ _ _ _ h => zs_miss (by omega)⟩
    have sl : g3 494 5 = zSslip S := e3.2.2.2.1.2.2.2.2.2.1
    simp only [Option.isSome_some, zbi_t, zi10, if_false, c1, zb2_s, d1, zoi_some]
    rw [zchk_l (by decide) (by decide), nL_clamp (by decide), zs_miss (by omega), show g3 494 (OfNat.ofNat 5) = zSslip S from sl]
    rw [← hu1, ← hu2]
    have hBs : ∀ s, zBW (zBseed (zSB S) s) := fun s => hS.2.2.1.1
    by_cases qs : zSslip S ≤ nI (zrn u1 % 100)
    · obtain ⟨g4, m1, m2, m3, m4⟩ := r_comes (k := k) w4 (hBs _) hl k2
      rw [if_pos qs, if_pos qs]
      have f5 : zFO (zset g3 494 7 u1) g4 := ⟨fun c _ h _ _ => m3 c h, fun x _ => by rw [m3 493 (by omega)], fun x hx => m4 x (Or.inr hx), fun x hx _ _ _ _ => m4 x (Or.inl hx)⟩
      exact ⟨g4, by rw [m1, zb_s]; rfl, e.bag hS (f3.trans ((f4 u1).trans f5)) m2, f3.trans ((f4 u1).trans f5)⟩
    · have d2 := (r_draw w4 hu2).2
      have w5 := w4.seed u2
      obtain ⟨g4, m1, m2, m3, m4⟩ := r_comes (k := zrn u2 % 12) w5 (hBs _) hl k2
      rw [if_neg qs, if_neg qs, d2, zb2_s]
      have f5 : zFO (zset (zset g3 494 7 u1) 494 7 u2) g4 := ⟨fun c _ h _ _ => m3 c h, fun x _ => by rw [m3 493 (by omega)], fun x hx => m4 x (Or.inr hx), fun x hx _ _ _ _ => m4 x (Or.inl hx)⟩
      have f6 : zFO (zset g3 494 7 u1) (zset (zset g3 494 7 u1) 494 7 u2) := ⟨fun c _ h _ _ => zs_cell h, fun k _ => by rw [zs_cell (a := 494) (b := 493) (by omega)], fun k hk => zs_miss (by omega), fun k _ _ _ _ h => zs_miss (by omega)⟩
      exact ⟨g4, by rw [m1, zb_s]; rfl, e.bag hS (f3.trans ((f4 u1).trans (f6.trans f5))) m2, f3.trans ((f4 u1).trans (f6.trans f5))⟩
theorem zSset_set (S : zS) (A B : zB') : zSset (zSset S A) B = zSset S B := rfl
theorem zSset_B (S : zS) (A : zB') : zSB (zSset S A) = A := rfl
theorem r_oneWeek {S : zS} {g : zM} (hS : zSW S) (e : zRI S g) : ∃ g1, fX12_oneWeek g = some (nI (zPW (zSL S) (zSslip S) (zSB S)).2, g1) ∧ zRI (zSset S (zBcame (zPW (zSL S) (zSslip S) (zSB S)).1 ((zSB S).2.2.2.2 + nI (zPW (zSL S) (zSslip S) (zSB S)).2))) g1 ∧ zFO g g1 := by
  have h8 := hS.eight
  have hB := hS.2.2.1.1
  unfold fX12_oneWeek
  have came : ∀ N, N ≤ (zSB S).1 → (zGa (zSL S) (zSslip S) (zSB S) N).1.2.2.2.2 = (zSB S).2.2.2.2 := by
    have one : ∀ (B : zB') l, (zG1 (zSL S) (zSslip S) B l).1.2.2.2.2 = B.2.2.2.2 := by
      intro B l
      unfold zG1
      generalize zsd B.2.2.2.1 = u1
      generalize zsd u1 = u2
      cases zgr (zSL S) (B.2.1 l) B.2.2.1 with
      | none => rfl
      | some k =>
        simp only
        split <;> rfl
    intro N
    induction N with
    | zero => intro _; rfl
    | succ N ih =>
      intro hN
      rw [zGa_s]
      show (zGl (zSL S) (zSslip S) _ N).1.2.2.2.2 = _
      unfold zGl
      split
      · simp only [one]; exact ih (by omega)
      · simp only [one]; exact ih (by omega)
  refine zL_Q0 (fun n i (st : Int32 × zM) => fX12_oneWeek_L4 _ n st.1 (nI i) st.2) (fun i st => st.1 = nI (zGa (zSL S) (zSslip S) (zSB S) i).2 ∧ zRI (zSset S (zGa (zSL S) (zSslip S) (zSB S) i).1) st.2 ∧ zFO g st.2) (zSB S).1 (fun x => ∃ g1, x = some (nI (zPW (zSL S) (zSslip S) (zSB S)).2, g1) ∧ zRI (zSset S (zBcame (zPW (zSL S) (zSslip S) (zSB S)).1 ((zSB S).2.2.2.2 + nI (zPW (zSL S) (zSslip S) (zSB S)).2))) g1 ∧ zFO g g1) (0, g) (by omega) ⟨rfl, e, .refl⟩ (fun n i st hi hh => ?_) (fun n st hh => ?_)
  · obtain ⟨a, s⟩ := st
    obtain ⟨b1, b2, b3⟩ := hh
    have b1 : a = nI (zGa (zSL S) (zSslip S) (zSB S) i).2 := b1
    subst b1
    have b2 : zRI (zSset S (zGa (zSL S) (zSslip S) (zSB S) i).1) s := b2
    have wf := zGa_W hS.law (slip := zSslip S) hB i (Nat.le_of_lt hi)
    have hS1 := zSset_W hS wf.1
    have hi1 : i < (zSB (zSset S (zGa (zSL S) (zSslip S) (zSB S) i).1)).1 := by rw [zSset_B, wf.2.1]; exact hi
    obtain ⟨s1, c1, c2, c3⟩ := r_grows hS1 b2 hi1
    rw [zSset_set] at c2
    rw [zSset_B] at c1 c2
    have c1 : fX12_grows (nI i) s = some (nI (zG1 (zSL S) (zSslip S) (zGa (zSL S) (zSslip S) (zSB S) i).1 i).2, s1) := c1
    have c2 : zRI (zSset S (zG1 (zSL S) (zSslip S) (zGa (zSL S) (zSslip S) (zSB S) i).1 i).1) s1 := c2
    have wf1 := zG1_W (slip := zSslip S) hS.law wf.1 (l := i) (by rw [wf.2.1]; exact hi)
    have hS2 := zSset_W hS wf1.1
    have hi2 : i < (zSB (zSset S (zG1 (zSL S) (zSslip S) (zGa (zSL S) (zSslip S) (zSB S) i).1 i).1)).1 := by rw [zSset_B, wf1.2.1, wf.2.1]; exact hi
    obtain ⟨s2, d1, d2, d3⟩ := r_grows hS2 c2 hi2
    rw [zSset_set] at d2
    rw [zSset_B] at d1 d2
    have d1 : fX12_grows (nI i) s1 = some (nI (zG1 (zSL S) (zSslip S) (zG1 (zSL S) (zSslip S) (zGa (zSL S) (zSslip S) (zSB S) i).1 i).1 i).2, s2) := d1
    have hot := r_hotOf hS2 c2 hi2
    rw [zSset_B, wf1.2.2.2.2] at hot
    have lets := r_letters b2
    rw [zSset_B, wf.2.1] at lets
    right
    have whole : ∃ s3, fX12_oneWeek_L4 (fun v1_7 g7 => zchk 6 2158 (zchk 6 2158 (zput g7 494 (6 : Int32).toNatClampNeg ((g7 494 (6 : Int32).toNatClampNeg) + v1_7) (fun g10 => zchk 4 2158 (zchk 4 2158 (zput g10 494 (4 : Int32).toNatClampNeg (if (g10 494 (4 : Int32).toNatClampNeg) + 1 < 9999 then (g10 494 (4 : Int32).toNatClampNeg) + 1 else 9999) (fun g13 => some (v1_7, g13)))))))) (n + 1) (nI (zGa (zSL S) (zSslip S) (zSB S) i).2) (nI i) s = fX12_oneWeek_L4 (fun v1_7 g7 => zchk 6 2158 (zchk 6 2158 (zput g7 494 (6 : Int32).toNatClampNeg ((g7 494 (6 : Int32).toNatClampNeg) + v1_7) (fun g10 => zchk 4 2158 (zchk 4 2158 (zput g10 494 (4 : Int32).toNatClampNeg (if (g10 494 (4 : Int32).toNatClampNeg) + 1 < 9999 then (g10 494 (4 : Int32).toNatClampNeg) + 1 else 9999) (fun g13 => some (v1_7, g13)))))))) n (nI (zGa (zSL S) (zSslip S) (zSB S) (i + 1)).2) (nI (i + 1)) s3 ∧ zRI (zSset S (zGa (zSL S) (zSslip S) (zSB S) (i + 1)).1) s3 ∧ zFO g s3 := by
      simp only [fX12_oneWeek_L4, lets, zb_s]
      have hle : ¬ nI (zSB S).1 ≤ nI i := by
        rw [nI_leI (by omega) (by omega)]
        omega
      rw [if_neg hle, c1, zb2_s, hot, zb_s, zGa_s]
      unfold zGl
      cases hb : ((zGa (zSL S) (zSslip S) (zSB S) i).1.2.1 i).2.2.2.2.2.2
      · refine ⟨s1, ?_, c2, b3.trans c3⟩
        simp (disch := omega) only [nL_lt, nL_gt, nL_le, nL_ge, nL_eq, nL_qe, nI_ltI, nI_leI, nI_eq, nL_add, nL_dda, nI_add, nL_sub, pk_sub, nL_mul, nL_clamp, nI_cl, zchk_n, zchk_l, zb_s, zb2_s, zb3_s, zb3_e, zput_e, zjoin_e, zs_hit, zs_miss, nle_t, nle_f, nlt_t, nlt_f, neq_t, neq_f, ↓reduceIte, and_self, and_true, true_and, and_false, false_and, not_true_eq_false, not_false_eq_true, Nat.add_zero, zbi_f, zi01, Bool.false_eq_true]
      · refine ⟨s2, ?_, d2, b3.trans (c3.trans d3)⟩
        simp (disch := omega) only [nL_lt, nL_gt, nL_le, nL_ge, nL_eq, nL_qe, nI_ltI, nI_leI, nI_eq, nL_add, nL_dda, nI_add, nL_sub, pk_sub, nL_mul, nL_clamp, nI_cl, zchk_n, zchk_l, zb_s, zb2_s, zb3_s, zb3_e, zput_e, zjoin_e, zs_hit, zs_miss, nle_t, nle_f, nlt_t, nlt_f, neq_t, neq_f, ↓reduceIte, and_self, and_true, true_and, and_false, false_and, not_true_eq_false, not_false_eq_true, Nat.add_zero, zbi_t, d1]
        congr 2
        omega
    obtain ⟨s3, w1, w2, w3⟩ := whole
    exact ⟨(nI (zGa (zSL S) (zSslip S) (zSB S) (i + 1)).2, s3), ⟨rfl, w2, w3⟩, w1⟩
  · obtain ⟨a, s⟩ := st
    obtain ⟨b1, b2, b3⟩ := hh
    have b1 : a = nI (zGa (zSL S) (zSslip S) (zSB S) (zSB S).1).2 := b1
    subst b1
    have b2 : zRI (zSset S (zGa (zSL S) (zSslip S) (zSB S) (zSB S).1).1) s := b2
    have b3 : zFO g s := b3
    have wf := zGa_W hS.law (slip := zSslip S) hB (zSB S).1 (Nat.le_refl _)
    have lets := r_letters b2
    rw [zSset_B, wf.2.1] at lets
    obtain ⟨r1, r2, r3, r4, r5⟩ := b2.2.2.2.1.1
    simp only [Nat.zero_add] at r1 r2 r3 r4 r5
    have r3 : s 494 4 = (zGa (zSL S) (zSslip S) (zSB S) (zSB S).1).1.2.2.1 := r3
    have r5 : s 494 6 = (zSB S).2.2.2.2 := by rw [← came _ (Nat.le_refl _)]; exact r5
    simp only [fX12_oneWeek_L4, lets, zb_s]
    have f1 : zFO s (zset (zset s 494 6 ((zSB S).2.2.2.2 + nI (zGa (zSL S) (zSslip S) (zSB S) (zSB S).1).2)) 494 4 (zwk (zGa (zSL S) (zSslip S) (zSB S) (zSB S).1).1.2.2.1)) := ⟨fun c _ h _ _ => by rw [zs_cell h, zs_cell h], fun k _ => by rw [zs_cell (a := 494) (b := 493) (by omega), zs_cell (by omega)], fun k hk => by rw [zs_miss (by omega), zs_miss (by omega)], fun k _ _ _ _ h => by rw [zs_miss (by omega), zs_miss (by omega)]⟩
    refine ⟨zset (zset s 494 6 ((zSB S).2.2.2.2 + nI (zGa (zSL S) (zSslip S) (zSB S) (zSB S).1).2)) 494 4 (zwk (zGa (zSL S) (zSslip S) (zSB S) (zSB S).1).1.2.2.1), ?_, e.bag hS (b3.trans f1) ⟨?_, fun m hm => ?_, ?_, ?_, ?_⟩, b3.trans f1⟩
    · rw [if_pos (Int32.le_refl _)]
      simp (disch := omega) only [zchk_l, nL_clamp, zput_e, zs_miss]
      rw [show s 494 (OfNat.ofNat 6) = (zSB S).2.2.2.2 from r5, show s 494 (OfNat.ofNat 4) = _ from r3, zwk_r]
      rfl
    · simp (disch := omega) only [nL_lt, nL_gt, nL_le, nL_ge, nL_eq, nL_qe, nI_ltI, nI_leI, nI_eq, nL_add, nL_dda, nI_add, nL_sub, pk_sub, nL_mul, nL_clamp, nI_cl, zchk_n, zchk_l, zb_s, zb2_s, zb3_s, zb3_e, zput_e, zjoin_e, zs_hit, zs_miss, nle_t, nle_f, nlt_t, nlt_f, neq_t, neq_f, ↓reduceIte, and_self, and_true, true_and, and_false, false_and, not_true_eq_false, not_false_eq_true, Nat.add_zero]; exact r1
    · show zRM _ 494 (0 + 36 + 53 * m) _
      rw [Nat.zero_add]
      obtain ⟨l1, l2, l3, l4, l5, l6, l7⟩ := r2 m hm
      refine ⟨?_, fun i hi => ?_, fun i hi => ?_, ?_, ?_, ?_, ?_⟩ <;> rw [zs_miss (by omega), zs_miss (by omega)] <;> first | exact l2 i hi | exact l3 i hi | assumption
    · simp (disch := omega) only [nL_lt, nL_gt, nL_le, nL_ge, nL_eq, nL_qe, nI_ltI, nI_leI, nI_eq, nL_add, nL_dda, nI_add, nL_sub, pk_sub, nL_mul, nL_clamp, nI_cl, zchk_n, zchk_l, zb_s, zb2_s, zb3_s, zb3_e, zput_e, zjoin_e, zs_hit, zs_miss, nle_t, nle_f, nlt_t, nlt_f, neq_t, neq_f, ↓reduceIte, and_self, and_true, true_and, and_false, false_and, not_true_eq_false, not_false_eq_true, Nat.add_zero]; rfl
    · simp (disch := omega) only [nL_lt, nL_gt, nL_le, nL_ge, nL_eq, nL_qe, nI_ltI, nI_leI, nI_eq, nL_add, nL_dda, nI_add, nL_sub, pk_sub, nL_mul, nL_clamp, nI_cl, zchk_n, zchk_l, zb_s, zb2_s, zb3_s, zb3_e, zput_e, zjoin_e, zs_hit, zs_miss, nle_t, nle_f, nlt_t, nlt_f, neq_t, neq_f, ↓reduceIte, and_self, and_true, true_and, and_false, false_and, not_true_eq_false, not_false_eq_true, Nat.add_zero]; exact r4
    · simp (disch := omega) only [nL_lt, nL_gt, nL_le, nL_ge, nL_eq, nL_qe, nI_ltI, nI_leI, nI_eq, nL_add, nL_dda, nI_add, nL_sub, pk_sub, nL_mul, nL_clamp, nI_cl, zchk_n, zchk_l, zb_s, zb2_s, zb3_s, zb3_e, zput_e, zjoin_e, zs_hit, zs_miss, nle_t, nle_f, nlt_t, nlt_f, neq_t, neq_f, ↓reduceIte, and_self, and_true, true_and, and_false, false_and, not_true_eq_false, not_false_eq_true, Nat.add_zero]; rfl
