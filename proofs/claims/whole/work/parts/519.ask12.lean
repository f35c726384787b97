/-! MEET, DRAWER -/
/-- what comes only goes on behind -/
def zpx (L M : zL) : Prop := L.1 ≤ M.1 ∧ ∀ j, j < L.1 → M.2.1 j = L.2.1 j
theorem zpx.trans {L M N : zL} (a : zpx L M) (b : zpx M N) : zpx L N := ⟨Nat.le_trans a.1 b.1, fun j hj => (b.2 j (Nat.lt_of_lt_of_le hj a.1)).trans (a.2 j hj)⟩
theorem zpx.refl {L : zL} : zpx L L := ⟨Nat.le_refl _, fun _ _ => rfl⟩
theorem zpx_g1 {W : zLw} {L : zL} {w : Int32} : zpx L (zg1 W L w) := by
  unfold zg1
  cases zgr W L w with
  | none => exact .refl
  | some k => exact ⟨Nat.le_succ _, fun j hj => zup_miss (by omega)⟩
theorem zpx_go {W : zLw} {p : zL × Int32} : zpx p.1 (zgo W p).1 := by
  show zpx p.1 (if p.1.2.2.2.2.2.2 = true then zg1 W (zg1 W p.1 p.2) p.2 else zg1 W p.1 p.2)
  split
  · exact zpx_g1.trans zpx_g1
  · exact zpx_g1
theorem zpx_at {S : zS} {l : Nat} : ∀ (d n : Nat), zpx (zat S l n).1 (zat S l (n + d)).1
  | 0, n => .refl
  | d + 1, n => by
    have : zat S l (n + (d + 1)) = zgo (zSL S) (zat S l (n + d)) := zat_s (n := n + d)
    rw [this]
    exact (zpx_at d n).trans zpx_go
/-- whether two are met -/
def zmt2 (b : Bool) (L M : zL) : Bool := if b = true then (zun L M).isNone else decide (zlk L = zlk M)
/-- MEET of l and m -/
def zmeet (S : zS) (b : Bool) (l m : Nat) : Option Nat := zff (fun n => zmt2 b (zat S l n).1 (zat S m n).1) 41
theorem r_meetOf {S : zS} {g0 g : zM} (hS : zSW S) (e : zRI S g0) (h0 : ∀ c, c ≠ 493 → c ≠ 501 → c ≠ 502 → c ≠ 503 → c ≠ 504 → g c = g0 c) (h1 : ∀ k, k < 19 → g 493 k = g0 493 k) {l m : Nat} (hl : l < (zSB S).1) (hm : m < (zSB S).1) (b : Bool) :
    ∃ g1, fX12_meetOf (nI l) (nI m) (zbi b) g = some (zoi (zmeet S b l m), g1) ∧ (∀ c, c ≠ 493 → c ≠ 501 → c ≠ 502 → c ≠ 503 → c ≠ 504 → g1 c = g0 c) ∧ ∀ k, k < 19 → g1 493 k = g0 493 k := by
  have frr : ∀ {s : zM}, (∀ c, c ≠ 493 → c ≠ 501 → c ≠ 502 → c ≠ 503 → c ≠ 504 → s c = g0 c) → (∀ k, k < 19 → s 493 k = g0 493 k) → zFR g0 s := fun b1 b2 => ⟨fun c h => b1 c (by omega) (by omega) (by omega) (by omega) (by omega), fun k _ => by rw [b1 494 (by omega) (by omega) (by omega) (by omega) (by omega)], b1 _ (by omega) (by omega) (by omega) (by omega) (by omega), b1 _ (by omega) (by omega) (by omega) (by omega) (by omega), b1 _ (by omega) (by omega) (by omega) (by omega) (by omega), b1 _ (by omega) (by omega) (by omega) (by omega) (by omega), b2 _ (by omega), b2 _ (by omega), b2 _ (by omega), b2 _ (by omega)⟩
  have e1 : zRI S g := e.fr hS (frr h0 h1)
  have hM := zat_W hS hm
  -- all of m
  have hgrow : ∃ g1, fX12_growsAll (nI m) g = some g1 ∧ ((∀ c, c ≠ 493 → c ≠ 501 → c ≠ 502 → c ≠ 503 → c ≠ 504 → g1 c = g c) ∧ ∀ k, k < 19 → g1 493 k = g 493 k) ∧ (∀ n, n ≤ 40 → g1 504 n = nI (zat S m n).1.1) ∧ ∀ j, j < (zat S m 41).1.1 → g1 503 j = nI ((zat S m 41).1.2.1 j) := by
    obtain ⟨s0, a1, a2⟩ := r_look0 hS e1 .refl hm
    unfold fX12_growsAll
    rw [a1, zb_s]
    have lim : (zat S m 41).1.1 ≤ 24 := (hM 41).2.1
    generalize h41 : 41 = N at *
    have h40 : ∀ i, i < N → ¬ (40 : Int32) < nI i := fun i hi => by
      rw [nL_gt (by omega) (by decide)]
      show ¬ 40 < i
      omega
    have h4N : (40 : Int32) < nI N := by rw [← h41]; decide
    refine zL_Q0 (fun n' i (s : zM) => fX12_growsAll_L7 (fun g6 => fX12_growsAll_L35 zFU 0 g6) n' (nI i) s) (fun i s => zRR s (zat S m i).1 (zat S m i).1.1 (zat S m i).2 ∧ ((∀ c, c ≠ 493 → c ≠ 501 → c ≠ 502 → c ≠ 503 → c ≠ 504 → s c = g c) ∧ ∀ k, k < 19 → s 493 k = g 493 k) ∧ ∀ n, n < i → s 504 n = nI (zat S m n).1.1) N (fun x => ∃ g1, x = some g1 ∧ ((∀ c, c ≠ 493 → c ≠ 501 → c ≠ 502 → c ≠ 503 → c ≠ 504 → g1 c = g c) ∧ ∀ k, k < 19 → g1 493 k = g 493 k) ∧ (∀ n, n ≤ 40 → g1 504 n = nI (zat S m n).1.1) ∧ ∀ j, j < (zat S m N).1.1 → g1 503 j = nI ((zat S m N).1.2.1 j)) s0 (by omega) ⟨a2.1, ⟨fun c h1 h2 h3 _ _ => a2.2.1 c h1 h2 h3, a2.2.2⟩, fun n hn => absurd hn (by omega)⟩ (fun n' i s hi hh => ?_) (fun n' s hh => ?_)
    · obtain ⟨b1, ⟨b2, b3⟩, b4⟩ := hh
      have es : zRI S s := e1.fr hS ⟨fun c h => b2 c (by omega) (by omega) (by omega) (by omega) (by omega), fun k _ => by rw [b2 494 (by omega) (by omega) (by omega) (by omega) (by omega)], b2 _ (by omega) (by omega) (by omega) (by omega) (by omega), b2 _ (by omega) (by omega) (by omega) (by omega) (by omega), b2 _ (by omega) (by omega) (by omega) (by omega) (by omega), b2 _ (by omega) (by omega) (by omega) (by omega) (by omega), b3 _ (by omega), b3 _ (by omega), b3 _ (by omega), b3 _ (by omega)⟩
      have es2 : zRI S (zset s 504 i (s 493 19)) := es.fr hS ⟨fun c h => by rw [zs_cell (by omega)], fun k _ => by rw [zs_cell (by omega)], by rw [zs_cell (by omega)], by rw [zs_cell (by omega)], by rw [zs_cell (by omega)], by rw [zs_cell (by omega)], by rw [zs_cell (by omega)], by rw [zs_cell (by omega)], by rw [zs_cell (by omega)], by rw [zs_cell (by omega)]⟩
      obtain ⟨s1, c1, c2, c3⟩ := r_goesOn hS.law es2.law (hM i) (b1.fr (zs_cell (by omega)) (zs_cell (by omega)))
      right
      refine ⟨s1, ⟨by rw [zat_s]; exact c2, ⟨fun c h1 h2 h3 h4 h5 => by rw [c3.1 c h1 h2 h3, zs_cell h5]; exact b2 c h1 h2 h3 h4 h5, fun k hk => by rw [c3.2 k hk, zs_cell (by omega)]; exact b3 k hk⟩, fun n hn => ?_⟩, ?_⟩
      · rw [c3.1 504 (by omega) (by omega) (by omega)]
        by_cases q : n = i
        · subst q; simp (disch := omega) only [nL_lt, nL_gt, nL_le, nL_ge, nL_eq, nL_qe, nI_ltI, nI_leI, nI_eq, nL_add, nL_dda, nI_add, nL_sub, pk_sub, nL_mul, nL_clamp, nI_cl, zchk_n, zchk_l, zb_s, zb2_s, zb3_s, zb3_e, zput_e, zjoin_e, zs_hit, zs_miss, nle_t, nle_f, nlt_t, nlt_f, neq_t, neq_f, ↓reduceIte, and_self, and_true, true_and, and_false, false_and, not_true_eq_false, not_false_eq_true, Nat.add_zero]; exact b1.1
        · simp (disch := omega) only [nL_lt, nL_gt, nL_le, nL_ge, nL_eq, nL_qe, nI_ltI, nI_leI, nI_eq, nL_add, nL_dda, nI_add, nL_sub, pk_sub, nL_mul, nL_clamp, nI_cl, zchk_n, zchk_l, zb_s, zb2_s, zb3_s, zb3_e, zput_e, zjoin_e, zs_hit, zs_miss, nle_t, nle_f, nlt_t, nlt_f, neq_t, neq_f, ↓reduceIte, and_self, and_true, true_and, and_false, false_and, not_true_eq_false, not_false_eq_true, Nat.add_zero]; exact b4 n (by omega)
      · simp only [fX12_growsAll_L7]
        rw [if_neg (h40 i hi), zchk_n (by omega) (by omega), zput_e, nI_cl (by omega), c1, zb_s, nI_1]
    · obtain ⟨b1, ⟨b2, b3⟩, b4⟩ := hh
      simp only [fX12_growsAll_L7]
      rw [if_pos h4N]
      have d1 : s 493 19 = nI (zat S m N).1.1 := b1.1
      refine zL_Q0 (fun n' i (t : zM) => fX12_growsAll_L35 n' (nI i) t) (fun i t => (∀ c, c ≠ 503 → t c = s c) ∧ ∀ j, j < i → t 503 j = nI ((zat S m N).1.2.1 j)) (zat S m N).1.1 (fun x => ∃ g1, x = some g1 ∧ ((∀ c, c ≠ 493 → c ≠ 501 → c ≠ 502 → c ≠ 503 → c ≠ 504 → g1 c = g c) ∧ ∀ k, k < 19 → g1 493 k = g 493 k) ∧ (∀ n, n ≤ 40 → g1 504 n = nI (zat S m n).1.1) ∧ ∀ j, j < (zat S m N).1.1 → g1 503 j = nI ((zat S m N).1.2.1 j)) s (by omega) ⟨fun _ _ => rfl, fun j hj => absurd hj (by omega)⟩ (fun n' i t hi ht => ?_) (fun n' t ht => ?_)
      · obtain ⟨t1, t2⟩ := ht
        have t3 : t 493 19 = nI (zat S m N).1.1 := by rw [t1 493 (by omega)]; exact d1
        have t4 : t 502 i = nI ((zat S m N).1.2.1 i) := by rw [t1 502 (by omega)]; exact b1.2.1 i hi
        right
        refine ⟨zset t 503 i (nI ((zat S m N).1.2.1 i)), ⟨fun c hc => by rw [zs_cell hc]; exact t1 c hc, fun j hj => ?_⟩, ?_⟩
        · by_cases q : j = i
          · subst q; simp (disch := omega) only [nL_lt, nL_gt, nL_le, nL_ge, nL_eq, nL_qe, nI_ltI, nI_leI, nI_eq, nL_add, nL_dda, nI_add, nL_sub, pk_sub, nL_mul, nL_clamp, nI_cl, zchk_n, zchk_l, zb_s, zb2_s, zb3_s, zb3_e, zput_e, zjoin_e, zs_hit, zs_miss, nle_t, nle_f, nlt_t, nlt_f, neq_t, neq_f, ↓reduceIte, and_self, and_true, true_and, and_false, false_and, not_true_eq_false, not_false_eq_true, Nat.add_zero]
          · simp (disch := omega) only [nL_lt, nL_gt, nL_le, nL_ge, nL_eq, nL_qe, nI_ltI, nI_leI, nI_eq, nL_add, nL_dda, nI_add, nL_sub, pk_sub, nL_mul, nL_clamp, nI_cl, zchk_n, zchk_l, zb_s, zb2_s, zb3_s, zb3_e, zput_e, zjoin_e, zs_hit, zs_miss, nle_t, nle_f, nlt_t, nlt_f, neq_t, neq_f, ↓reduceIte, and_self, and_true, true_and, and_false, false_and, not_true_eq_false, not_false_eq_true, Nat.add_zero]; exact t2 j (by omega)
        · simp only [fX12_growsAll_L35, t3]
          simp (disch := omega) only [nL_lt, nL_gt, nL_le, nL_ge, nL_eq, nL_qe, nI_ltI, nI_leI, nI_eq, nL_add, nL_dda, nI_add, nL_sub, pk_sub, nL_mul, nL_clamp, nI_cl, zchk_n, zchk_l, zb_s, zb2_s, zb3_s, zb3_e, zput_e, zjoin_e, zs_hit, zs_miss, nle_t, nle_f, nlt_t, nlt_f, neq_t, neq_f, ↓reduceIte, and_self, and_true, true_and, and_false, false_and, not_true_eq_false, not_false_eq_true, Nat.add_zero, t4]
      · obtain ⟨t1, t2⟩ := ht
        have t3 : t 493 19 = nI (zat S m N).1.1 := by rw [t1 493 (by omega)]; exact d1
        refine ⟨t, ?_, ⟨fun c h1 h2 h3 h4 h5 => by rw [t1 c h4]; exact b2 c h1 h2 h3 h4 h5, fun k hk => by rw [t1 493 (by omega)]; exact b3 k hk⟩, fun n hn => by rw [t1 504 (by omega)]; exact b4 n (by omega), t2⟩
        simp only [fX12_growsAll_L35, t3]
        simp (disch := omega) only [nL_lt, nL_gt, nL_le, nL_ge, nL_eq, nL_qe, nI_ltI, nI_leI, nI_eq, nL_add, nL_dda, nI_add, nL_sub, pk_sub, nL_mul, nL_clamp, nI_cl, zchk_n, zchk_l, zb_s, zb2_s, zb3_s, zb3_e, zput_e, zjoin_e, zs_hit, zs_miss, nle_t, nle_f, nlt_t, nlt_f, neq_t, neq_f, ↓reduceIte, and_self, and_true, true_and, and_false, false_and, not_true_eq_false, not_false_eq_true, Nat.add_zero]
  obtain ⟨g1, a1, ⟨a2, a3⟩, a4, a5⟩ := hgrow
  have f1 : zRI S g1 := e.fr hS (frr (fun c h1 h2 h3 h4 h5 => (a2 c h1 h2 h3 h4 h5).trans (h0 c h1 h2 h3 h4 h5)) (fun k hk => (a3 k hk).trans (h1 k hk)))
  obtain ⟨g2, b1, b2⟩ := r_look0 hS f1 .refl hl
  obtain ⟨g3, d1, d2⟩ := r_until (g0 := g1) hS f1 hl b2 (fun n v s => fX12_meetOf_L13 (zbi b) n v s) (fun n => zmt2 b (zat S l n).1 (zat S m n).1) nI (-1) (fun n i s hs hi => by
    obtain ⟨s2, f1', f2⟩ := r_week hS f1 hl hs
    refine ⟨s2, s, f2, hs.2, ?_⟩
    have hL' := zat_W hS hl i
    have hM' := hM i
    have hlt := hL'.2.1
    have hmt := hM'.2.1
    have hl1 := hL'.1
    have hm1 := hM'.1
    have px : zpx (zat S m i).1 (zat S m 41).1 := by
      have := zpx_at (S := S) (l := m) (41 - i) i
      rw [show i + (41 - i) = 41 from by omega] at this
      exact this
    have px1 := px.1
    have m4 : s 504 i = nI (zat S m i).1.1 := by rw [hs.2.1 504 (by omega) (by omega) (by omega)]; exact a4 i (by omega)
    have m3 : ∀ j, j < (zat S m i).1.1 → s 503 j = nI ((zat S m i).1.2.1 j) := fun j hj => by rw [hs.2.1 503 (by omega) (by omega) (by omega), a5 j (by omega), px.2 j hj]
    have rr := hs.1
    have met : fX12_isMet (nI i) (zbi b) s = some (zbi (zmt2 b (zat S l i).1 (zat S m i).1)) := by
      unfold fX12_isMet zmt2
      cases b
      · have k1 := zlk_lt hL'
        have k2 := zlk_lt hM'
        simp (disch := omega) only [nL_lt, nL_gt, nL_le, nL_ge, nL_eq, nL_qe, nI_ltI, nI_leI, nI_eq, nL_add, nL_dda, nI_add, nL_sub, pk_sub, nL_mul, nL_clamp, nI_cl, zchk_n, zchk_l, zb_s, zb2_s, zb3_s, zb3_e, zput_e, zjoin_e, zs_hit, zs_miss, nle_t, nle_f, nlt_t, nlt_f, neq_t, neq_f, ↓reduceIte, and_self, and_true, true_and, and_false, false_and, not_true_eq_false, not_false_eq_true, Nat.add_zero, zbi_f, r_lastA hS hl hs, m4, Bool.false_eq_true]
        rw [m3 _ (by omega)]
        show (if nI (zlk (zat S l i).1) = nI (zlk (zat S m i).1) then some 1 else some 0) = _
        have hq : nI (zlk (zat S l i).1) = nI (zlk (zat S m i).1) ↔ zlk (zat S l i).1 = zlk (zat S m i).1 := nI_eq (by omega) (by omega)
        by_cases q : zlk (zat S l i).1 = zlk (zat S m i).1 <;> simp [hq, q, zbi]
      · simp (disch := omega) only [nL_lt, nL_gt, nL_le, nL_ge, nL_eq, nL_qe, nI_ltI, nI_leI, nI_eq, nL_add, nL_dda, nI_add, nL_sub, pk_sub, nL_mul, nL_clamp, nI_cl, zchk_n, zchk_l, zb_s, zb2_s, zb3_s, zb3_e, zput_e, zjoin_e, zs_hit, zs_miss, nle_t, nle_f, nlt_t, nlt_f, neq_t, neq_f, ↓reduceIte, and_self, and_true, true_and, and_false, false_and, not_true_eq_false, not_false_eq_true, Nat.add_zero, zbi_t, zi10, m4, rr.1]
        generalize (zat S l i).1 = A at *
        generalize (zat S m i).1 = B at *
        -- the loop
        have loop : ∀ (x : Int32), (x = 1 ∧ A.1 = B.1) ∨ (x = 0 ∧ A.1 ≠ B.1) → fX12_isMet_L52 s zFU x 0 = some (zbi (zun A B).isNone) := by
          intro x hx
          rcases hx with ⟨rfl, hAB⟩ | ⟨rfl, hAB⟩
          · refine zL_Q0 (fun n j (st : Int32) => fX12_isMet_L52 s n st (nI j)) (fun j st => st = 1 ∧ (∀ x, x < j → decide (A.2.1 x ≠ B.2.1 x) = false) ∨ (st = 0 ∧ (zun A B).isNone = false)) A.1 (fun x => x = some (zbi (zun A B).isNone)) 1 (by omega) (Or.inl ⟨rfl, fun x hx => absurd hx (by omega)⟩) (fun n' j st hj hst => ?_) (fun n' st hst => ?_)
            · have c1 := rr.2.1 j hj
              have c2 := m3 j (by omega)
              have k1 := hL'.2.2 j hj
              have k2 := hM'.2.2 j (by omega)
              rcases hst with ⟨rfl, h1⟩ | ⟨rfl, h1⟩
              · right
                by_cases q : A.2.1 j = B.2.1 j
                · refine ⟨1, Or.inl ⟨rfl, fun x hx => ?_⟩, ?_⟩
                  · rcases Nat.lt_succ_iff_lt_or_eq.mp hx with q3 | q3
                    · exact h1 x q3
                    · rw [q3]; simp [q]
                  · simp only [fX12_isMet_L52, rr.1]
                    simp (disch := omega) only [nL_lt, nL_gt, nL_le, nL_ge, nL_eq, nL_qe, nI_ltI, nI_leI, nI_eq, nL_add, nL_dda, nI_add, nL_sub, pk_sub, nL_mul, nL_clamp, nI_cl, zchk_n, zchk_l, zb_s, zb2_s, zb3_s, zb3_e, zput_e, zjoin_e, zs_hit, zs_miss, nle_t, nle_f, nlt_t, nlt_f, neq_t, neq_f, ↓reduceIte, and_self, and_true, true_and, and_false, false_and, not_true_eq_false, not_false_eq_true, Nat.add_zero, zi10, c1, c2]
                · refine ⟨0, Or.inr ⟨rfl, ?_⟩, ?_⟩
                  · unfold zun
                    rw [zff_some (i := j) (by omega) h1 (by simp [q])]
                    rfl
                  · simp only [fX12_isMet_L52, rr.1]
                    simp (disch := omega) only [nL_lt, nL_gt, nL_le, nL_ge, nL_eq, nL_qe, nI_ltI, nI_leI, nI_eq, nL_add, nL_dda, nI_add, nL_sub, pk_sub, nL_mul, nL_clamp, nI_cl, zchk_n, zchk_l, zb_s, zb2_s, zb3_s, zb3_e, zput_e, zjoin_e, zs_hit, zs_miss, nle_t, nle_f, nlt_t, nlt_f, neq_t, neq_f, ↓reduceIte, and_self, and_true, true_and, and_false, false_and, not_true_eq_false, not_false_eq_true, Nat.add_zero, zi10, c1, c2]
              · left
                rw [h1]
                simp only [fX12_isMet_L52, rr.1]
                simp (disch := omega) only [nL_lt, nL_gt, nL_le, nL_ge, nL_eq, nL_qe, nI_ltI, nI_leI, nI_eq, nL_add, nL_dda, nI_add, nL_sub, pk_sub, nL_mul, nL_clamp, nI_cl, zchk_n, zchk_l, zb_s, zb2_s, zb3_s, zb3_e, zput_e, zjoin_e, zs_hit, zs_miss, nle_t, nle_f, nlt_t, nlt_f, neq_t, neq_f, ↓reduceIte, and_self, and_true, true_and, and_false, false_and, not_true_eq_false, not_false_eq_true, Nat.add_zero, zbo_0]
                rfl
            · simp only [fX12_isMet_L52, rr.1]
              simp (disch := omega) only [nL_lt, nL_gt, nL_le, nL_ge, nL_eq, nL_qe, nI_ltI, nI_leI, nI_eq, nL_add, nL_dda, nI_add, nL_sub, pk_sub, nL_mul, nL_clamp, nI_cl, zchk_n, zchk_l, zb_s, zb2_s, zb3_s, zb3_e, zput_e, zjoin_e, zs_hit, zs_miss, nle_t, nle_f, nlt_t, nlt_f, neq_t, neq_f, ↓reduceIte, and_self, and_true, true_and, and_false, false_and, not_true_eq_false, not_false_eq_true, Nat.add_zero]
              rcases hst with ⟨rfl, h1⟩ | ⟨rfl, h1⟩
              · have : zun A B = none := by
                  unfold zun
                  rw [zff_none (fun x hx => h1 x (by omega))]
                  simp [hAB]
                rw [this, zbo_1]
                rfl
              · rw [h1, zbo_0]
                rfl
          · have : (zun A B).isNone = false := by
              unfold zun
              cases zff (fun i => decide (A.2.1 i ≠ B.2.1 i)) (min A.1 B.1) with
              | some x => rfl
              | none => simp [hAB]
            rw [this]
            have : ∀ n', fX12_isMet_L52 s (n' + 1) 0 0 = some (zbi false) := by
              intro n'
              simp only [fX12_isMet_L52, rr.1]
              simp (disch := omega) only [nL_lt, nL_gt, nL_le, nL_ge, nL_eq, nL_qe, nI_ltI, nI_leI, nI_eq, nL_add, nL_dda, nI_add, nL_sub, pk_sub, nL_mul, nL_clamp, nI_cl, zchk_n, zchk_l, zb_s, zb2_s, zb3_s, zb3_e, zput_e, zjoin_e, zs_hit, zs_miss, nle_t, nle_f, nlt_t, nlt_f, neq_t, neq_f, ↓reduceIte, and_self, and_true, true_and, and_false, false_and, not_true_eq_false, not_false_eq_true, Nat.add_zero, zbo_0]
              rfl
            exact this 99999
        by_cases q : A.1 = B.1
        · simp (disch := omega) only [nL_lt, nL_gt, nL_le, nL_ge, nL_eq, nL_qe, nI_ltI, nI_leI, nI_eq, nL_add, nL_dda, nI_add, nL_sub, pk_sub, nL_mul, nL_clamp, nI_cl, zchk_n, zchk_l, zb_s, zb2_s, zb3_s, zb3_e, zput_e, zjoin_e, zs_hit, zs_miss, nle_t, nle_f, nlt_t, nlt_f, neq_t, neq_f, ↓reduceIte, and_self, and_true, true_and, and_false, false_and, not_true_eq_false, not_false_eq_true, Nat.add_zero]
          exact loop 1 (Or.inl ⟨rfl, q⟩)
        · simp (disch := omega) only [nL_lt, nL_gt, nL_le, nL_ge, nL_eq, nL_qe, nI_ltI, nI_leI, nI_eq, nL_add, nL_dda, nI_add, nL_sub, pk_sub, nL_mul, nL_clamp, nI_cl, zchk_n, zchk_l, zb_s, zb2_s, zb3_s, zb3_e, zput_e, zjoin_e, zs_hit, zs_miss, nle_t, nle_f, nlt_t, nlt_f, neq_t, neq_f, ↓reduceIte, and_self, and_true, true_and, and_false, false_and, not_true_eq_false, not_false_eq_true, Nat.add_zero]
          exact loop 0 (Or.inr ⟨rfl, q⟩)
    simp only [fX12_meetOf_L13]
    simp (disch := omega) only [nL_lt, nL_gt, nL_le, nL_ge, nL_eq, nL_qe, nI_ltI, nI_leI, nI_eq, nL_add, nL_dda, nI_add, nL_sub, pk_sub, nL_mul, nL_clamp, nI_cl, zchk_n, zchk_l, zb_s, zb2_s, zb3_s, zb3_e, zput_e, zjoin_e, zs_hit, zs_miss, nle_t, nle_f, nlt_t, nlt_f, neq_t, neq_f, ↓reduceIte, and_self, and_true, true_and, and_false, false_and, not_true_eq_false, not_false_eq_true, Nat.add_zero, met, f1']
    cases zmt2 b (zat S l i).1 (zat S m i).1 <;> simp [zbi]) (fun n s => by
    simp only [fX12_meetOf_L13]
    simp (disch := omega) only [nL_lt, nL_gt, nL_le, nL_ge, nL_eq, nL_qe, nI_ltI, nI_leI, nI_eq, nL_add, nL_dda, nI_add, nL_sub, pk_sub, nL_mul, nL_clamp, nI_cl, zchk_n, zchk_l, zb_s, zb2_s, zb3_s, zb3_e, zput_e, zjoin_e, zs_hit, zs_miss, nle_t, nle_f, nlt_t, nlt_f, neq_t, neq_f, ↓reduceIte, and_self, and_true, true_and, and_false, false_and, not_true_eq_false, not_false_eq_true, Nat.add_zero])
  refine ⟨g3, ?_, fun c h1 h2 h3 h4 h5 => by rw [d2.1 c h1 h2 h3, a2 c h1 h2 h3 h4 h5]; exact h0 c h1 h2 h3 h4 h5, fun k hk => by rw [d2.2 k hk, a3 k hk]; exact h1 k hk⟩
  unfold fX12_meetOf zmeet
  rw [a1, zb_s, b1, zb_s, d1, zmatch_oi]
theorem zFR.of5 {g g1 : zM} (b1 : ∀ c, c ≠ 493 → c ≠ 501 → c ≠ 502 → c ≠ 503 → c ≠ 504 → g1 c = g c) (b2 : ∀ k, k < 19 → g1 493 k = g 493 k) : zFR g g1 := ⟨fun c h => b1 c (by omega) (by omega) (by omega) (by omega) (by omega), fun k _ => by rw [b1 494 (by omega) (by omega) (by omega) (by omega) (by omega)], b1 _ (by omega) (by omega) (by omega) (by omega) (by omega), b1 _ (by omega) (by omega) (by omega) (by omega) (by omega), b1 _ (by omega) (by omega) (by omega) (by omega) (by omega), b1 _ (by omega) (by omega) (by omega) (by omega) (by omega), b2 _ (by omega), b2 _ (by omega), b2 _ (by omega), b2 _ (by omega)⟩
theorem m_meet {S : zS} (hS : zSW S) (v w : Int32) (b : Bool) : zAsk [1, 2] S (fX11_meet v w (zbi b)) (fX12_meet v w (zbi b)) := by
  refine zAsk2 hS (f := fun v w => fX11_meet v w (zbi b)) (fm := fun v w => fX12_meet v w (zbi b)) v w (fun g e h => ?_) (fun g l e hl h => ?_) (fun g l e hl => ?_) (fun g e h => ?_) (fun g l e hl h => ?_) (fun g l e hl => ?_) (fun l m hl hm hlm => ?_)
  · unfold fX11_meet; rw [c_mailOf_no e h, zb3_e]
  · unfold fX11_meet; rw [c_mailOf hS e hl, zb3_s, c_mailOf_no e h, zb3_e]
  · unfold fX11_meet fX11_needTwo; rw [c_mailOf hS e hl, zb3_s, c_mailOf hS e hl, zb3_s, if_pos rfl, zb3_e]
  · unfold fX12_meet; simp only [zb_s, zb2_s, zb3_s, zb3_e, zjoin_e, zput_e, r_thr0, r_thr1, zi10, zi01, if_true, if_false, r_noLetter_no hS (e.thr hS 0) h]
  · unfold fX12_meet; simp only [zb_s, zb2_s, zb3_s, zb3_e, zjoin_e, zput_e, r_thr0, r_thr1, zi10, zi01, if_true, if_false, r_noLetter hS (e.thr hS 0) hl, r_noLetter_no hS (e.thr hS 0) h]
  · unfold fX12_meet; simp only [zb_s, zb2_s, zb3_s, zb3_e, zjoin_e, zput_e, r_thr0, r_thr1, zi10, zi01, if_true, if_false, r_noLetter hS (e.thr hS 0) hl]
  have h8 := hS.eight
  refine ⟨.ok (zoi (zmeet S b l m)), fun g e => ?_, fun g e => ?_⟩
  · have hW := hS.law
    obtain ⟨g1, a1, a2, a3⟩ := c_look (h := 446) (e.mail hl) (by omega) (hS.letter hl).2.1 (zSB S).2.2.1
    have e1 : zCI S g1 := e.fr hS (zFC.fs (fun c _ _ h3 => a3 c h3))
    obtain ⟨g2, b1, b2, b3⟩ := c_look (h := 450) (e1.mail hm) (by omega) (hS.letter hm).2.1 (zSB S).2.2.1
    have f2 : ∀ c, c ≠ 34 → c ≠ 35 → (c < 446 ∨ 454 ≤ c) → g2 c = g c := fun c h1 h2 h3 => by rw [b3 c (by omega), a3 c (by omega)]
    have main : ∃ g3, fX11_meet_L60 (zbi b) zFU 0 g2 = some (.ok (zoi (zmeet S b l m)), g3) ∧ ∀ c, c ≠ 34 → c ≠ 35 → (c < 446 ∨ 454 ≤ c) → g3 c = g c := by
      unfold zmeet
      refine zL_Q0 (fun n' i (s : zM) => fX11_meet_L60 (zbi b) n' (nI i) s) (fun i s => zSR s 446 ((zat S l i).1, (zat S l i).2, none) ∧ zSR s 450 ((zat S m i).1, (zat S m i).2, none) ∧ (∀ c, c ≠ 34 → c ≠ 35 → (c < 446 ∨ 454 ≤ c) → s c = g c) ∧ ∀ j, j < i → zmt2 b (zat S l j).1 (zat S m j).1 = false) 41 (fun x => ∃ g3, x = some (.ok (zoi (zff (fun n => zmt2 b (zat S l n).1 (zat S m n).1) 41)), g3) ∧ ∀ c, c ≠ 34 → c ≠ 35 → (c < 446 ∨ 454 ≤ c) → g3 c = g c) g2 (by omega) ⟨⟨a2.1.fr (b3 _ (by omega)) (b3 _ (by omega)) (b3 _ (by omega)), by rw [b3 446 (by omega)]; exact a2.2.1, by rw [b3 446 (by omega)]; exact a2.2.2⟩, b2, f2, fun j hj => absurd hj (by omega)⟩ (fun n' i s hi hh => ?_) (fun n' s hh => ?_)
      · obtain ⟨c1, c2, c3, c4⟩ := hh
        have hL' := zat_W hS hl i
        have hM' := zat_W hS hm i
        have el : zCL s 29 (zSL S) := e.law.fr (fun c _ _ => c3 c (by omega) (by omega) (by omega))
        obtain ⟨s1, d1, d2, d3⟩ := c_goWeek (h := 446) hW el (by omega) c1 hL' (fun k q => nomatch q)
        have el1 : zCL s1 29 (zSL S) := el.fr (fun c _ _ => d3 c (by omega) (by omega) (by omega))
        have c2' : zSR s1 450 ((zat S m i).1, (zat S m i).2, none) := ⟨c2.1.fr (d3 _ (by omega) (by omega) (by omega)) (d3 _ (by omega) (by omega) (by omega)) (d3 _ (by omega) (by omega) (by omega)), by rw [d3 450 (by omega) (by omega) (by omega)]; exact c2.2.1, by rw [d3 450 (by omega) (by omega) (by omega)]; exact c2.2.2⟩
        obtain ⟨s2, f1, f2', f3⟩ := c_goWeek (h := 450) hW el1 (by omega) c2' hM' (fun k q => nomatch q)
        rw [zgof_none] at d2 f2'
        have met : ∀ (K : Int32 → Option (Except Nat Int32 × zM)), (if zbi b = 0 then zb (fX3_lastKind 447 s) (fun r_12 => zb (fX3_lastKind 451 s) (fun r_13 => if r_12 = r_13 then K 1 else K 0)) else zb (fX3_firstUnlike 447 451 s) (fun r_15 => if r_15 = ((-1)) then K 1 else K 0)) = K (zbi (zmt2 b (zat S l i).1 (zat S m i).1)) := by
          intro K
          unfold zmt2
          cases b
          · have k1 := zlk_lt hL'
            have k2 := zlk_lt hM'
            rw [zbi_f, if_pos rfl, c_lastKind c1.1 hL', zb_s, c_lastKind c2.1 hM', zb_s]
            have hq : nI (zlk (zat S l i).1) = nI (zlk (zat S m i).1) ↔ zlk (zat S l i).1 = zlk (zat S m i).1 := nI_eq (by omega) (by omega)
            by_cases q : zlk (zat S l i).1 = zlk (zat S m i).1 <;> simp [hq, q, zbi]
          · rw [zbi_t, if_neg (by decide), c_unlike c1.1 c2.1 hL' hM', zb_s]
            have hz : ∀ x, zun (zat S l i).1 (zat S m i).1 = some x → x < 100 := by
              intro x hx
              have := hL'.2.1
              have := hM'.2.1
              unfold zun at hx
              cases q : zff (fun j => decide ((zat S l i).1.2.1 j ≠ (zat S m i).1.2.1 j)) (min (zat S l i).1.1 (zat S m i).1.1) with
              | some y =>
                rw [q] at hx
                have := (zff_lt q).1
                cases hx
                omega
              | none =>
                rw [q] at hx
                simp only at hx
                split at hx
                · exact nomatch hx
                · cases hx
                  omega
            cases q : zun (zat S l i).1 (zat S m i).1 with
            | none => simp [zoi, zbi]
            | some x =>
              have := hz x q
              rw [zoi_some, if_neg (by rw [nI_m1 (by omega)]; exact id)]
              simp [zbi]
        have whole : fX11_meet_L60 (zbi b) (n' + 1) (nI i) s = if zmt2 b (zat S l i).1 (zat S m i).1 = true then some (.ok (nI i), s) else fX11_meet_L60 (zbi b) n' (nI (i + 1)) s2 := by
          simp only [fX11_meet_L60]
          have h40 : ¬ (40 : Int32) < nI i := by
            rw [nL_gt (by omega) (by decide)]
            show ¬ 40 < i
            omega
          rw [if_neg h40, zjoin_e, met (fun t0_7 => if t0_7 = 0 then zb (fX7_goWeek 446 29 s) (fun g9 => zb (fX7_goWeek 450 29 g9) (fun g10 => fX11_meet_L60 (zbi b) n' (nI i + 1) g10)) else some (.ok (nI i), s)), d1, zb_s, f1, zb_s, nI_1]
          cases zmt2 b (zat S l i).1 (zat S m i).1 <;> simp [zbi]
        rw [whole]
        cases q : zmt2 b (zat S l i).1 (zat S m i).1
        · right
          refine ⟨s2, ⟨?_, ?_, fun c h1 h2 h3 => by rw [f3 c h1 h2 (by omega), d3 c h1 h2 (by omega)]; exact c3 c h1 h2 h3, fun j hj => ?_⟩, rfl⟩
          · rw [zat_s]
            exact ⟨d2.1.fr (f3 _ (by omega) (by omega) (by omega)) (f3 _ (by omega) (by omega) (by omega)) (f3 _ (by omega) (by omega) (by omega)), by rw [f3 446 (by omega) (by omega) (by omega)]; exact d2.2.1, by rw [f3 446 (by omega) (by omega) (by omega)]; exact d2.2.2⟩
          · rw [zat_s]; exact f2'
          · rcases Nat.lt_succ_iff_lt_or_eq.mp hj with q3 | q3
            · exact c4 j q3
            · rw [q3]; exact q
        · left
          rw [zff_some hi c4 q]
          exact ⟨s, rfl, c3⟩
      · obtain ⟨c1, c2, c3, c4⟩ := hh
        rw [zff_none c4]
        simp only [fX11_meet_L60]
        exact ⟨s, by simp (disch := omega) only [nL_lt, nL_gt, nL_le, nL_ge, nL_eq, nL_qe, nI_ltI, nI_leI, nI_eq, nL_add, nL_dda, nI_add, nL_sub, pk_sub, nL_mul, nL_clamp, nI_cl, zchk_n, zchk_l, zb_s, zb2_s, zb3_s, zb3_e, zput_e, zjoin_e, zs_hit, zs_miss, nle_t, nle_f, nlt_t, nlt_f, neq_t, neq_f, ↓reduceIte, and_self, and_true, true_and, and_false, false_and, not_true_eq_false, not_false_eq_true, Nat.add_zero]; rfl, c3⟩
    obtain ⟨g3, c1, c2⟩ := main
    refine ⟨g3, ?_, fun c h1 h2 h3 => c2 c h1 h2 (by omega), by rw [c2 481 (by omega) (by omega) (by omega)], by rw [c2 482 (by omega) (by omega) (by omega)]⟩
    show fX11_meet (nI l) (nI m) (zbi b) g = _
    unfold fX11_meet fX11_needTwo
    rw [c_mailOf hS e hl, zb3_s, c_mailOf hS e hm, zb3_s, if_neg (nI_ne hS hl hm hlm), zb3_s, e.week, a1, zb_s, e1.week, b1, zb_s]
    exact c1
  · have e0 := e.thr hS 0
    obtain ⟨g1, a1, a2, a3⟩ := r_meetOf hS e0 (g := zset g 493 0 0) (fun _ _ _ _ _ _ => rfl) (fun _ _ => rfl) hl hm b
    refine ⟨_, g1, ?_, zFR.thr.trans (.of5 a2 a3), by rw [a3 0 (by omega)]; simp (disch := omega) only [nL_lt, nL_gt, nL_le, nL_ge, nL_eq, nL_qe, nI_ltI, nI_leI, nI_eq, nL_add, nL_dda, nI_add, nL_sub, pk_sub, nL_mul, nL_clamp, nI_cl, zchk_n, zchk_l, zb_s, zb2_s, zb3_s, zb3_e, zput_e, zjoin_e, zs_hit, zs_miss, nle_t, nle_f, nlt_t, nlt_f, neq_t, neq_f, ↓reduceIte, and_self, and_true, true_and, and_false, false_and, not_true_eq_false, not_false_eq_true, Nat.add_zero], rfl⟩
    show fX12_meet (nI l) (nI m) (zbi b) g = _
    unfold fX12_meet
    simp only [zb_s, zb2_s, zb3_s, zb3_e, zjoin_e, zput_e, r_thr0, r_thr1, zi10, zi01, if_true, if_false, r_noLetter hS e0 hl, r_noLetter hS e0 hm, nI_ne hS hl hm hlm, a1]
/-- MEET of two that are SEALED -/
def zdm (S : zS) (l m : Nat) : Option Nat := if ((zSB S).2.1 l).2.2.2.2.2.1 = true ∨ ((zSB S).2.1 m).2.2.2.2.2.1 = true then none else zmeet S false l m
/-- (the soonest, the pair) -/
def zdst (S : zS) (l m : Nat) (a : Nat × Int32) : Nat × Int32 := match zdm S l m with
  | none => a
  | some n => if n < a.1 then (n, 10 * nI l + nI m) else a
theorem zdst_le {S : zS} {l m : Nat} {a : Nat × Int32} (h : a.1 ≤ 41) : (zdst S l m a).1 ≤ 41 := by
  unfold zdst
  cases zdm S l m with
  | none => exact h
  | some n =>
    simp only
    split
    · simp only; omega
    · exact h
def zdrw (S : zS) (N : Nat) : Nat × Int32 := zfo (fun l a => zfo (fun m a => zdst S l m a) ((zSB S).1 - (l + 1)) (l + 1) a) N 0 (41, -1)
theorem zdm_lt {S : zS} {l m n : Nat} (h : zdm S l m = some n) : n < 41 := by
  unfold zdm at h
  split at h
  · exact nomatch h
  · exact (zff_lt h).1
theorem zfo_le {S : zS} {l : Nat} : ∀ (d j : Nat) {a : Nat × Int32}, a.1 ≤ 41 → (zfo (fun m a => zdst S l m a) d j a).1 ≤ 41
  | 0, _, _, h => h
  | d + 1, j, a, h => zfo_le d (j + 1) (zdst_le h)
/-- like zL_F, with an invariant -/
theorem zL_FI {α β : Type} (F : Nat → Nat → α → Option β) (f : Nat → α → α) (I : α → Prop) (N : Nat) (K : α → Option β) (hI : ∀ i a, i < N → I a → I (f i a)) (hs : ∀ n i a, i < N → I a → F (n + 1) i a = F n (i + 1) (f i a)) (he : ∀ n a, I a → F (n + 1) N a = K a) : ∀ d i n a, i + d = N → d < n → I a → F n i a = K (zfo f d i a) := by
  intro d
  induction d with
  | zero =>
    intro i n a hi hn h
    obtain ⟨m, rfl⟩ : ∃ m, n = m + 1 := ⟨n - 1, by omega⟩
    obtain rfl : i = N := hi
    exact he m a h
  | succ d ih =>
    intro i n a hi hn h
    obtain ⟨m, rfl⟩ : ∃ m, n = m + 1 := ⟨n - 1, by omega⟩
    rw [hs m i a (by omega) h, ih (i + 1) m _ (by omega) (by omega) (hI i a (by omega) h)]
    rfl
theorem m_drawer {S : zS} (hS : zSW S) : ∃ r : Int32, (∀ g, zCI S g → ∃ g1, fX11_drawer g = some (r, g1) ∧ zFC g g1) ∧ ∀ g, zRI S g → ∃ g1, fX12_drawer g = some (r, g1) ∧ zFR g g1 := by
  have h8 := hS.eight
  refine ⟨(zdrw S (zSB S).1).2, fun g e => ?_, fun g e => ?_⟩
  · -- fill
    have fill : ∃ g1, fX11_fillLastsAhead g = some g1 ∧ (∀ c, c ≠ 34 → c ≠ 35 → (c < 446 ∨ 450 ≤ c) → (c < 484 ∨ 492 ≤ c) → g1 c = g c) ∧ ∀ l, l < (zSB S).1 → ∀ n, n < 41 → g1 (484 + l) n = nI (zlk (zat S l n).1) := by
      unfold fX11_fillLastsAhead
      refine zL_Q0 (fun n' i (s : zM) => fX11_fillLastsAhead_L2 n' (nI i) s) (fun i s => (∀ c, c ≠ 34 → c ≠ 35 → (c < 446 ∨ 450 ≤ c) → (c < 484 ∨ 492 ≤ c) → s c = g c) ∧ ∀ l, l < i → ∀ n, n < 41 → s (484 + l) n = nI (zlk (zat S l n).1)) (zSB S).1 (fun x => ∃ g1, x = some g1 ∧ (∀ c, c ≠ 34 → c ≠ 35 → (c < 446 ∨ 450 ≤ c) → (c < 484 ∨ 492 ≤ c) → g1 c = g c) ∧ ∀ l, l < (zSB S).1 → ∀ n, n < 41 → g1 (484 + l) n = nI (zlk (zat S l n).1)) g (by omega) ⟨fun _ _ _ _ _ => rfl, fun l hl => absurd hl (by omega)⟩ (fun n' i s hi hh => ?_) (fun n' s hh => ?_)
      · obtain ⟨b1, b2⟩ := hh
        have es : zCI S s := e.fr' hS (fun c h1 h2 h3 => b1 c h1 h2 (by omega) (by omega)) (by rw [b1 481 (by omega) (by omega) (by omega) (by omega)]) (by rw [b1 482 (by omega) (by omega) (by omega) (by omega)])
        obtain ⟨s1, c1, c2, c3⟩ := c_look (h := 446) (es.mail hi) (by omega) (hS.letter hi).2.1 (zSB S).2.2.1
        right
        have inner : ∃ s2, fX11_fillLastsAhead_L47 (nI i) (fun g10 => fX11_fillLastsAhead_L2 n' (nI i + 1) g10) zFU 0 s1 = fX11_fillLastsAhead_L2 n' (nI (i + 1)) s2 ∧ (∀ c, c ≠ 34 → c ≠ 35 → (c < 446 ∨ 450 ≤ c) → c ≠ 484 + i → s2 c = s1 c) ∧ ∀ n, n < 41 → s2 (484 + i) n = nI (zlk (zat S i n).1) := by
          refine zL_Q0 (fun n'' j (t : zM) => fX11_fillLastsAhead_L47 (nI i) (fun g10 => fX11_fillLastsAhead_L2 n' (nI i + 1) g10) n'' (nI j) t) (fun j t => zSR t 446 ((zat S i j).1, (zat S i j).2, none) ∧ (∀ c, c ≠ 34 → c ≠ 35 → (c < 446 ∨ 450 ≤ c) → c ≠ 484 + i → t c = s1 c) ∧ ∀ n, n < j → t (484 + i) n = nI (zlk (zat S i n).1)) 41 (fun x => ∃ s2, x = fX11_fillLastsAhead_L2 n' (nI (i + 1)) s2 ∧ (∀ c, c ≠ 34 → c ≠ 35 → (c < 446 ∨ 450 ≤ c) → c ≠ 484 + i → s2 c = s1 c) ∧ ∀ n, n < 41 → s2 (484 + i) n = nI (zlk (zat S i n).1)) s1 (by omega) ⟨c2, fun _ _ _ _ _ => rfl, fun n hn => absurd hn (by omega)⟩ (fun n'' j t hj ht => ?_) (fun n'' t ht => ?_)
          · obtain ⟨t1, t2, t3⟩ := ht
            have hW' := zat_W hS hi j
            have el : zCL (zset t (484 + i) j (nI (zlk (zat S i j).1))) 29 (zSL S) := e.law.fr (fun c _ _ => by rw [zs_cell (by omega), t2 c (by omega) (by omega) (by omega) (by omega), c3 c (by omega), b1 c (by omega) (by omega) (by omega) (by omega)])
            have t1' : zSR (zset t (484 + i) j (nI (zlk (zat S i j).1))) 446 ((zat S i j).1, (zat S i j).2, none) := ⟨t1.1.fr (zs_cell (by omega)) (zs_cell (by omega)) (zs_cell (by omega)), by rw [zs_cell (by omega)]; exact t1.2.1, by rw [zs_cell (by omega)]; exact t1.2.2⟩
            obtain ⟨t4, d1, d2, d3⟩ := c_goWeek (h := 446) hS.law el (by omega) t1' hW' (fun k q => nomatch q)
            rw [zgof_none] at d2
            right
            refine ⟨t4, ⟨by rw [zat_s]; exact d2, fun c h1 h2 h3 h4 => by rw [d3 c h1 h2 (by omega), zs_cell h4]; exact t2 c h1 h2 h3 h4, fun n hn => ?_⟩, ?_⟩
            · rw [d3 _ (by omega) (by omega) (by omega)]
              by_cases q : n = j
              · subst q; simp (disch := omega) only [nL_lt, nL_gt, nL_le, nL_ge, nL_eq, nL_qe, nI_ltI, nI_leI, nI_eq, nL_add, nL_dda, nI_add, nL_sub, pk_sub, nL_mul, nL_clamp, nI_cl, zchk_n, zchk_l, zb_s, zb2_s, zb3_s, zb3_e, zput_e, zjoin_e, zs_hit, zs_miss, nle_t, nle_f, nlt_t, nlt_f, neq_t, neq_f, ↓reduceIte, and_self, and_true, true_and, and_false, false_and, not_true_eq_false, not_false_eq_true, Nat.add_zero]
              · simp (disch := omega) only [nL_lt, nL_gt, nL_le, nL_ge, nL_eq, nL_qe, nI_ltI, nI_leI, nI_eq, nL_add, nL_dda, nI_add, nL_sub, pk_sub, nL_mul, nL_clamp, nI_cl, zchk_n, zchk_l, zb_s, zb2_s, zb3_s, zb3_e, zput_e, zjoin_e, zs_hit, zs_miss, nle_t, nle_f, nlt_t, nlt_f, neq_t, neq_f, ↓reduceIte, and_self, and_true, true_and, and_false, false_and, not_true_eq_false, not_false_eq_true, Nat.add_zero]; exact t3 n (by omega)
            · simp only [fX11_fillLastsAhead_L47]
              rw [c_lastKind (h := 447) t1.1 hW']
              simp (disch := omega) only [nL_lt, nL_gt, nL_le, nL_ge, nL_eq, nL_qe, nI_ltI, nI_leI, nI_eq, nL_add, nL_dda, nI_add, nL_sub, pk_sub, nL_mul, nL_clamp, nI_cl, zchk_n, zchk_l, zb_s, zb2_s, zb3_s, zb3_e, zput_e, zjoin_e, zs_hit, zs_miss, nle_t, nle_f, nlt_t, nlt_f, neq_t, neq_f, ↓reduceIte, and_self, and_true, true_and, and_false, false_and, not_true_eq_false, not_false_eq_true, Nat.add_zero]
              rw [show 483 + 1 + i = 484 + i from by omega, d1, zb_s]
          · obtain ⟨t1, t2, t3⟩ := ht
            refine ⟨t, ?_, t2, t3⟩
            simp only [fX11_fillLastsAhead_L47]
            simp (disch := omega) only [nL_lt, nL_gt, nL_le, nL_ge, nL_eq, nL_qe, nI_ltI, nI_leI, nI_eq, nL_add, nL_dda, nI_add, nL_sub, pk_sub, nL_mul, nL_clamp, nI_cl, zchk_n, zchk_l, zb_s, zb2_s, zb3_s, zb3_e, zput_e, zjoin_e, zs_hit, zs_miss, nle_t, nle_f, nlt_t, nlt_f, neq_t, neq_f, ↓reduceIte, and_self, and_true, true_and, and_false, false_and, not_true_eq_false, not_false_eq_true, Nat.add_zero]
        obtain ⟨s2, d1, d2, d3⟩ := inner
        refine ⟨s2, ⟨fun c h1 h2 h3 h4 => by rw [d2 c h1 h2 h3 (by omega), c3 c (by omega)]; exact b1 c h1 h2 h3 h4, fun l hl n hn => ?_⟩, ?_⟩
        · by_cases q : l = i
          · subst q; exact d3 n hn
          · rw [d2 _ (by omega) (by omega) (by omega) (by omega), c3 _ (by omega)]; exact b2 l (by omega) n hn
        · simp only [fX11_fillLastsAhead_L2, es.size, es.week]
          have hle : ¬ nI (zSB S).1 ≤ nI i := by
            rw [nI_leI (by omega) (by omega)]
            omega
          rw [if_neg hle, zchk_n (by omega) (by omega), nI_cl (by omega), c1, zb_s, d1]
      · obtain ⟨b1, b2⟩ := hh
        have es : zCI S s := e.fr' hS (fun c h1 h2 h3 => b1 c h1 h2 (by omega) (by omega)) (by rw [b1 481 (by omega) (by omega) (by omega) (by omega)]) (by rw [b1 482 (by omega) (by omega) (by omega) (by omega)])
        simp only [fX11_fillLastsAhead_L2, es.size]
        exact ⟨s, by simp (disch := omega) only [nL_lt, nL_gt, nL_le, nL_ge, nL_eq, nL_qe, nI_ltI, nI_leI, nI_eq, nL_add, nL_dda, nI_add, nL_sub, pk_sub, nL_mul, nL_clamp, nI_cl, zchk_n, zchk_l, zb_s, zb2_s, zb3_s, zb3_e, zput_e, zjoin_e, zs_hit, zs_miss, nle_t, nle_f, nlt_t, nlt_f, neq_t, neq_f, ↓reduceIte, and_self, and_true, true_and, and_false, false_and, not_true_eq_false, not_false_eq_true, Nat.add_zero], b1, b2⟩
    obtain ⟨g1, a1, a2, a3⟩ := fill
    have e1 : zCI S g1 := e.fr' hS (fun c h1 h2 h3 => a2 c h1 h2 (by omega) (by omega)) (by rw [a2 481 (by omega) (by omega) (by omega) (by omega)]) (by rw [a2 482 (by omega) (by omega) (by omega) (by omega)])
    refine ⟨g1, ?_, fun c h1 h2 h3 => a2 c h1 h2 (by omega) (by omega), by rw [a2 481 (by omega) (by omega) (by omega) (by omega)], by rw [a2 482 (by omega) (by omega) (by omega) (by omega)]⟩
    unfold fX11_drawer
    rw [a1, zb_s]
    have fm : ∀ l m, l < (zSB S).1 → m < (zSB S).1 → fX11_firstMeeting (nI l) (nI m) g1 = some (zoi (zmeet S false l m)) := by
      intro l m hl hm
      unfold fX11_firstMeeting zmeet
      refine Eq.trans (zL_P (fun n i => fX11_firstMeeting_L2 (nI l) (nI m) g1 n (nI i)) (fun n => zmt2 false (zat S l n).1 (zat S m n).1) 41 (fun i => some (nI i)) (some (-1)) (by omega) (fun n i hi => ?_) (fun n => ?_)) ?_
      · have k1 := zlk_lt (zat_W hS hl i)
        have k2 := zlk_lt (zat_W hS hm i)
        simp only [fX11_firstMeeting_L2]
        simp (disch := omega) only [nL_lt, nL_gt, nL_le, nL_ge, nL_eq, nL_qe, nI_ltI, nI_leI, nI_eq, nL_add, nL_dda, nI_add, nL_sub, pk_sub, nL_mul, nL_clamp, nI_cl, zchk_n, zchk_l, zb_s, zb2_s, zb3_s, zb3_e, zput_e, zjoin_e, zs_hit, zs_miss, nle_t, nle_f, nlt_t, nlt_f, neq_t, neq_f, ↓reduceIte, and_self, and_true, true_and, and_false, false_and, not_true_eq_false, not_false_eq_true, Nat.add_zero]
        rw [show 483 + 1 + l = 484 + l from by omega, show 483 + 1 + m = 484 + m from by omega, a3 l hl i hi, a3 m hm i hi]
        unfold zmt2
        have hq : nI (zlk (zat S l i).1) = nI (zlk (zat S m i).1) ↔ zlk (zat S l i).1 = zlk (zat S m i).1 := nI_eq (by omega) (by omega)
        by_cases q : zlk (zat S l i).1 = zlk (zat S m i).1 <;> simp [hq, q]
      · simp only [fX11_firstMeeting_L2]
        simp (disch := omega) only [nL_lt, nL_gt, nL_le, nL_ge, nL_eq, nL_qe, nI_ltI, nI_leI, nI_eq, nL_add, nL_dda, nI_add, nL_sub, pk_sub, nL_mul, nL_clamp, nI_cl, zchk_n, zchk_l, zb_s, zb2_s, zb3_s, zb3_e, zput_e, zjoin_e, zs_hit, zs_miss, nle_t, nle_f, nlt_t, nlt_f, neq_t, neq_f, ↓reduceIte, and_self, and_true, true_and, and_false, false_and, not_true_eq_false, not_false_eq_true, Nat.add_zero]
      · cases zff (fun n => zmt2 false (zat S l n).1 (zat S m n).1) 41 <;> rfl
    have as : ∀ l m, l < (zSB S).1 → m < (zSB S).1 → fX0_areSealed 3 (nI l) (nI m) g1 = some (zbi (!((zSB S).2.1 l).2.2.2.2.2.1 && !((zSB S).2.1 m).2.2.2.2.2.1)) := by
      intro l m hl hm
      unfold fX0_areSealed
      rw [c_openSet e1.2.2.2.1.1 h8, zb_s, b_test (by omega), zb_s, b_test (by omega), b_zbs (Nat.le_trans h8 (by omega)) (by omega), b_zbs (Nat.le_trans h8 (by omega)) (by omega)]
      cases q1 : ((zSB S).2.1 l).2.2.2.2.2.1 <;> cases q2 : ((zSB S).2.1 m).2.2.2.2.2.1 <;> simp [hl, hm, q1, q2, zbi]
    refine zL_FI (fun n' i (a : Nat × Int32) => fX11_drawer_L11 g1 n' (nI a.1) a.2 (nI i)) (fun l a => zfo (fun m a => zdst S l m a) ((zSB S).1 - (l + 1)) (l + 1) a) (fun a => a.1 ≤ 41) (zSB S).1 (fun a => some (a.2, g1)) (fun i a hi ha => zfo_le _ _ ha) (fun n' i a hi ha => ?_) (fun n' a ha => ?_) (zSB S).1 0 zFU (41, -1) (by omega) (by unfold zFU; omega) (Nat.le_refl _)
    · simp only [fX11_drawer_L11, e1.size]
      have hle : ¬ nI (zSB S).1 ≤ nI i := by
        rw [nI_leI (by omega) (by omega)]
        omega
      rw [if_neg hle, nI_1]
      refine zL_FI (fun n'' j (a : Nat × Int32) => fX11_drawer_L30 (nI i) g1 (fun v1_10 v2_10 => fX11_drawer_L11 g1 n' v1_10 v2_10 (nI (i + 1))) n'' (nI a.1) a.2 (nI j)) (fun m a => zdst S i m a) (fun a => a.1 ≤ 41) (zSB S).1 (fun a => fX11_drawer_L11 g1 n' (nI a.1) a.2 (nI (i + 1))) (fun j a hj ha => zdst_le ha) (fun n'' j a hj ha => ?_) (fun n'' a ha => ?_) ((zSB S).1 - (i + 1)) (i + 1) zFU a (by omega) (by unfold zFU; omega) ha
      · simp only [fX11_drawer_L30, e1.size]
        have hle : ¬ nI (zSB S).1 ≤ nI j := by
          rw [nI_leI (by omega) (by omega)]
          omega
        rw [if_neg hle, as i j hi hj, zb_s, fm i j hi hj]
        have : ∀ K : Int32 → Option (Int32 × zM), zjoin K (fun k72 => if zbi (!((zSB S).2.1 i).2.2.2.2.2.1 && !((zSB S).2.1 j).2.2.2.2.2.1) = 0 then k72 ((-1)) else zb (some (zoi (zmeet S false i j))) (fun r_9 => k72 r_9)) = K (zoi (zdm S i j)) := by
          intro K
          rw [zjoin_e]
          unfold zdm
          cases ((zSB S).2.1 i).2.2.2.2.2.1 <;> cases ((zSB S).2.1 j).2.2.2.2.2.1 <;> simp [zbi, zb, zoi]
        rw [this]
        unfold zdst
        cases q : zdm S i j with
        | none => simp [zoi, nI_1]
        | some n =>
          have := zdm_lt q
          simp (disch := omega) only [nL_lt, nL_gt, nL_le, nL_ge, nL_eq, nL_qe, nI_ltI, nI_leI, nI_eq, nL_add, nL_dda, nI_add, nL_sub, pk_sub, nL_mul, nL_clamp, nI_cl, zchk_n, zchk_l, zb_s, zb2_s, zb3_s, zb3_e, zput_e, zjoin_e, zs_hit, zs_miss, nle_t, nle_f, nlt_t, nlt_f, neq_t, neq_f, ↓reduceIte, and_self, and_true, true_and, and_false, false_and, not_true_eq_false, not_false_eq_true, Nat.add_zero, zoi_some, nI_m1]
          by_cases q2 : n < a.1
          · simp (disch := omega) only [nL_lt, nL_gt, nL_le, nL_ge, nL_eq, nL_qe, nI_ltI, nI_leI, nI_eq, nL_add, nL_dda, nI_add, nL_sub, pk_sub, nL_mul, nL_clamp, nI_cl, zchk_n, zchk_l, zb_s, zb2_s, zb3_s, zb3_e, zput_e, zjoin_e, zs_hit, zs_miss, nle_t, nle_f, nlt_t, nlt_f, neq_t, neq_f, ↓reduceIte, and_self, and_true, true_and, and_false, false_and, not_true_eq_false, not_false_eq_true, Nat.add_zero]
          · simp (disch := omega) only [nL_lt, nL_gt, nL_le, nL_ge, nL_eq, nL_qe, nI_ltI, nI_leI, nI_eq, nL_add, nL_dda, nI_add, nL_sub, pk_sub, nL_mul, nL_clamp, nI_cl, zchk_n, zchk_l, zb_s, zb2_s, zb3_s, zb3_e, zput_e, zjoin_e, zs_hit, zs_miss, nle_t, nle_f, nlt_t, nlt_f, neq_t, neq_f, ↓reduceIte, and_self, and_true, true_and, and_false, false_and, not_true_eq_false, not_false_eq_true, Nat.add_zero]
      · simp only [fX11_drawer_L30, e1.size]
        simp (disch := omega) only [nL_lt, nL_gt, nL_le, nL_ge, nL_eq, nL_qe, nI_ltI, nI_leI, nI_eq, nL_add, nL_dda, nI_add, nL_sub, pk_sub, nL_mul, nL_clamp, nI_cl, zchk_n, zchk_l, zb_s, zb2_s, zb3_s, zb3_e, zput_e, zjoin_e, zs_hit, zs_miss, nle_t, nle_f, nlt_t, nlt_f, neq_t, neq_f, ↓reduceIte, and_self, and_true, true_and, and_false, false_and, not_true_eq_false, not_false_eq_true, Nat.add_zero]
    · simp only [fX11_drawer_L11, e1.size]
      simp (disch := omega) only [nL_lt, nL_gt, nL_le, nL_ge, nL_eq, nL_qe, nI_ltI, nI_leI, nI_eq, nL_add, nL_dda, nI_add, nL_sub, pk_sub, nL_mul, nL_clamp, nI_cl, zchk_n, zchk_l, zb_s, zb2_s, zb3_s, zb3_e, zput_e, zjoin_e, zs_hit, zs_miss, nle_t, nle_f, nlt_t, nlt_f, neq_t, neq_f, ↓reduceIte, and_self, and_true, true_and, and_false, false_and, not_true_eq_false, not_false_eq_true, Nat.add_zero]
  · have e0 := e.thr hS 0
    unfold fX12_drawer
    rw [zput_e]
    have main : ∃ g1, fX12_drawer_L12 zFU (-1) 41 0 (zset g 493 0 0) = some ((zdrw S (zSB S).1).2, g1) ∧ (∀ c, c ≠ 493 → c ≠ 501 → c ≠ 502 → c ≠ 503 → c ≠ 504 → g1 c = zset g 493 0 0 c) ∧ ∀ k, k < 19 → g1 493 k = zset g 493 0 0 493 k := by
      refine zL_Q0 (fun n' i (st : (Nat × Int32) × zM) => fX12_drawer_L12 n' st.1.2 (nI st.1.1) (nI i) st.2) (fun i st => (st.1 = zdrw S i ∧ st.1.1 ≤ 41) ∧ (∀ c, c ≠ 493 → c ≠ 501 → c ≠ 502 → c ≠ 503 → c ≠ 504 → st.2 c = zset g 493 0 0 c) ∧ ∀ k, k < 19 → st.2 493 k = zset g 493 0 0 493 k) (zSB S).1 (fun x => ∃ g1, x = some ((zdrw S (zSB S).1).2, g1) ∧ (∀ c, c ≠ 493 → c ≠ 501 → c ≠ 502 → c ≠ 503 → c ≠ 504 → g1 c = zset g 493 0 0 c) ∧ ∀ k, k < 19 → g1 493 k = zset g 493 0 0 493 k) ((41, -1), zset g 493 0 0) (by omega) ⟨⟨rfl, Nat.le_refl _⟩, fun _ _ _ _ _ _ => rfl, fun _ _ => rfl⟩ (fun n' i st hi hh => ?_) (fun n' st hh => ?_)
      · obtain ⟨a, s⟩ := st
        obtain ⟨⟨b0, b0'⟩, b1, b2⟩ := hh
        have b0 : a = zdrw S i := b0
        have b0' : a.1 ≤ 41 := b0'
        have es : zRI S s := e0.fr hS (.of5 b1 b2)
        have inner : ∃ s2, fX12_drawer_L25 (nI i) (fun v1_14 v2_14 g14 => fX12_drawer_L12 n' v1_14 v2_14 (nI i + 1) g14) zFU a.2 (nI a.1) (nI (i + 1)) s = fX12_drawer_L12 n' (zdrw S (i + 1)).2 (nI (zdrw S (i + 1)).1) (nI i + 1) s2 ∧ (zdrw S (i + 1)).1 ≤ 41 ∧ (∀ c, c ≠ 493 → c ≠ 501 → c ≠ 502 → c ≠ 503 → c ≠ 504 → s2 c = zset g 493 0 0 c) ∧ ∀ k, k < 19 → s2 493 k = zset g 493 0 0 493 k := by
          have hz : zdrw S (i + 1) = zfo (fun m a => zdst S i m a) ((zSB S).1 - (i + 1)) (i + 1) a := by
            unfold zdrw
            rw [zfo_s, b0]
            rfl
          refine zL_Q (fun n'' j (st : (Nat × Int32) × zM) => fX12_drawer_L25 (nI i) (fun v1_14 v2_14 g14 => fX12_drawer_L12 n' v1_14 v2_14 (nI i + 1) g14) n'' st.1.2 (nI st.1.1) (nI j) st.2) (fun j st => (st.1.1 ≤ 41 ∧ zfo (fun m a => zdst S i m a) ((zSB S).1 - j) j st.1 = zdrw S (i + 1)) ∧ (∀ c, c ≠ 493 → c ≠ 501 → c ≠ 502 → c ≠ 503 → c ≠ 504 → st.2 c = zset g 493 0 0 c) ∧ ∀ k, k < 19 → st.2 493 k = zset g 493 0 0 493 k) (zSB S).1 (fun x => ∃ s2, x = fX12_drawer_L12 n' (zdrw S (i + 1)).2 (nI (zdrw S (i + 1)).1) (nI i + 1) s2 ∧ (zdrw S (i + 1)).1 ≤ 41 ∧ (∀ c, c ≠ 493 → c ≠ 501 → c ≠ 502 → c ≠ 503 → c ≠ 504 → s2 c = zset g 493 0 0 c) ∧ ∀ k, k < 19 → s2 493 k = zset g 493 0 0 493 k) (fun n'' j st hj hh => ?_) (fun n'' st hh => ?_) ((zSB S).1 - (i + 1)) (i + 1) zFU (a, s) (by omega) (by unfold zFU; omega) ⟨⟨b0', hz.symm⟩, b1, b2⟩
          · obtain ⟨a, t⟩ := st
            obtain ⟨⟨c0, c0'⟩, c1, c2⟩ := hh
            have c0 : a.1 ≤ 41 := c0
            have et : zRI S t := e0.fr hS (.of5 c1 c2)
            have c0' : zfo (fun m a => zdst S i m a) ((zSB S).1 - j) j a = zdrw S (i + 1) := c0'
            rw [show (zSB S).1 - j = ((zSB S).1 - (j + 1)) + 1 from by omega] at c0'
            have c0' : zfo (fun m a => zdst S i m a) ((zSB S).1 - (j + 1)) (j + 1) (zdst S i j a) = zdrw S (i + 1) := c0'
            obtain ⟨t1, d1, d2, d3⟩ := r_meetOf hS e0 c1 c2 hi hj false
            right
            have whole : ∃ t2, fX12_drawer_L25 (nI i) (fun v1_14 v2_14 g14 => fX12_drawer_L12 n' v1_14 v2_14 (nI i + 1) g14) (n'' + 1) a.2 (nI a.1) (nI j) t = fX12_drawer_L25 (nI i) (fun v1_14 v2_14 g14 => fX12_drawer_L12 n' v1_14 v2_14 (nI i + 1) g14) n'' (zdst S i j a).2 (nI (zdst S i j a).1) (nI (j + 1)) t2 ∧ (∀ c, c ≠ 493 → c ≠ 501 → c ≠ 502 → c ≠ 503 → c ≠ 504 → t2 c = zset g 493 0 0 c) ∧ ∀ k, k < 19 → t2 493 k = zset g 493 0 0 493 k := by
              simp only [fX12_drawer_L25, r_letters et, r_isOpen hS et hi, r_isOpen hS et hj, zb_s]
              have hle : ¬ nI (zSB S).1 ≤ nI j := by
                rw [nI_leI (by omega) (by omega)]
                omega
              rw [if_neg hle]
              have hj0 : ∃ t2, ((∀ c, c ≠ 493 → c ≠ 501 → c ≠ 502 → c ≠ 503 → c ≠ 504 → t2 c = zset g 493 0 0 c) ∧ ∀ k, k < 19 → t2 493 k = zset g 493 0 0 493 k) ∧ ∀ K : Int32 → zM → Option (Int32 × zM), zjoin K (fun k63 => if zbi ((zSB S).2.1 i).2.2.2.2.2.1 = 0 then if zbi ((zSB S).2.1 j).2.2.2.2.2.1 = 0 then zb2 (fX12_meetOf (nI i) (nI j) 0 t) (fun r_13 g13 => k63 r_13 g13) else k63 ((-1)) t else k63 ((-1)) t) = K (zoi (zdm S i j)) t2 := by
                have d1' : fX12_meetOf (nI i) (nI j) 0 t = some (zoi (zmeet S false i j), t1) := d1
                unfold zdm
                cases ((zSB S).2.1 i).2.2.2.2.2.1 <;> cases ((zSB S).2.1 j).2.2.2.2.2.1
                · refine ⟨t1, ⟨d2, d3⟩, fun K => ?_⟩
                  rw [zjoin_e, d1']
                  simp [zbi, zb2]
                · refine ⟨t, ⟨c1, c2⟩, fun K => ?_⟩
                  rw [zjoin_e]
                  simp [zbi, zoi]
                · refine ⟨t, ⟨c1, c2⟩, fun K => ?_⟩
                  rw [zjoin_e]
                  simp [zbi, zoi]
                · refine ⟨t, ⟨c1, c2⟩, fun K => ?_⟩
                  rw [zjoin_e]
                  simp [zbi, zoi]
              obtain ⟨t2, f1, f2⟩ := hj0
              refine ⟨t2, ?_, f1⟩
              rw [f2]
              unfold zdst
              cases q : zdm S i j with
              | none => simp (disch := omega) only [nL_lt, nL_gt, nL_le, nL_ge, nL_eq, nL_qe, nI_ltI, nI_leI, nI_eq, nL_add, nL_dda, nI_add, nL_sub, pk_sub, nL_mul, nL_clamp, nI_cl, zchk_n, zchk_l, zb_s, zb2_s, zb3_s, zb3_e, zput_e, zjoin_e, zs_hit, zs_miss, nle_t, nle_f, nlt_t, nlt_f, neq_t, neq_f, ↓reduceIte, and_self, and_true, true_and, and_false, false_and, not_true_eq_false, not_false_eq_true, Nat.add_zero, zoi_none, show ((-1 : Int32) < 0) = True from by decide]
              | some n =>
                have := zdm_lt q
                simp (disch := omega) only [nL_lt, nL_gt, nL_le, nL_ge, nL_eq, nL_qe, nI_ltI, nI_leI, nI_eq, nL_add, nL_dda, nI_add, nL_sub, pk_sub, nL_mul, nL_clamp, nI_cl, zchk_n, zchk_l, zb_s, zb2_s, zb3_s, zb3_e, zput_e, zjoin_e, zs_hit, zs_miss, nle_t, nle_f, nlt_t, nlt_f, neq_t, neq_f, ↓reduceIte, and_self, and_true, true_and, and_false, false_and, not_true_eq_false, not_false_eq_true, Nat.add_zero, zoi_some]
                by_cases q2 : n < a.1
                · simp (disch := omega) only [nL_lt, nL_gt, nL_le, nL_ge, nL_eq, nL_qe, nI_ltI, nI_leI, nI_eq, nL_add, nL_dda, nI_add, nL_sub, pk_sub, nL_mul, nL_clamp, nI_cl, zchk_n, zchk_l, zb_s, zb2_s, zb3_s, zb3_e, zput_e, zjoin_e, zs_hit, zs_miss, nle_t, nle_f, nlt_t, nlt_f, neq_t, neq_f, ↓reduceIte, and_self, and_true, true_and, and_false, false_and, not_true_eq_false, not_false_eq_true, Nat.add_zero]
                · simp (disch := omega) only [nL_lt, nL_gt, nL_le, nL_ge, nL_eq, nL_qe, nI_ltI, nI_leI, nI_eq, nL_add, nL_dda, nI_add, nL_sub, pk_sub, nL_mul, nL_clamp, nI_cl, zchk_n, zchk_l, zb_s, zb2_s, zb3_s, zb3_e, zput_e, zjoin_e, zs_hit, zs_miss, nle_t, nle_f, nlt_t, nlt_f, neq_t, neq_f, ↓reduceIte, and_self, and_true, true_and, and_false, false_and, not_true_eq_false, not_false_eq_true, Nat.add_zero]
            obtain ⟨t2, w1, w2, w3⟩ := whole
            exact ⟨(zdst S i j a, t2), ⟨⟨zdst_le c0, c0'⟩, w2, w3⟩, w1⟩
          · obtain ⟨a, t⟩ := st
            obtain ⟨⟨c0, c0'⟩, c1, c2⟩ := hh
            have c0 : a.1 ≤ 41 := c0
            have et : zRI S t := e0.fr hS (.of5 c1 c2)
            have c0' : zfo (fun m a => zdst S i m a) ((zSB S).1 - (zSB S).1) (zSB S).1 a = zdrw S (i + 1) := c0'
            rw [Nat.sub_self] at c0'
            have c0' : a = zdrw S (i + 1) := c0'
            rw [← c0']
            refine ⟨t, ?_, c0, c1, c2⟩
            simp only [fX12_drawer_L25, r_letters et, zb_s]
            simp (disch := omega) only [nL_lt, nL_gt, nL_le, nL_ge, nL_eq, nL_qe, nI_ltI, nI_leI, nI_eq, nL_add, nL_dda, nI_add, nL_sub, pk_sub, nL_mul, nL_clamp, nI_cl, zchk_n, zchk_l, zb_s, zb2_s, zb3_s, zb3_e, zput_e, zjoin_e, zs_hit, zs_miss, nle_t, nle_f, nlt_t, nlt_f, neq_t, neq_f, ↓reduceIte, and_self, and_true, true_and, and_false, false_and, not_true_eq_false, not_false_eq_true, Nat.add_zero]
        obtain ⟨s2, w1, w2, w3, w4⟩ := inner
        right
        refine ⟨(zdrw S (i + 1), s2), ⟨⟨rfl, w2⟩, w3, w4⟩, ?_⟩
        simp only [fX12_drawer_L12, r_letters es, zb_s]
        have hle : ¬ nI (zSB S).1 ≤ nI i := by
          rw [nI_leI (by omega) (by omega)]
          omega
        rw [if_neg hle, nI_1, ← nI_1] 
        rw [nI_1]
        rw [nI_1] at w1
        exact w1
      · obtain ⟨a, s⟩ := st
        obtain ⟨⟨b0, b0'⟩, b1, b2⟩ := hh
        have b0 : a = zdrw S (zSB S).1 := b0
        have es : zRI S s := e0.fr hS (.of5 b1 b2)
        rw [← b0]
        refine ⟨s, ?_, b1, b2⟩
        simp only [fX12_drawer_L12, r_letters es, zb_s]
        simp (disch := omega) only [nL_lt, nL_gt, nL_le, nL_ge, nL_eq, nL_qe, nI_ltI, nI_leI, nI_eq, nL_add, nL_dda, nI_add, nL_sub, pk_sub, nL_mul, nL_clamp, nI_cl, zchk_n, zchk_l, zb_s, zb2_s, zb3_s, zb3_e, zput_e, zjoin_e, zs_hit, zs_miss, nle_t, nle_f, nlt_t, nlt_f, neq_t, neq_f, ↓reduceIte, and_self, and_true, true_and, and_false, false_and, not_true_eq_false, not_false_eq_true, Nat.add_zero]
    obtain ⟨g1, a1, a2, a3⟩ := main
    exact ⟨g1, a1, zFR.thr.trans (.of5 a2 a3)⟩
