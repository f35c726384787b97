/-! FORKS, TEMPERS -/
theorem r_growF {W : zLw} (hW : zWW W) {g : zM} (e : zRL g 494 W) {L : zL} (hL : zLW L) {w : Int32} (eR : zRR g L L.1 w) {f : Option Nat} : ∃ g1, fX12_growsOnce g = some g1 ∧ zRR g1 (zg1 W L w) (zg1 W L w).1 w ∧ zFQ g g1 := r_growsOnce hW e hL eR
/-- one week of forkOf -/
theorem r_forkL {S : zS} (hS : zSW S) {g0 : zM} (e : zRI S g0) {k n : Nat} (hk : k < 12) (hn : n ≤ 40) : ∀ (d i m : Nat) (p : zL × Int32 × Option Nat) (g : zM), i + d = n → d < m → zFQ g0 g → zRR g p.1 p.1.1 p.2.1 → zLW p.1 → (p.2.2 = none ∨ p.2.2 = some k) → ∃ g1, fX12_forkOf_L11 (nI n) (nI k) m (zbi p.2.2.isNone) (nI i) g = some (nI (zlk (zahf (zSL S) d p).1), g1) ∧ zFQ g0 g1 := by
  have hW := hS.law
  intro d
  induction d with
  | zero =>
    intro i m p g hi hm hf eR hL hfk
    obtain ⟨m, rfl⟩ : ∃ q, m = q + 1 := ⟨m - 1, by omega⟩
    refine ⟨g, ?_, hf⟩
    simp only [fX12_forkOf_L11]
    simp (disch := omega) only [nL_lt, nL_gt, nL_le, nL_ge, nL_eq, nL_qe, nI_ltI, nI_leI, nI_eq, nL_add, nL_dda, nI_add, nL_sub, pk_sub, nL_mul, nL_clamp, nI_cl, zchk_n, zchk_l, zb_s, zb2_s, zb3_s, zb3_e, zput_e, zjoin_e, zs_hit, zs_miss, nle_t, nle_f, nlt_t, nlt_f, neq_t, neq_f, ↓reduceIte, and_self, and_true, true_and, and_false, false_and, not_true_eq_false, not_false_eq_true, Nat.add_zero, r_last eR hL]
    rfl
  | succ d ih =>
    intro i m p g hi hm hf eR hL hfk
    obtain ⟨m, rfl⟩ : ∃ q, m = q + 1 := ⟨m - 1, by omega⟩
    obtain ⟨L, w, f⟩ := p
    have hfk : f = none ∨ f = some k := hfk
    have hL : zLW L := hL
    have eR : zRR g L L.1 w := eR
    have h24 := hL.2.1
    have hf12 : ∀ j, f = some j → j < 12 := fun j q => by rcases hfk with h | h; rw [h] at q; exact nomatch q; rw [h] at q; cases q; exact hk
    obtain ⟨g1, a1, a2, a3⟩ := r_growsOnce hW (e.fq hS hf).law hL eR
    have b3 := hf.trans a3
    have wf := zg1f_W hW hL hf12 w
    have c0 : g 493 19 = nI L.1 := eR.1
    -- behind the fork
    have hmid : ∃ g2, (zRR g2 (zg1f (zSL S) L w f).1 (zg1f (zSL S) L w f).1.1 w ∧ zFQ g0 g2) ∧ ∀ (K : Int32 → zM → Option (Int32 × zM)), (if zbi f.isNone = 0 then if g1 493 19 ≤ nI L.1 then K (zbi f.isNone) g1 else zchk (nI L.1) 24 (K 1 (zset g1 502 L.1 (nI k))) else K (zbi f.isNone) g1) = K (zbi (zg1f (zSL S) L w f).2.isNone) g2 := by
      have d1 : g1 493 19 = nI (zg1 (zSL S) L w).1 := a2.1
      unfold zg1f zg1 at *
      cases q : zgr (zSL S) L w with
      | none =>
        rw [q] at a2 d1
        simp only at a2 d1
        refine ⟨g1, ⟨a2, b3⟩, fun K => ?_⟩
        rcases hfk with rfl | rfl
        · simp [zbi]
        · simp (disch := omega) only [nL_lt, nL_gt, nL_le, nL_ge, nL_eq, nL_qe, nI_ltI, nI_leI, nI_eq, nL_add, nL_dda, nI_add, nL_sub, pk_sub, nL_mul, nL_clamp, nI_cl, zchk_n, zchk_l, zb_s, zb2_s, zb3_s, zb3_e, zput_e, zjoin_e, zs_hit, zs_miss, nle_t, nle_f, nlt_t, nlt_f, neq_t, neq_f, ↓reduceIte, and_self, and_true, true_and, and_false, false_and, not_true_eq_false, not_false_eq_true, Nat.add_zero, d1, Option.isNone_some, zbi_f]
      | some j =>
        obtain ⟨j1, j2, j3⟩ := zgr_lt hW q
        rw [q] at a2 d1
        simp only at a2 d1
        have d1 : g1 493 19 = nI (L.1 + 1) := d1
        rcases hfk with rfl | rfl
        · exact ⟨g1, ⟨a2, b3⟩, fun K => by simp [zbi]⟩
        · refine ⟨zset g1 502 L.1 (nI k), ⟨⟨?_, fun i hi => ?_, ?_, ?_, ?_, ?_, ?_⟩, b3.trans ⟨fun c h1 h2 h3 => by simp (disch := omega) only [nL_lt, nL_gt, nL_le, nL_ge, nL_eq, nL_qe, nI_ltI, nI_leI, nI_eq, nL_add, nL_dda, nI_add, nL_sub, pk_sub, nL_mul, nL_clamp, nI_cl, zchk_n, zchk_l, zb_s, zb2_s, zb3_s, zb3_e, zput_e, zjoin_e, zs_hit, zs_miss, nle_t, nle_f, nlt_t, nlt_f, neq_t, neq_f, ↓reduceIte, and_self, and_true, true_and, and_false, false_and, not_true_eq_false, not_false_eq_true, Nat.add_zero, zs_cell], fun k hk => by simp (disch := omega) only [nL_lt, nL_gt, nL_le, nL_ge, nL_eq, nL_qe, nI_ltI, nI_leI, nI_eq, nL_add, nL_dda, nI_add, nL_sub, pk_sub, nL_mul, nL_clamp, nI_cl, zchk_n, zchk_l, zb_s, zb2_s, zb3_s, zb3_e, zput_e, zjoin_e, zs_hit, zs_miss, nle_t, nle_f, nlt_t, nlt_f, neq_t, neq_f, ↓reduceIte, and_self, and_true, true_and, and_false, false_and, not_true_eq_false, not_false_eq_true, Nat.add_zero]⟩⟩, fun K => ?_⟩
          · simp (disch := omega) only [nL_lt, nL_gt, nL_le, nL_ge, nL_eq, nL_qe, nI_ltI, nI_leI, nI_eq, nL_add, nL_dda, nI_add, nL_sub, pk_sub, nL_mul, nL_clamp, nI_cl, zchk_n, zchk_l, zb_s, zb2_s, zb3_s, zb3_e, zput_e, zjoin_e, zs_hit, zs_miss, nle_t, nle_f, nlt_t, nlt_f, neq_t, neq_f, ↓reduceIte, and_self, and_true, true_and, and_false, false_and, not_true_eq_false, not_false_eq_true, Nat.add_zero]; exact d1
          · have hi' : i < L.1 + 1 := hi
            show _ = nI (zup L.2.1 L.1 k i)
            by_cases q2 : i = L.1
            · simp (disch := omega) only [nL_lt, nL_gt, nL_le, nL_ge, nL_eq, nL_qe, nI_ltI, nI_leI, nI_eq, nL_add, nL_dda, nI_add, nL_sub, pk_sub, nL_mul, nL_clamp, nI_cl, zchk_n, zchk_l, zb_s, zb2_s, zb3_s, zb3_e, zput_e, zjoin_e, zs_hit, zs_miss, nle_t, nle_f, nlt_t, nlt_f, neq_t, neq_f, ↓reduceIte, and_self, and_true, true_and, and_false, false_and, not_true_eq_false, not_false_eq_true, Nat.add_zero, zup_hit]
            · simp (disch := omega) only [nL_lt, nL_gt, nL_le, nL_ge, nL_eq, nL_qe, nI_ltI, nI_leI, nI_eq, nL_add, nL_dda, nI_add, nL_sub, pk_sub, nL_mul, nL_clamp, nI_cl, zchk_n, zchk_l, zb_s, zb2_s, zb3_s, zb3_e, zput_e, zjoin_e, zs_hit, zs_miss, nle_t, nle_f, nlt_t, nlt_f, neq_t, neq_f, ↓reduceIte, and_self, and_true, true_and, and_false, false_and, not_true_eq_false, not_false_eq_true, Nat.add_zero, zup_miss]
              have := a2.2.1 i hi
              rw [this]
              show nI (zup L.2.1 L.1 j i) = _
              rw [zup_miss q2]
          · simp (disch := omega) only [nL_lt, nL_gt, nL_le, nL_ge, nL_eq, nL_qe, nI_ltI, nI_leI, nI_eq, nL_add, nL_dda, nI_add, nL_sub, pk_sub, nL_mul, nL_clamp, nI_cl, zchk_n, zchk_l, zb_s, zb2_s, zb3_s, zb3_e, zput_e, zjoin_e, zs_hit, zs_miss, nle_t, nle_f, nlt_t, nlt_f, neq_t, neq_f, ↓reduceIte, and_self, and_true, true_and, and_false, false_and, not_true_eq_false, not_false_eq_true, Nat.add_zero]; exact a2.2.2.1
          · simp (disch := omega) only [nL_lt, nL_gt, nL_le, nL_ge, nL_eq, nL_qe, nI_ltI, nI_leI, nI_eq, nL_add, nL_dda, nI_add, nL_sub, pk_sub, nL_mul, nL_clamp, nI_cl, zchk_n, zchk_l, zb_s, zb2_s, zb3_s, zb3_e, zput_e, zjoin_e, zs_hit, zs_miss, nle_t, nle_f, nlt_t, nlt_f, neq_t, neq_f, ↓reduceIte, and_self, and_true, true_and, and_false, false_and, not_true_eq_false, not_false_eq_true, Nat.add_zero]; exact a2.2.2.2.1
          · simp (disch := omega) only [nL_lt, nL_gt, nL_le, nL_ge, nL_eq, nL_qe, nI_ltI, nI_leI, nI_eq, nL_add, nL_dda, nI_add, nL_sub, pk_sub, nL_mul, nL_clamp, nI_cl, zchk_n, zchk_l, zb_s, zb2_s, zb3_s, zb3_e, zput_e, zjoin_e, zs_hit, zs_miss, nle_t, nle_f, nlt_t, nlt_f, neq_t, neq_f, ↓reduceIte, and_self, and_true, true_and, and_false, false_and, not_true_eq_false, not_false_eq_true, Nat.add_zero]; exact a2.2.2.2.2.1
          · simp (disch := omega) only [nL_lt, nL_gt, nL_le, nL_ge, nL_eq, nL_qe, nI_ltI, nI_leI, nI_eq, nL_add, nL_dda, nI_add, nL_sub, pk_sub, nL_mul, nL_clamp, nI_cl, zchk_n, zchk_l, zb_s, zb2_s, zb3_s, zb3_e, zput_e, zjoin_e, zs_hit, zs_miss, nle_t, nle_f, nlt_t, nlt_f, neq_t, neq_f, ↓reduceIte, and_self, and_true, true_and, and_false, false_and, not_true_eq_false, not_false_eq_true, Nat.add_zero]; exact a2.2.2.2.2.2.1
          · simp (disch := omega) only [nL_lt, nL_gt, nL_le, nL_ge, nL_eq, nL_qe, nI_ltI, nI_leI, nI_eq, nL_add, nL_dda, nI_add, nL_sub, pk_sub, nL_mul, nL_clamp, nI_cl, zchk_n, zchk_l, zb_s, zb2_s, zb3_s, zb3_e, zput_e, zjoin_e, zs_hit, zs_miss, nle_t, nle_f, nlt_t, nlt_f, neq_t, neq_f, ↓reduceIte, and_self, and_true, true_and, and_false, false_and, not_true_eq_false, not_false_eq_true, Nat.add_zero]; exact a2.2.2.2.2.2.2
          · simp (disch := omega) only [nL_lt, nL_gt, nL_le, nL_ge, nL_eq, nL_qe, nI_ltI, nI_leI, nI_eq, nL_add, nL_dda, nI_add, nL_sub, pk_sub, nL_mul, nL_clamp, nI_cl, zchk_n, zchk_l, zb_s, zb2_s, zb3_s, zb3_e, zput_e, zjoin_e, zs_hit, zs_miss, nle_t, nle_f, nlt_t, nlt_f, neq_t, neq_f, ↓reduceIte, and_self, and_true, true_and, and_false, false_and, not_true_eq_false, not_false_eq_true, Nat.add_zero, d1, Option.isNone_some, Option.isNone_none, zbi_f, zbi_t]
    obtain ⟨g2, ⟨e2, f2⟩, hK⟩ := hmid
    have hh : g2 493 24 = zbi L.2.2.2.2.2.2 := by rw [e2.2.2.2.2.2.2, wf.2.2]
    have hw22 : ∀ (g3 : zM) (L3 : zL), zRR g3 L3 L3.1 w → zRR (zset g3 493 22 (if g3 493 22 + 1 < 9999 then g3 493 22 + 1 else 9999)) L3 L3.1 (zwk w) ∧ zFQ g3 (zset g3 493 22 (if g3 493 22 + 1 < 9999 then g3 493 22 + 1 else 9999)) := by
      intro g3 L3 h3
      obtain ⟨r1, r2, r3, r4, r5, r6, r7⟩ := h3
      refine ⟨⟨?_, fun i hi => ?_, ?_, ?_, ?_, ?_, ?_⟩, ⟨fun c h1 h2 h3 => ?_, fun k hk => ?_⟩⟩
      · simp (disch := omega) only [nL_lt, nL_gt, nL_le, nL_ge, nL_eq, nL_qe, nI_ltI, nI_leI, nI_eq, nL_add, nL_dda, nI_add, nL_sub, pk_sub, nL_mul, nL_clamp, nI_cl, zchk_n, zchk_l, zb_s, zb2_s, zb3_s, zb3_e, zput_e, zjoin_e, zs_hit, zs_miss, nle_t, nle_f, nlt_t, nlt_f, neq_t, neq_f, ↓reduceIte, and_self, and_true, true_and, and_false, false_and, not_true_eq_false, not_false_eq_true, Nat.add_zero]; exact r1
      · simp (disch := omega) only [nL_lt, nL_gt, nL_le, nL_ge, nL_eq, nL_qe, nI_ltI, nI_leI, nI_eq, nL_add, nL_dda, nI_add, nL_sub, pk_sub, nL_mul, nL_clamp, nI_cl, zchk_n, zchk_l, zb_s, zb2_s, zb3_s, zb3_e, zput_e, zjoin_e, zs_hit, zs_miss, nle_t, nle_f, nlt_t, nlt_f, neq_t, neq_f, ↓reduceIte, and_self, and_true, true_and, and_false, false_and, not_true_eq_false, not_false_eq_true, Nat.add_zero]; exact r2 i hi
      · simp (disch := omega) only [nL_lt, nL_gt, nL_le, nL_ge, nL_eq, nL_qe, nI_ltI, nI_leI, nI_eq, nL_add, nL_dda, nI_add, nL_sub, pk_sub, nL_mul, nL_clamp, nI_cl, zchk_n, zchk_l, zb_s, zb2_s, zb3_s, zb3_e, zput_e, zjoin_e, zs_hit, zs_miss, nle_t, nle_f, nlt_t, nlt_f, neq_t, neq_f, ↓reduceIte, and_self, and_true, true_and, and_false, false_and, not_true_eq_false, not_false_eq_true, Nat.add_zero]; exact r3
      · simp (disch := omega) only [nL_lt, nL_gt, nL_le, nL_ge, nL_eq, nL_qe, nI_ltI, nI_leI, nI_eq, nL_add, nL_dda, nI_add, nL_sub, pk_sub, nL_mul, nL_clamp, nI_cl, zchk_n, zchk_l, zb_s, zb2_s, zb3_s, zb3_e, zput_e, zjoin_e, zs_hit, zs_miss, nle_t, nle_f, nlt_t, nlt_f, neq_t, neq_f, ↓reduceIte, and_self, and_true, true_and, and_false, false_and, not_true_eq_false, not_false_eq_true, Nat.add_zero]; exact r4
      · simp (disch := omega) only [nL_lt, nL_gt, nL_le, nL_ge, nL_eq, nL_qe, nI_ltI, nI_leI, nI_eq, nL_add, nL_dda, nI_add, nL_sub, pk_sub, nL_mul, nL_clamp, nI_cl, zchk_n, zchk_l, zb_s, zb2_s, zb3_s, zb3_e, zput_e, zjoin_e, zs_hit, zs_miss, nle_t, nle_f, nlt_t, nlt_f, neq_t, neq_f, ↓reduceIte, and_self, and_true, true_and, and_false, false_and, not_true_eq_false, not_false_eq_true, Nat.add_zero]; rw [r5]; exact zwk_r w
      · simp (disch := omega) only [nL_lt, nL_gt, nL_le, nL_ge, nL_eq, nL_qe, nI_ltI, nI_leI, nI_eq, nL_add, nL_dda, nI_add, nL_sub, pk_sub, nL_mul, nL_clamp, nI_cl, zchk_n, zchk_l, zb_s, zb2_s, zb3_s, zb3_e, zput_e, zjoin_e, zs_hit, zs_miss, nle_t, nle_f, nlt_t, nlt_f, neq_t, neq_f, ↓reduceIte, and_self, and_true, true_and, and_false, false_and, not_true_eq_false, not_false_eq_true, Nat.add_zero]; exact r6
      · simp (disch := omega) only [nL_lt, nL_gt, nL_le, nL_ge, nL_eq, nL_qe, nI_ltI, nI_leI, nI_eq, nL_add, nL_dda, nI_add, nL_sub, pk_sub, nL_mul, nL_clamp, nI_cl, zchk_n, zchk_l, zb_s, zb2_s, zb3_s, zb3_e, zput_e, zjoin_e, zs_hit, zs_miss, nle_t, nle_f, nlt_t, nlt_f, neq_t, neq_f, ↓reduceIte, and_self, and_true, true_and, and_false, false_and, not_true_eq_false, not_false_eq_true, Nat.add_zero]; exact r7
      · simp (disch := omega) only [nL_lt, nL_gt, nL_le, nL_ge, nL_eq, nL_qe, nI_ltI, nI_leI, nI_eq, nL_add, nL_dda, nI_add, nL_sub, pk_sub, nL_mul, nL_clamp, nI_cl, zchk_n, zchk_l, zb_s, zb2_s, zb3_s, zb3_e, zput_e, zjoin_e, zs_hit, zs_miss, nle_t, nle_f, nlt_t, nlt_f, neq_t, neq_f, ↓reduceIte, and_self, and_true, true_and, and_false, false_and, not_true_eq_false, not_false_eq_true, Nat.add_zero, zs_cell]
      · simp (disch := omega) only [nL_lt, nL_gt, nL_le, nL_ge, nL_eq, nL_qe, nI_ltI, nI_leI, nI_eq, nL_add, nL_dda, nI_add, nL_sub, pk_sub, nL_mul, nL_clamp, nI_cl, zchk_n, zchk_l, zb_s, zb2_s, zb3_s, zb3_e, zput_e, zjoin_e, zs_hit, zs_miss, nle_t, nle_f, nlt_t, nlt_f, neq_t, neq_f, ↓reduceIte, and_self, and_true, true_and, and_false, false_and, not_true_eq_false, not_false_eq_true, Nat.add_zero]
    -- the second of a hot one
    have hsec : ∃ g3, (zRR g3 (zgof (zSL S) (L, w, f)).1 (zgof (zSL S) (L, w, f)).1.1 w ∧ zFQ g0 g3) ∧ (zgof (zSL S) (L, w, f)).2.2 = (zg1f (zSL S) L w f).2 ∧ ∀ (K : zM → Option (Int32 × zM)), (if g2 493 24 = 0 then K g2 else zb (fX12_growsOnce g2) K) = K g3 := by
      have hgo : zgof (zSL S) (L, w, f) = ((if L.2.2.2.2.2.2 = true then zg1f (zSL S) (zg1f (zSL S) L w f).1 w (zg1f (zSL S) L w f).2 else zg1f (zSL S) L w f).1, zwk w, (if L.2.2.2.2.2.2 = true then zg1f (zSL S) (zg1f (zSL S) L w f).1 w (zg1f (zSL S) L w f).2 else zg1f (zSL S) L w f).2) := rfl
      rw [hgo, hh]
      cases hot : L.2.2.2.2.2.2
      · exact ⟨g2, ⟨e2, f2⟩, rfl, fun K => by simp [zbi]⟩
      · obtain ⟨g3, b1, b2, b3'⟩ := r_growsOnce hW (e.fq hS f2).law wf.1 e2
        have same : (zg1f (zSL S) (zg1f (zSL S) L w f).1 w (zg1f (zSL S) L w f).2).1 = zg1 (zSL S) (zg1f (zSL S) L w f).1 w ∧ (zg1f (zSL S) (zg1f (zSL S) L w f).1 w (zg1f (zSL S) L w f).2).2 = (zg1f (zSL S) L w f).2 := by
          cases q : zgr (zSL S) L w with
          | none =>
            have z1 : zg1f (zSL S) L w f = (L, f) := by unfold zg1f; rw [q]
            have z2 : zg1 (zSL S) L w = L := by unfold zg1; rw [q]
            rw [z1]
            show (zg1f (zSL S) L w f).1 = zg1 (zSL S) L w ∧ (zg1f (zSL S) L w f).2 = f
            rw [z1, z2]
            exact ⟨rfl, rfl⟩
          | some j =>
            have z1 : zg1f (zSL S) L w f = (zLadd L (f.getD j) w, none) := by unfold zg1f; rw [q]
            rw [z1]
            show (zg1f (zSL S) (zLadd L (f.getD j) w) w none).1 = _ ∧ (zg1f (zSL S) (zLadd L (f.getD j) w) w none).2 = none
            rw [zg1f_none]
            exact ⟨rfl, rfl⟩
        refine ⟨g3, ⟨?_, f2.trans b3'⟩, ?_, fun K => ?_⟩
        · simp only [if_true]
          rw [same.1]
          exact b2
        · simp only [if_true]
          exact same.2
        · simp (disch := omega) only [nL_lt, nL_gt, nL_le, nL_ge, nL_eq, nL_qe, nI_ltI, nI_leI, nI_eq, nL_add, nL_dda, nI_add, nL_sub, pk_sub, nL_mul, nL_clamp, nI_cl, zchk_n, zchk_l, zb_s, zb2_s, zb3_s, zb3_e, zput_e, zjoin_e, zs_hit, zs_miss, nle_t, nle_f, nlt_t, nlt_f, neq_t, neq_f, ↓reduceIte, and_self, and_true, true_and, and_false, false_and, not_true_eq_false, not_false_eq_true, Nat.add_zero, zbi_t, zi10, b1]
    obtain ⟨g3, ⟨e3, f3⟩, hg2, hK2⟩ := hsec
    obtain ⟨e4, f4⟩ := hw22 g3 _ e3
    have wf2 := zgof_W hW (p := (L, w, f)) hL hf12
    have hnk : (zgof (zSL S) (L, w, f)).2.2 = none ∨ (zgof (zSL S) (L, w, f)).2.2 = some k := by
      rw [hg2]
      unfold zg1f
      cases zgr (zSL S) L w with
      | none => exact hfk
      | some j => exact Or.inl rfl
    obtain ⟨g5, h1, h2⟩ := ih (i + 1) m (zgof (zSL S) (L, w, f)) _ (by omega) (by omega) (f3.trans f4) e4 wf2.1 hnk
    refine ⟨g5, ?_, h2⟩
    simp only [fX12_forkOf_L11, c0]
    have hni : ¬ nI n ≤ nI i := by
      rw [nI_leI (by omega) (by omega)]
      omega
    rw [if_neg hni, a1, zb_s, nI_cl (by omega)]
    simp only [zjoin_e]
    show (if zbi f.isNone = 0 then if g1 493 19 ≤ nI L.1 then _ else zchk (nI L.1) 24 (zput _ _ _ _ _) else _) = _
    simp only [zput_e]
    rw [hK (fun v4_5 g5 => if g5 493 24 = 0 then fX12_forkOf_L11 (nI n) (nI k) m v4_5 (nI i + 1) (zset g5 493 22 (if g5 493 22 + 1 < 9999 then g5 493 22 + 1 else 9999)) else zb (fX12_growsOnce g5) (fun g9 => fX12_forkOf_L11 (nI n) (nI k) m v4_5 (nI i + 1) (zset g9 493 22 (if g9 493 22 + 1 < 9999 then g9 493 22 + 1 else 9999))))]
    rw [hK2 (fun g6 => fX12_forkOf_L11 (nI n) (nI k) m (zbi (zg1f (zSL S) L w f).2.isNone) (nI i + 1) (zset g6 493 22 (if g6 493 22 + 1 < 9999 then g6 493 22 + 1 else 9999)))]
    rw [← hg2, nI_1]
    exact h1
theorem m_forks {S : zS} (hS : zSW S) (v nv : Int32) : zAsk [1, 2] S (fX11_forks v nv) (fX12_forks v nv) := by
  rcases zix v (zsz hS) with h | ⟨l, hl, rfl⟩
  · refine ⟨.error 1, fun g e => ⟨g, ?_, .refl⟩, fun g e => zRa_err2 (t := 1) (b := 0) ?_ (by decide)⟩
    · unfold fX11_forks; rw [c_mailOf_no e h, zb3_e]
    · unfold fX12_forks; simp only [zb_s, zb2_s, zb3_s, zb3_e, zjoin_e, zput_e, r_thr0, r_thr1, zi10, zi01, if_true, if_false, r_noLetter_no hS (e.thr hS 0) h]
  have bad : (∀ g : zM, fX11_needAhead nv 1 g = some (.error 2, g)) → (∀ g : zM, fX12_in nv 1 40 g = some 0) → zAsk [1, 2] S (fX11_forks (nI l) nv) (fX12_forks (nI l) nv) := by
    intro h1 h2
    refine ⟨.error 2, fun g e => ⟨g, ?_, .refl⟩, fun g e => zRa_err2 (t := 2) (b := 0) ?_ (by decide)⟩
    · unfold fX11_forks; rw [c_mailOf hS e hl, zb3_s, h1 g, zb3_e]
    · unfold fX12_forks; simp only [zb_s, zb2_s, zb3_s, zb3_e, zjoin_e, zput_e, r_thr0, r_thr1, zi10, zi01, if_true, if_false, r_noLetter hS (e.thr hS 0) hl, h2]
  rcases zix nv (n := 41) (by omega) with h | ⟨n, hn, rfl⟩
  · refine bad (fun g => c_needAhead_no h (m := 1) (by omega)) (fun g => ?_)
    unfold fX12_in
    by_cases q : nv < 1
    · rw [if_pos q]
    · have h1 : ¬ nv < 0 := fun q2 => q (by
        rw [Int32.lt_iff_toInt_lt] at q2 ⊢
        have : (0 : Int32).toInt = 0 := by decide
        have : (1 : Int32).toInt = 1 := by decide
        omega)
      have h2 := zbad_nlt h h1
      rw [if_neg q, if_pos (by
        rw [Int32.lt_iff_toInt_lt] at h2 ⊢
        rw [nI_toInt (by omega)] at h2
        have : (40 : Int32).toInt = 40 := by decide
        omega)]
  by_cases h0 : n = 0
  · subst h0
    refine bad (fun g => ?_) (fun g => ?_)
    · unfold fX11_needAhead
      simp (disch := omega) only [nL_lt, nL_gt, nL_le, nL_ge, nL_eq, nL_qe, nI_ltI, nI_leI, nI_eq, nL_add, nL_dda, nI_add, nL_sub, pk_sub, nL_mul, nL_clamp, nI_cl, zchk_n, zchk_l, zb_s, zb2_s, zb3_s, zb3_e, zput_e, zjoin_e, zs_hit, zs_miss, nle_t, nle_f, nlt_t, nlt_f, neq_t, neq_f, ↓reduceIte, and_self, and_true, true_and, and_false, false_and, not_true_eq_false, not_false_eq_true, Nat.add_zero]
    · unfold fX12_in
      simp (disch := omega) only [nL_lt, nL_gt, nL_le, nL_ge, nL_eq, nL_qe, nI_ltI, nI_leI, nI_eq, nL_add, nL_dda, nI_add, nL_sub, pk_sub, nL_mul, nL_clamp, nI_cl, zchk_n, zchk_l, zb_s, zb2_s, zb3_s, zb3_e, zput_e, zjoin_e, zs_hit, zs_miss, nle_t, nle_f, nlt_t, nlt_f, neq_t, neq_f, ↓reduceIte, and_self, and_true, true_and, and_false, false_and, not_true_eq_false, not_false_eq_true, Nat.add_zero]
  have hL := hS.letter hl
  have h8 := hS.eight
  have hA : ∃ A : Nat → Int32, A 0 = 0 ∧ ∀ i, A (i + 1) = A i ||| ((1 : Int32) <<< (nI (zlk (zahf (zSL S) n ((zSB S).2.1 l, (zSB S).2.2.1, some i)).1) &&& 31)) := ⟨fun i => zfo (fun k a => a ||| ((1 : Int32) <<< (nI (zlk (zahf (zSL S) n ((zSB S).2.1 l, (zSB S).2.2.1, some k)).1) &&& 31))) i 0 0, rfl, fun i => zfo_s⟩
  obtain ⟨A, hA0, hAs⟩ := hA
  refine ⟨.ok (A 12), fun g e => ?_, fun g e => ?_⟩
  · have main : ∃ g2, fX11_forks_L17 (nI n) (4 + 1 + 3 * l) zFU 0 0 g = some (.ok (A 12), g2) ∧ zFC g g2 := by
      generalize hN : 12 = N
      have hN12 : (12 : Int32) = nI N := by rw [← hN]; rfl
      have hN2 : N ≤ 12 := by omega
      refine zL_Q0 (fun n' i (st : Int32 × zM) => fX11_forks_L17 (nI n) (4 + 1 + 3 * l) n' st.1 (nI i) st.2) (fun i st => zFS 446 g st.2 ∧ st.1 = A i) N (fun x => ∃ g2, x = some (.ok (A N), g2) ∧ zFC g g2) (0, g) (by omega) ⟨.refl, hA0.symm⟩ (fun n' i st hi hh => ?_) (fun n' st hh => ?_)
      · obtain ⟨a, s⟩ := st
        obtain ⟨b1, b2⟩ := hh
        have b1 : zFS 446 g s := b1
        have b2 : a = A i := b2
        obtain ⟨s1, c1, c2, c3⟩ := c_lookF hS e b1 hl
        have c4 : zSR (zset s1 446 2 (nI i)) 446 ((zSB S).2.1 l, (zSB S).2.2.1, some i) := ⟨c2.1.fr (by simp (disch := omega) only [nL_lt, nL_gt, nL_le, nL_ge, nL_eq, nL_qe, nI_ltI, nI_leI, nI_eq, nL_add, nL_dda, nI_add, nL_sub, pk_sub, nL_mul, nL_clamp, nI_cl, zchk_n, zchk_l, zb_s, zb2_s, zb3_s, zb3_e, zput_e, zjoin_e, zs_hit, zs_miss, nle_t, nle_f, nlt_t, nlt_f, neq_t, neq_f, ↓reduceIte, and_self, and_true, true_and, and_false, false_and, not_true_eq_false, not_false_eq_true, Nat.add_zero, zs_cell]) (by simp (disch := omega) only [nL_lt, nL_gt, nL_le, nL_ge, nL_eq, nL_qe, nI_ltI, nI_leI, nI_eq, nL_add, nL_dda, nI_add, nL_sub, pk_sub, nL_mul, nL_clamp, nI_cl, zchk_n, zchk_l, zb_s, zb2_s, zb3_s, zb3_e, zput_e, zjoin_e, zs_hit, zs_miss, nle_t, nle_f, nlt_t, nlt_f, neq_t, neq_f, ↓reduceIte, and_self, and_true, true_and, and_false, false_and, not_true_eq_false, not_false_eq_true, Nat.add_zero, zs_cell]) (by simp (disch := omega) only [nL_lt, nL_gt, nL_le, nL_ge, nL_eq, nL_qe, nI_ltI, nI_leI, nI_eq, nL_add, nL_dda, nI_add, nL_sub, pk_sub, nL_mul, nL_clamp, nI_cl, zchk_n, zchk_l, zb_s, zb2_s, zb3_s, zb3_e, zput_e, zjoin_e, zs_hit, zs_miss, nle_t, nle_f, nlt_t, nlt_f, neq_t, neq_f, ↓reduceIte, and_self, and_true, true_and, and_false, false_and, not_true_eq_false, not_false_eq_true, Nat.add_zero, zs_cell]), by simp (disch := omega) only [nL_lt, nL_gt, nL_le, nL_ge, nL_eq, nL_qe, nI_ltI, nI_leI, nI_eq, nL_add, nL_dda, nI_add, nL_sub, pk_sub, nL_mul, nL_clamp, nI_cl, zchk_n, zchk_l, zb_s, zb2_s, zb3_s, zb3_e, zput_e, zjoin_e, zs_hit, zs_miss, nle_t, nle_f, nlt_t, nlt_f, neq_t, neq_f, ↓reduceIte, and_self, and_true, true_and, and_false, false_and, not_true_eq_false, not_false_eq_true, Nat.add_zero]; exact c2.2.1, by simp (disch := omega) only [nL_lt, nL_gt, nL_le, nL_ge, nL_eq, nL_qe, nI_ltI, nI_leI, nI_eq, nL_add, nL_dda, nI_add, nL_sub, pk_sub, nL_mul, nL_clamp, nI_cl, zchk_n, zchk_l, zb_s, zb2_s, zb3_s, zb3_e, zput_e, zjoin_e, zs_hit, zs_miss, nle_t, nle_f, nlt_t, nlt_f, neq_t, neq_f, ↓reduceIte, and_self, and_true, true_and, and_false, false_and, not_true_eq_false, not_false_eq_true, Nat.add_zero]; rfl⟩
        have c5 : zFS 446 g (zset s1 446 2 (nI i)) := c3.trans (fun c _ _ h3 => by simp (disch := omega) only [nL_lt, nL_gt, nL_le, nL_ge, nL_eq, nL_qe, nI_ltI, nI_leI, nI_eq, nL_add, nL_dda, nI_add, nL_sub, pk_sub, nL_mul, nL_clamp, nI_cl, zchk_n, zchk_l, zb_s, zb2_s, zb3_s, zb3_e, zput_e, zjoin_e, zs_hit, zs_miss, nle_t, nle_f, nlt_t, nlt_f, neq_t, neq_f, ↓reduceIte, and_self, and_true, true_and, and_false, false_and, not_true_eq_false, not_false_eq_true, Nat.add_zero, zs_cell])
        obtain ⟨s2, d1, d2, d3⟩ := c_goAny hS e c5 c4 hL (fun k q => by cases q; omega) (n := n) (by omega)
        have hw := zahf_W hS.law n (p := ((zSB S).2.1 l, (zSB S).2.2.1, some i)) hL (fun k q => by cases q; omega)
        right
        refine ⟨(A (i + 1), s2), ⟨d3, rfl⟩, ?_⟩
        simp only [fX11_forks_L17, c1, zb_s, zput_e, d1, c_lastKind d2.1 hw]
        rw [hN12, b2, hAs]
        simp (disch := omega) only [nL_lt, nL_gt, nL_le, nL_ge, nL_eq, nL_qe, nI_ltI, nI_leI, nI_eq, nL_add, nL_dda, nI_add, nL_sub, pk_sub, nL_mul, nL_clamp, nI_cl, zchk_n, zchk_l, zb_s, zb2_s, zb3_s, zb3_e, zput_e, zjoin_e, zs_hit, zs_miss, nle_t, nle_f, nlt_t, nlt_f, neq_t, neq_f, ↓reduceIte, and_self, and_true, true_and, and_false, false_and, not_true_eq_false, not_false_eq_true, Nat.add_zero]
      · obtain ⟨a, s⟩ := st
        obtain ⟨b1, b2⟩ := hh
        have b1 : zFS 446 g s := b1
        have b2 : a = A N := b2
        refine ⟨s, ?_, zFC.fs b1⟩
        simp only [fX11_forks_L17]
        rw [hN12, b2]
        simp (disch := omega) only [nL_lt, nL_gt, nL_le, nL_ge, nL_eq, nL_qe, nI_ltI, nI_leI, nI_eq, nL_add, nL_dda, nI_add, nL_sub, pk_sub, nL_mul, nL_clamp, nI_cl, zchk_n, zchk_l, zb_s, zb2_s, zb3_s, zb3_e, zput_e, zjoin_e, zs_hit, zs_miss, nle_t, nle_f, nlt_t, nlt_f, neq_t, neq_f, ↓reduceIte, and_self, and_true, true_and, and_false, false_and, not_true_eq_false, not_false_eq_true, Nat.add_zero]
    obtain ⟨g2, a1, a2⟩ := main
    refine ⟨g2, ?_, a2⟩
    unfold fX11_forks
    rw [c_mailOf hS e hl, zb3_s, show fX11_needAhead (nI n) 1 g = _ from c_needAhead (m := 1) hn (by omega), zb3_s]
    exact a1
  · have e0 := e.thr hS 0
    have main : ∃ g2, fX12_forks_L48 (nI l) (nI n) zFU 0 0 (zset g 493 0 0) = some (A 12, g2) ∧ zFQ (zset g 493 0 0) g2 := by
      generalize hN : 12 = N
      have hN12 : (12 : Int32) = nI N := by rw [← hN]; rfl
      have hN2 : N ≤ 12 := by omega
      refine zL_Q0 (fun n' i (st : Int32 × zM) => fX12_forks_L48 (nI l) (nI n) n' st.1 (nI i) st.2) (fun i st => zFQ (zset g 493 0 0) st.2 ∧ st.1 = A i) N (fun x => ∃ g2, x = some (A N, g2) ∧ zFQ (zset g 493 0 0) g2) (0, zset g 493 0 0) (by omega) ⟨.refl, hA0.symm⟩ (fun n' i st hi hh => ?_) (fun n' st hh => ?_)
      · obtain ⟨a, s⟩ := st
        obtain ⟨b1, b2⟩ := hh
        have b1 : zFQ (zset g 493 0 0) s := b1
        have b2 : a = A i := b2
        obtain ⟨s1, c1, c2⟩ := r_look0 hS (e0.fq hS b1) b1 hl
        obtain ⟨s2, d1, d2⟩ := r_forkL hS e0 (k := i) (by omega) (n := n) (by omega) n 0 zFU ((zSB S).2.1 l, (zSB S).2.2.1, some i) s1 (by omega) (by unfold zFU; omega) c2.2 c2.1 hL (Or.inr rfl)
        have d1' : fX12_forkOf_L11 (nI n) (nI i) zFU 0 0 s1 = some (nI (zlk (zahf (zSL S) n ((zSB S).2.1 l, (zSB S).2.2.1, some i)).1), s2) := d1
        right
        refine ⟨(A (i + 1), s2), ⟨d2, rfl⟩, ?_⟩
        simp only [fX12_forks_L48, fX12_forkOf, c1, zb_s, d1', zb2_s]
        rw [hN12, b2, hAs]
        simp (disch := omega) only [nL_lt, nL_gt, nL_le, nL_ge, nL_eq, nL_qe, nI_ltI, nI_leI, nI_eq, nL_add, nL_dda, nI_add, nL_sub, pk_sub, nL_mul, nL_clamp, nI_cl, zchk_n, zchk_l, zb_s, zb2_s, zb3_s, zb3_e, zput_e, zjoin_e, zs_hit, zs_miss, nle_t, nle_f, nlt_t, nlt_f, neq_t, neq_f, ↓reduceIte, and_self, and_true, true_and, and_false, false_and, not_true_eq_false, not_false_eq_true, Nat.add_zero]
      · obtain ⟨a, s⟩ := st
        obtain ⟨b1, b2⟩ := hh
        have b2 : a = A N := b2
        refine ⟨s, ?_, b1⟩
        simp only [fX12_forks_L48]
        rw [hN12, b2]
        simp (disch := omega) only [nL_lt, nL_gt, nL_le, nL_ge, nL_eq, nL_qe, nI_ltI, nI_leI, nI_eq, nL_add, nL_dda, nI_add, nL_sub, pk_sub, nL_mul, nL_clamp, nI_cl, zchk_n, zchk_l, zb_s, zb2_s, zb3_s, zb3_e, zput_e, zjoin_e, zs_hit, zs_miss, nle_t, nle_f, nlt_t, nlt_f, neq_t, neq_f, ↓reduceIte, and_self, and_true, true_and, and_false, false_and, not_true_eq_false, not_false_eq_true, Nat.add_zero]
    obtain ⟨g2, a1, a2⟩ := main
    refine zRa_ok (g1 := g2) ?_ a2
    unfold fX12_forks
    simp only [zb_s, zb2_s, zb3_s, zb3_e, zjoin_e, zput_e, r_thr0, r_thr1, zi10, zi01, if_true, if_false, r_noLetter hS e0 hl, show fX12_in (nI n) 1 40 (zset g 493 0 0) = some 1 from r_in (lo := 1) (hi := 40) (by omega) (by omega) (by omega)]
    exact a1
