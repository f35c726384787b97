/-! STAYS, ASTRAY, WRITTEN, AUTHOR -/
/-- how long it stays, from the first on -/
def zsta (p : Nat → Bool) : Nat := match zff p 41 with
  | none => 0
  | some f => match zff (fun j => !p (f + j)) (41 - f) with
    | some j => j
    | none => 41 - f
theorem zsta_none {p : Nat → Bool} (h : zff p 41 = none) : zsta p = 0 := by unfold zsta; rw [h]
theorem zsta_some {p : Nat → Bool} {f i : Nat} (h : zff p 41 = some f) (hi : f + i ≤ 41) (h1 : ∀ j, j < i → p (f + j) = true) (h2 : f + i = 41 ∨ p (f + i) = false) : zsta p = i := by
  unfold zsta
  rw [h]
  simp only
  rcases Nat.lt_or_ge i (41 - f) with q | q
  · rw [zff_some q (fun j hj => by rw [h1 j hj]; rfl) (by rcases h2 with h2 | h2; omega; rw [h2]; rfl)]
  · rw [zff_none (fun j hj => by rw [h1 j (by omega)]; rfl)]
    simp only
    omega
theorem m_stays {S : zS} (hS : zSW S) (v k : Int32) : zAsk [1] S (fX11_stays v k) (fX12_stays v k) := by
  rcases zix v (zsz hS) with h | ⟨l, hl, rfl⟩
  · refine ⟨.error 1, fun g e => ⟨g, ?_, .refl⟩, fun g e => zRa_err2 (t := 1) (b := 0) ?_ (by decide)⟩
    · unfold fX11_stays; rw [c_mailOf_no e h, zb3_e]
    · unfold fX12_stays; simp only [zb_s, zb2_s, zb3_s, zb3_e, zjoin_e, zput_e, r_thr0, r_thr1, zi10, zi01, if_true, if_false, r_noLetter_no hS (e.thr hS 0) h]
  rcases zix k (n := 12) (by omega) with h | ⟨k, hk, rfl⟩
  · refine ⟨.error 1, fun g e => ⟨g, ?_, .refl⟩, fun g e => zRa_err2 (t := 1) (b := 0) ?_ (by decide)⟩
    · unfold fX11_stays; rw [c_mailOf hS e hl, zb3_s, c_needKind_no h, zb3_e]
    · unfold fX12_stays; simp only [zb_s, zb2_s, zb3_s, zb3_e, zjoin_e, zput_e, r_thr0, r_thr1, zi10, zi01, if_true, if_false, r_noLetter hS (e.thr hS 0) hl, r_noKind_no h]
  have hb : ∃ p : Nat → Bool, ∀ n, p n = decide (zlk (zat S l n).1 = k) := ⟨_, fun _ => rfl⟩
  obtain ⟨p, hp⟩ := hb
  refine ⟨.ok (nI (zsta p)), fun g e => ?_, fun g e => ?_⟩
  · obtain ⟨g1, a1, a2⟩ := c_look0 hS e .refl hl
    have main : ∃ g2, fX11_stays_L34 (nI k) zFU 0 0 g1 = some (.ok (nI (zsta p)), g2) ∧ zFC g g2 := by
      refine zL_Q0 (fun n i (st : Int32 × zM) => fX11_stays_L34 (nI k) n st.1 (nI i) st.2) (fun i st => zCA S g l i st.2 ∧ ((st.1 = 0 ∧ ∀ j, j < i → p j = false) ∨ ∃ f, f < i ∧ st.1 = nI (i - f) ∧ p f = true ∧ (∀ j, j < f → p j = false) ∧ ∀ j, j < i - f → p (f + j) = true)) 41 (fun x => ∃ g2, x = some (.ok (nI (zsta p)), g2) ∧ zFC g g2) (0, g1) (by omega) ⟨a2, Or.inl ⟨rfl, fun j hj => absurd hj (by omega)⟩⟩ (fun n i st hi hh => ?_) (fun n st hh => ?_)
      · obtain ⟨st, s⟩ := st
        obtain ⟨b1, b2⟩ := hh
        have b1 : zCA S g l i s := b1
        obtain ⟨s1, d1, d2⟩ := c_week hS e hl b1
        have hk' := zlk_lt (zat_W hS hl i)
        simp only [fX11_stays_L34]
        by_cases q : zlk (zat S l i).1 = k
        · right
          have hpi : p i = true := by rw [hp]; simp [q]
          refine ⟨(st + 1, s1), ⟨d2, Or.inr ?_⟩, by simp (disch := omega) only [nL_lt, nL_gt, nL_le, nL_ge, nL_eq, nL_qe, nI_ltI, nI_leI, nI_eq, nL_add, nL_dda, nI_add, nL_sub, pk_sub, nL_mul, nL_clamp, nI_cl, zchk_n, zchk_l, zb_s, zb2_s, zb3_s, zb3_e, zput_e, zjoin_e, zs_hit, zs_miss, nle_t, nle_f, nlt_t, nlt_f, neq_t, neq_f, ↓reduceIte, and_self, and_true, true_and, and_false, false_and, not_true_eq_false, not_false_eq_true, Nat.add_zero, c_lastA hS hl b1, d1]⟩
          rcases b2 with ⟨rfl, b3⟩ | ⟨f, f1, rfl, f2, f3, f4⟩
          · exact ⟨i, by omega, by rw [show i + 1 - i = 1 from by omega]; rfl, hpi, b3, fun j hj => by rw [show i + j = i from by omega]; exact hpi⟩
          · refine ⟨f, by omega, ?_, f2, f3, fun j hj => ?_⟩
            · show nI (i - f) + 1 = _
              simp (disch := omega) only [nL_lt, nL_gt, nL_le, nL_ge, nL_eq, nL_qe, nI_ltI, nI_leI, nI_eq, nL_add, nL_dda, nI_add, nL_sub, pk_sub, nL_mul, nL_clamp, nI_cl, zchk_n, zchk_l, zb_s, zb2_s, zb3_s, zb3_e, zput_e, zjoin_e, zs_hit, zs_miss, nle_t, nle_f, nlt_t, nlt_f, neq_t, neq_f, ↓reduceIte, and_self, and_true, true_and, and_false, false_and, not_true_eq_false, not_false_eq_true, Nat.add_zero]
            · rcases Nat.lt_or_ge j (i - f) with q3 | q3
              · exact f4 j q3
              · rw [show f + j = i from by omega]; exact hpi
        · have hpi : p i = false := by rw [hp]; simp [q]
          rcases b2 with ⟨rfl, b3⟩ | ⟨f, f1, rfl, f2, f3, f4⟩
          · right
            refine ⟨(0, s1), ⟨d2, Or.inl ⟨rfl, fun j hj => ?_⟩⟩, ?_⟩
            · rcases Nat.lt_succ_iff_lt_or_eq.mp hj with q3 | q3
              · exact b3 j q3
              · rw [q3]; exact hpi
            · simp (disch := omega) only [nL_lt, nL_gt, nL_le, nL_ge, nL_eq, nL_qe, nI_ltI, nI_leI, nI_eq, nL_add, nL_dda, nI_add, nL_sub, pk_sub, nL_mul, nL_clamp, nI_cl, zchk_n, zchk_l, zb_s, zb2_s, zb3_s, zb3_e, zput_e, zjoin_e, zs_hit, zs_miss, nle_t, nle_f, nlt_t, nlt_f, neq_t, neq_f, ↓reduceIte, and_self, and_true, true_and, and_false, false_and, not_true_eq_false, not_false_eq_true, Nat.add_zero, c_lastA hS hl b1, d1, show ((0 : Int32) ≤ 0) = True from by decide]
          · left
            have hz : zsta p = i - f := zsta_some (zff_some (by omega) f3 f2) (by omega) f4 (Or.inr (by rw [show f + (i - f) = i from by omega]; exact hpi))
            rw [hz]
            refine ⟨s, ?_, b1.fc⟩
            simp (disch := omega) only [nL_lt, nL_gt, nL_le, nL_ge, nL_eq, nL_qe, nI_ltI, nI_leI, nI_eq, nL_add, nL_dda, nI_add, nL_sub, pk_sub, nL_mul, nL_clamp, nI_cl, zchk_n, zchk_l, zb_s, zb2_s, zb3_s, zb3_e, zput_e, zjoin_e, zs_hit, zs_miss, nle_t, nle_f, nlt_t, nlt_f, neq_t, neq_f, ↓reduceIte, and_self, and_true, true_and, and_false, false_and, not_true_eq_false, not_false_eq_true, Nat.add_zero, c_lastA hS hl b1]
      · obtain ⟨st, s⟩ := st
        obtain ⟨b1, b2⟩ := hh
        have b1 : zCA S g l 41 s := b1
        refine ⟨s, ?_, b1.fc⟩
        simp only [fX11_stays_L34]
        simp (disch := omega) only [nL_lt, nL_gt, nL_le, nL_ge, nL_eq, nL_qe, nI_ltI, nI_leI, nI_eq, nL_add, nL_dda, nI_add, nL_sub, pk_sub, nL_mul, nL_clamp, nI_cl, zchk_n, zchk_l, zb_s, zb2_s, zb3_s, zb3_e, zput_e, zjoin_e, zs_hit, zs_miss, nle_t, nle_f, nlt_t, nlt_f, neq_t, neq_f, ↓reduceIte, and_self, and_true, true_and, and_false, false_and, not_true_eq_false, not_false_eq_true, Nat.add_zero]
        rcases b2 with ⟨rfl, b3⟩ | ⟨f, f1, rfl, f2, f3, f4⟩
        · rw [zsta_none (zff_none b3)]; rfl
        · rw [zsta_some (zff_some (by omega) f3 f2) (by omega) f4 (Or.inl (by omega))]
    obtain ⟨g2, b1, b2⟩ := main
    refine ⟨g2, ?_, b2⟩
    unfold fX11_stays
    rw [c_mailOf hS e hl, zb3_s, c_needKind hk, zb3_s, e.week, a1, zb_s]
    exact b1
  · have e0 := e.thr hS 0
    obtain ⟨g1, a1, a2⟩ := r_saysBy hS e0 .refl hl hk false
    have hzf : zff (fun n => zsy false k (zat S l n).1) 41 = zff p 41 := by
      congr 1
      funext n
      rw [hp]
      rfl
    rw [hzf] at a1
    cases q : zff p 41 with
    | none =>
      rw [q] at a1
      rw [zsta_none q]
      refine zRa_ok (g1 := g1) ?_ a2
      unfold fX12_stays
      simp only [zb_s, zb2_s, zb3_s, zb3_e, zjoin_e, zput_e, r_thr0, r_thr1, zi10, zi01, if_true, if_false, r_noLetter hS e0 hl, r_noKind hk, show fX12_saysBy (nI l) (nI k) 0 (zset g 493 0 0) = _ from a1, zoi_none, show ((0 : Int32) ≤ -1) = False from by decide]
      rfl
    | some f =>
      rw [q] at a1
      obtain ⟨f1, f2, f3⟩ := zff_lt q
      obtain ⟨g2, b1, b2⟩ := r_ahead0 hS (e0.fq hS a2) a2 hl (n := f) (by omega)
      have main : ∃ g3, fX12_stays_L58 (nI k) (nI f) zFU 0 g2 = some (nI (zsta p), g3) ∧ zFQ (zset g 493 0 0) g3 := by
        refine zL_Q0 (fun n i (s : zM) => fX12_stays_L58 (nI k) (nI f) n (nI i) s) (fun i s => zRA S (zset g 493 0 0) l (f + i) s ∧ ∀ j, j < i → p (f + j) = true) (41 - f) (fun x => ∃ g3, x = some (nI (zsta p), g3) ∧ zFQ (zset g 493 0 0) g3) g2 (by omega) ⟨b2, fun j hj => absurd hj (by omega)⟩ (fun n i s hi hh => ?_) (fun n s hh => ?_)
        · obtain ⟨c1, c2⟩ := hh
          obtain ⟨s1, d1, d2⟩ := r_week hS e0 hl c1
          have hk' := zlk_lt (zat_W hS hl (f + i))
          simp only [fX12_stays_L58]
          by_cases q3 : zlk (zat S l (f + i)).1 = k
          · right
            refine ⟨s1, ⟨d2, fun j hj => ?_⟩, by simp (disch := omega) only [nL_lt, nL_gt, nL_le, nL_ge, nL_eq, nL_qe, nI_ltI, nI_leI, nI_eq, nL_add, nL_dda, nI_add, nL_sub, pk_sub, nL_mul, nL_clamp, nI_cl, zchk_n, zchk_l, zb_s, zb2_s, zb3_s, zb3_e, zput_e, zjoin_e, zs_hit, zs_miss, nle_t, nle_f, nlt_t, nlt_f, neq_t, neq_f, ↓reduceIte, and_self, and_true, true_and, and_false, false_and, not_true_eq_false, not_false_eq_true, Nat.add_zero, r_lastA hS hl c1, d1]⟩
            rcases Nat.lt_succ_iff_lt_or_eq.mp hj with q4 | q4
            · exact c2 j q4
            · rw [q4, hp]; simp [q3]
          · left
            rw [zsta_some q (by omega) c2 (Or.inr (by rw [hp]; simp [q3]))]
            exact ⟨s, by simp (disch := omega) only [nL_lt, nL_gt, nL_le, nL_ge, nL_eq, nL_qe, nI_ltI, nI_leI, nI_eq, nL_add, nL_dda, nI_add, nL_sub, pk_sub, nL_mul, nL_clamp, nI_cl, zchk_n, zchk_l, zb_s, zb2_s, zb3_s, zb3_e, zput_e, zjoin_e, zs_hit, zs_miss, nle_t, nle_f, nlt_t, nlt_f, neq_t, neq_f, ↓reduceIte, and_self, and_true, true_and, and_false, false_and, not_true_eq_false, not_false_eq_true, Nat.add_zero, r_lastA hS hl c1], c1.2⟩
        · obtain ⟨c1, c2⟩ := hh
          simp only [fX12_stays_L58]
          rw [zsta_some q (by omega) c2 (Or.inl (by omega))]
          exact ⟨s, by simp (disch := omega) only [nL_lt, nL_gt, nL_le, nL_ge, nL_eq, nL_qe, nI_ltI, nI_leI, nI_eq, nL_add, nL_dda, nI_add, nL_sub, pk_sub, nL_mul, nL_clamp, nI_cl, zchk_n, zchk_l, zb_s, zb2_s, zb3_s, zb3_e, zput_e, zjoin_e, zs_hit, zs_miss, nle_t, nle_f, nlt_t, nlt_f, neq_t, neq_f, ↓reduceIte, and_self, and_true, true_and, and_false, false_and, not_true_eq_false, not_false_eq_true, Nat.add_zero], c1.2⟩
      obtain ⟨g3, d1, d2⟩ := main
      refine zRa_ok (g1 := g3) ?_ d2
      unfold fX12_stays
      simp only [zb_s, zb2_s, zb3_s, zb3_e, zjoin_e, zput_e, r_thr0, r_thr1, zi10, zi01, if_true, if_false, r_noLetter hS e0 hl, r_noKind hk, show fX12_saysBy (nI l) (nI k) 0 (zset g 493 0 0) = _ from a1, zoi_some]
      simp (disch := omega) only [nL_lt, nL_gt, nL_le, nL_ge, nL_eq, nL_qe, nI_ltI, nI_leI, nI_eq, nL_add, nL_dda, nI_add, nL_sub, pk_sub, nL_mul, nL_clamp, nI_cl, zchk_n, zchk_l, zb_s, zb2_s, zb3_s, zb3_e, zput_e, zjoin_e, zs_hit, zs_miss, nle_t, nle_f, nlt_t, nlt_f, neq_t, neq_f, ↓reduceIte, and_self, and_true, true_and, and_false, false_and, not_true_eq_false, not_false_eq_true, Nat.add_zero, b1]
      exact d1
/-- the LINES of L that are ASTRAY -/
def zasp (W : zLw) (L : zL) (i : Nat) : Bool := decide (1 ≤ i) && decide (zfol W L i (L.2.2.1 i) ≠ some (L.2.1 i))
def zas (W : zLw) (L : zL) : Int32 := zbs (zasp W L) L.1
theorem zoi_eq {o : Option Nat} {k : Nat} (ho : ∀ j, o = some j → j < 12) (hk : k < 12) : (zoi o = nI k) ↔ o = some k := by
  cases o with
  | none => rw [zoi_none, m1_nI (by omega)]; simp
  | some j =>
    have := ho j rfl
    rw [zoi_some, nI_eq (by omega) (by omega)]
    simp
theorem c_astrayIn {g : zM} {W : zLw} (hW : zWW W) (e : zCL g 29 W) {r : Nat} {L : zL} (eL : zCM g r L) (hr : r + 2 < 29 ∨ 36 ≤ r) (hL : zLW L) : ∃ g1, fX1_astrayIn 29 r g = some (zas W L, g1) ∧ ∀ c, c ≠ 34 → c ≠ 35 → g1 c = g c := by
  have h24 := hL.2.1
  have h1 := hL.1
  unfold fX1_astrayIn zas
  refine zL_Q (fun n i (st : Int32 × zM) => fX1_astrayIn_L4 29 r n st.1 (nI i) st.2) (fun i st => 1 ≤ i ∧ st.1 = zbs (zasp W L) i ∧ ∀ c, c ≠ 34 → c ≠ 35 → st.2 c = g c) L.1 (fun x => ∃ g1, x = some (zbs (zasp W L) L.1, g1) ∧ ∀ c, c ≠ 34 → c ≠ 35 → g1 c = g c) (fun n i st hi hh => ?_) (fun n st hh => ?_) (L.1 - 1) 1 zFU (0, g) (by omega) (by unfold zFU; omega) ⟨Nat.le_refl _, rfl, fun _ _ _ => rfl⟩
  · obtain ⟨a, s⟩ := st
    obtain ⟨b1, b2, b3⟩ := hh
    have b2 : a = zbs (zasp W L) i := b2
    subst b2
    have b3 : ∀ c, c ≠ 34 → c ≠ 35 → s c = g c := b3
    have eL' : zCM s r L := eL.fr (b3 _ (by omega) (by omega)) (b3 _ (by omega) (by omega)) (b3 _ (by omega) (by omega))
    have e' : zCL s 29 W := e.fr (fun c _ _ => b3 c (by omega) (by omega))
    obtain ⟨s1, d1, d2⟩ := c_follows hW e' eL' hr hL b1 (by omega) (L.2.2.1 i)
    have eL1 : zCM s1 r L := eL'.fr (d2 _ (by omega) (by omega)) (d2 _ (by omega) (by omega)) (d2 _ (by omega) (by omega))
    have hk := hL.2.2 i hi
    right
    refine ⟨(zbs (zasp W L) (i + 1), s1), ⟨by omega, rfl, fun c h1 h2 => by show s1 c = g c; rw [d2 c h1 h2, b3 c h1 h2]⟩, ?_⟩
    simp only [fX1_astrayIn_L4, eL'.1]
    simp (disch := omega) only [nL_lt, nL_gt, nL_le, nL_ge, nL_eq, nL_qe, nI_ltI, nI_leI, nI_eq, nL_add, nL_dda, nI_add, nL_sub, pk_sub, nL_mul, nL_clamp, nI_cl, zchk_n, zchk_l, zb_s, zb2_s, zb3_s, zb3_e, zput_e, zjoin_e, zs_hit, zs_miss, nle_t, nle_f, nlt_t, nlt_f, neq_t, neq_f, ↓reduceIte, and_self, and_true, true_and, and_false, false_and, not_true_eq_false, not_false_eq_true, Nat.add_zero, c_weekAt eL' hi h24, d1, c_kindAt eL1 hi h24, zbs_s]
    have hz := zoi_eq (o := zfol W L i (L.2.2.1 i)) (fun j q => zfol_lt hW q) hk
    unfold zasp
    by_cases q : zfol W L i (L.2.2.1 i) = some (L.2.1 i)
    · rw [if_pos (hz.mpr q)]; simp [q]
    · rw [if_neg (fun h => q (hz.mp h))]; simp [q, b1]
  · obtain ⟨a, s⟩ := st
    obtain ⟨b1, b2, b3⟩ := hh
    have b2 : a = zbs (zasp W L) L.1 := b2
    subst b2
    have b3 : ∀ c, c ≠ 34 → c ≠ 35 → s c = g c := b3
    have eL' : zCM s r L := eL.fr (b3 _ (by omega) (by omega)) (b3 _ (by omega) (by omega)) (b3 _ (by omega) (by omega))
    refine ⟨s, ?_, b3⟩
    simp only [fX1_astrayIn_L4, eL'.1]
    simp (disch := omega) only [nL_lt, nL_gt, nL_le, nL_ge, nL_eq, nL_qe, nI_ltI, nI_leI, nI_eq, nL_add, nL_dda, nI_add, nL_sub, pk_sub, nL_mul, nL_clamp, nI_cl, zchk_n, zchk_l, zb_s, zb2_s, zb3_s, zb3_e, zput_e, zjoin_e, zs_hit, zs_miss, nle_t, nle_f, nlt_t, nlt_f, neq_t, neq_f, ↓reduceIte, and_self, and_true, true_and, and_false, false_and, not_true_eq_false, not_false_eq_true, Nat.add_zero]
theorem r_astrayOf {S : zS} {g0 g : zM} (hS : zSW S) (e : zRI S g0) (h0 : zFQ g0 g) {l : Nat} (hl : l < (zSB S).1) {L : zL} (hL : zLW L) (q1 : L.1 = ((zSB S).2.1 l).1) (q2 : L.2.1 = ((zSB S).2.1 l).2.1) (q3 : L.2.2.1 = ((zSB S).2.1 l).2.2.1) {n : Nat} {w : Int32} (eR : zRR g L n w) : ∃ g1, fX12_astrayOf (nI l) g = some (zas (zSL S) L, g1) ∧ zFQ g0 g1 := by
  have h24 := hL.2.1
  have h1 := hL.1
  have es := e.fq hS h0
  unfold fX12_astrayOf zas
  rw [r_lines hS es hl, zb_s, ← q1]
  refine zL_Q (fun n i (st : Int32 × zM) => fX12_astrayOf_L11 (nI l) (nI L.1) n st.1 (nI i) st.2) (fun i st => 1 ≤ i ∧ st.1 = zbs (zasp (zSL S) L) i ∧ zFQ g0 st.2 ∧ ∃ n w, zRR st.2 L n w) L.1 (fun x => ∃ g1, x = some (zbs (zasp (zSL S) L) L.1, g1) ∧ zFQ g0 g1) (fun n i st hi hh => ?_) (fun n st hh => ?_) (L.1 - 1) 1 zFU (0, g) (by omega) (by unfold zFU; omega) ⟨Nat.le_refl _, rfl, h0, n, w, eR⟩
  · obtain ⟨a, s⟩ := st
    obtain ⟨b1, b2, b3, n', w', b4⟩ := hh
    have b2 : a = zbs (zasp (zSL S) L) i := b2
    subst b2
    have b3 : zFQ g0 s := b3
    obtain ⟨c1, c2, c3, c4, c5, c6, c7⟩ := b4
    have fA : zFQ s (zset s 493 19 (nI i)) := ⟨fun c h1 h2 h3 => by simp (disch := omega) only [nL_lt, nL_gt, nL_le, nL_ge, nL_eq, nL_qe, nI_ltI, nI_leI, nI_eq, nL_add, nL_dda, nI_add, nL_sub, pk_sub, nL_mul, nL_clamp, nI_cl, zchk_n, zchk_l, zb_s, zb2_s, zb3_s, zb3_e, zput_e, zjoin_e, zs_hit, zs_miss, nle_t, nle_f, nlt_t, nlt_f, neq_t, neq_f, ↓reduceIte, and_self, and_true, true_and, and_false, false_and, not_true_eq_false, not_false_eq_true, Nat.add_zero, zs_cell], fun k hk => by simp (disch := omega) only [nL_lt, nL_gt, nL_le, nL_ge, nL_eq, nL_qe, nI_ltI, nI_leI, nI_eq, nL_add, nL_dda, nI_add, nL_sub, pk_sub, nL_mul, nL_clamp, nI_cl, zchk_n, zchk_l, zb_s, zb2_s, zb3_s, zb3_e, zput_e, zjoin_e, zs_hit, zs_miss, nle_t, nle_f, nlt_t, nlt_f, neq_t, neq_f, ↓reduceIte, and_self, and_true, true_and, and_false, false_and, not_true_eq_false, not_false_eq_true, Nat.add_zero]⟩
    have fB : zFQ s (zset (zset s 493 19 (nI i)) 493 22 (L.2.2.1 i)) := ⟨fun c h1 h2 h3 => by simp (disch := omega) only [nL_lt, nL_gt, nL_le, nL_ge, nL_eq, nL_qe, nI_ltI, nI_leI, nI_eq, nL_add, nL_dda, nI_add, nL_sub, pk_sub, nL_mul, nL_clamp, nI_cl, zchk_n, zchk_l, zb_s, zb2_s, zb3_s, zb3_e, zput_e, zjoin_e, zs_hit, zs_miss, nle_t, nle_f, nlt_t, nlt_f, neq_t, neq_f, ↓reduceIte, and_self, and_true, true_and, and_false, false_and, not_true_eq_false, not_false_eq_true, Nat.add_zero, zs_cell], fun k hk => by simp (disch := omega) only [nL_lt, nL_gt, nL_le, nL_ge, nL_eq, nL_qe, nI_ltI, nI_leI, nI_eq, nL_add, nL_dda, nI_add, nL_sub, pk_sub, nL_mul, nL_clamp, nI_cl, zchk_n, zchk_l, zb_s, zb2_s, zb3_s, zb3_e, zput_e, zjoin_e, zs_hit, zs_miss, nle_t, nle_f, nlt_t, nlt_f, neq_t, neq_f, ↓reduceIte, and_self, and_true, true_and, and_false, false_and, not_true_eq_false, not_false_eq_true, Nat.add_zero]⟩
    have eA := e.fq hS (b3.trans fA)
    have eB := e.fq hS (b3.trans fB)
    have hrow : zRR (zset (zset s 493 19 (nI i)) 493 22 (L.2.2.1 i)) L i (L.2.2.1 i) := by
      refine ⟨?_, fun j hj => ?_, ?_, ?_, ?_, ?_, ?_⟩ <;> simp (disch := omega) only [nL_lt, nL_gt, nL_le, nL_ge, nL_eq, nL_qe, nI_ltI, nI_leI, nI_eq, nL_add, nL_dda, nI_add, nL_sub, pk_sub, nL_mul, nL_clamp, nI_cl, zchk_n, zchk_l, zb_s, zb2_s, zb3_s, zb3_e, zput_e, zjoin_e, zs_hit, zs_miss, nle_t, nle_f, nlt_t, nlt_f, neq_t, neq_f, ↓reduceIte, and_self, and_true, true_and, and_false, false_and, not_true_eq_false, not_false_eq_true, Nat.add_zero] <;> first | exact c2 j hj | assumption
    obtain ⟨s1, d1, d2⟩ := r_follows hS.law eB.law hL hrow b1 (by omega)
    have eC := e.fq hS ((b3.trans fB).trans (.of d2))
    have hk := hL.2.2 i hi
    have hw : fX12_of (nI l) (29 + nI i) (zset s 493 19 (nI i)) = some (L.2.2.1 i) := by rw [r_whenOf hS eA hl (by omega), q3]
    have hko : fX12_kindOf (nI l) (nI i) s1 = some (nI (L.2.1 i)) := by rw [r_kindOf hS eC hl (by omega), q2]
    right
    refine ⟨(zbs (zasp (zSL S) L) (i + 1), s1), ⟨by omega, rfl, (b3.trans fB).trans (.of d2), i, L.2.2.1 i, hrow.fr (d2 _ (by omega)) (d2 _ (by omega))⟩, ?_⟩
    simp only [fX12_astrayOf_L11, zput_e]
    rw [hw]
    simp (disch := omega) only [nL_lt, nL_gt, nL_le, nL_ge, nL_eq, nL_qe, nI_ltI, nI_leI, nI_eq, nL_add, nL_dda, nI_add, nL_sub, pk_sub, nL_mul, nL_clamp, nI_cl, zchk_n, zchk_l, zb_s, zb2_s, zb3_s, zb3_e, zput_e, zjoin_e, zs_hit, zs_miss, nle_t, nle_f, nlt_t, nlt_f, neq_t, neq_f, ↓reduceIte, and_self, and_true, true_and, and_false, false_and, not_true_eq_false, not_false_eq_true, Nat.add_zero, d1, hko, zbs_s]
    have hz := zoi_eq (o := zfol (zSL S) L i (L.2.2.1 i)) (fun j q => zfol_lt hS.law q) hk
    unfold zasp
    by_cases q : zfol (zSL S) L i (L.2.2.1 i) = some (L.2.1 i)
    · rw [if_pos (hz.mpr q)]; simp [q]
    · rw [if_neg (fun h => q (hz.mp h))]; simp [q, b1]
  · obtain ⟨a, s⟩ := st
    obtain ⟨b1, b2, b3, b4⟩ := hh
    have b2 : a = zbs (zasp (zSL S) L) L.1 := b2
    subst b2
    refine ⟨s, ?_, b3⟩
    simp only [fX12_astrayOf_L11]
    simp (disch := omega) only [nL_lt, nL_gt, nL_le, nL_ge, nL_eq, nL_qe, nI_ltI, nI_leI, nI_eq, nL_add, nL_dda, nI_add, nL_sub, pk_sub, nL_mul, nL_clamp, nI_cl, zchk_n, zchk_l, zb_s, zb2_s, zb3_s, zb3_e, zput_e, zjoin_e, zs_hit, zs_miss, nle_t, nle_f, nlt_t, nlt_f, neq_t, neq_f, ↓reduceIte, and_self, and_true, true_and, and_false, false_and, not_true_eq_false, not_false_eq_true, Nat.add_zero]
theorem m_astray {S : zS} (hS : zSW S) (v : Int32) : zAsk [1] S (fX11_astray v) (fX12_astray v) := by
  rcases zix v (zsz hS) with h | ⟨l, hl, rfl⟩
  · refine ⟨.error 1, fun g e => ⟨g, ?_, .refl⟩, fun g e => zRa_err2 (t := 1) (b := 0) ?_ (by decide)⟩
    · unfold fX11_astray; rw [c_mailOf_no e h, zb3_e]
    · unfold fX12_astray; simp only [zb_s, zb2_s, zb3_s, zb3_e, zjoin_e, zput_e, r_thr0, r_thr1, zi10, zi01, if_true, if_false, r_noLetter_no hS (e.thr hS 0) h]
  have h8 := hS.eight
  refine ⟨.ok (zas (zSL S) ((zSB S).2.1 l)), fun g e => ?_, fun g e => ?_⟩
  · obtain ⟨g1, a1, a2⟩ := c_astrayIn hS.law e.law (e.mail hl) (by omega) (hS.letter hl)
    refine ⟨g1, ?_, fun c h1 h2 _ => a2 c h1 h2, by rw [a2 481 (by omega) (by omega)], by rw [a2 482 (by omega) (by omega)]⟩
    unfold fX11_astray
    rw [c_mailOf hS e hl, zb3_s, a1, zb2_s]
  · have e0 := e.thr hS 0
    obtain ⟨g1, a1, a2⟩ := r_look0 hS e0 .refl hl
    obtain ⟨g2, b1, b2⟩ := r_astrayOf hS e0 a2.2 hl (hS.letter hl) rfl rfl rfl a2.1
    refine zRa_ok (g1 := g2) ?_ b2
    unfold fX12_astray
    simp only [zb_s, zb2_s, zb3_s, zb3_e, zjoin_e, zput_e, r_thr0, r_thr1, zi10, zi01, if_true, if_false, r_noLetter hS e0 hl, a1, b1]
def ztop (b : Nat → Bool) : Nat → Nat
  | 0 => 1
  | i + 1 => if b (i + 1) = true then i + 2 else ztop b i
theorem ztop_or (b : Nat → Bool) : ∀ N, (∃ t, 1 ≤ t ∧ t ≤ N ∧ b t = true ∧ (∀ i, t < i → i ≤ N → b i = false) ∧ ztop b N = t + 1) ∨ ((∀ i, 1 ≤ i → i ≤ N → b i = false) ∧ ztop b N = 1)
  | 0 => Or.inr ⟨fun i h1 h2 => by omega, rfl⟩
  | N + 1 => by
    unfold ztop
    by_cases q : b (N + 1) = true
    · rw [if_pos q]
      exact Or.inl ⟨N + 1, by omega, by omega, q, fun i h1 h2 => by omega, rfl⟩
    · rw [if_neg q]
      rcases ztop_or b N with ⟨t, t1, t2, t3, t4, t5⟩ | ⟨t1, t2⟩
      · refine Or.inl ⟨t, t1, by omega, t3, fun i h1 h2 => ?_, t5⟩
        rcases Nat.lt_or_ge i (N + 1) with q2 | q2
        · exact t4 i h1 (by omega)
        · rw [show i = N + 1 from by omega]; exact Bool.not_eq_true _ ▸ q
      · refine Or.inr ⟨fun i h1 h2 => ?_, t2⟩
        rcases Nat.lt_or_ge i (N + 1) with q2 | q2
        · exact t1 i h1 (by omega)
        · rw [show i = N + 1 from by omega]; exact Bool.not_eq_true _ ▸ q
theorem u_1 {n : Nat} (h : n < 4294967296) : ((nI n).toUInt32 >>> ((1 : Int32).toUInt32 &&& Int32.toUInt32 31)).toInt32 = nI (n / 2) := pk_ushrN h 1 1 (by decide)
theorem u_2 {n : Nat} (h : n < 4294967296) : ((nI n).toUInt32 >>> ((2 : Int32).toUInt32 &&& Int32.toUInt32 31)).toInt32 = nI (n / 4) := pk_ushrN h 2 2 (by decide)
theorem u_4 {n : Nat} (h : n < 4294967296) : ((nI n).toUInt32 >>> ((4 : Int32).toUInt32 &&& Int32.toUInt32 31)).toInt32 = nI (n / 16) := pk_ushrN h 4 4 (by decide)
theorem u_8 {n : Nat} (h : n < 4294967296) : ((nI n).toUInt32 >>> ((8 : Int32).toUInt32 &&& Int32.toUInt32 31)).toInt32 = nI (n / 256) := pk_ushrN h 8 8 (by decide)
theorem u_16 {n : Nat} (h : n < 4294967296) : ((nI n).toUInt32 >>> ((16 : Int32).toUInt32 &&& Int32.toUInt32 31)).toInt32 = nI (n / 65536) := pk_ushrN h 16 16 (by decide)
theorem zlz {m t : Nat} (ht : t < 24) (h1 : 2 ^ t ≤ m) (h2 : m < 2 ^ (t + 1)) (g : zM) : ∃ r, fJ6_numberOfLeadingZeros_0f7a4 (nI m) g = some r ∧ 32 - r = nI (t + 1) := by
  unfold fJ6_numberOfLeadingZeros_0f7a4
  have ht : t = 0 ∨ t = 1 ∨ t = 2 ∨ t = 3 ∨ t = 4 ∨ t = 5 ∨ t = 6 ∨ t = 7 ∨ t = 8 ∨ t = 9 ∨ t = 10 ∨ t = 11 ∨ t = 12 ∨ t = 13 ∨ t = 14 ∨ t = 15 ∨ t = 16 ∨ t = 17 ∨ t = 18 ∨ t = 19 ∨ t = 20 ∨ t = 21 ∨ t = 22 ∨ t = 23 := by omega
  rcases ht with rfl | rfl | rfl | rfl | rfl | rfl | rfl | rfl | rfl | rfl | rfl | rfl | rfl | rfl | rfl | rfl | rfl | rfl | rfl | rfl | rfl | rfl | rfl | rfl
  · simp only [Nat.reduceAdd, Nat.reducePow] at h1 h2
    simp (disch := omega) only [nL_lt, nL_gt, nL_le, nL_ge, nL_eq, nL_qe, nI_ltI, nI_leI, nI_eq, nL_add, nL_dda, nI_add, nL_sub, pk_sub, nL_mul, nL_clamp, nI_cl, zchk_n, zchk_l, zb_s, zb2_s, zb3_s, zb3_e, zput_e, zjoin_e, zs_hit, zs_miss, nle_t, nle_f, nlt_t, nlt_f, neq_t, neq_f, ↓reduceIte, and_self, and_true, true_and, and_false, false_and, not_true_eq_false, not_false_eq_true, Nat.add_zero, u_1, u_2, u_4, u_8, u_16]
    rw [show m / 2 = 0 from by omega]
    exact ⟨_, rfl, by decide⟩
  · simp only [Nat.reduceAdd, Nat.reducePow] at h1 h2
    simp (disch := omega) only [nL_lt, nL_gt, nL_le, nL_ge, nL_eq, nL_qe, nI_ltI, nI_leI, nI_eq, nL_add, nL_dda, nI_add, nL_sub, pk_sub, nL_mul, nL_clamp, nI_cl, zchk_n, zchk_l, zb_s, zb2_s, zb3_s, zb3_e, zput_e, zjoin_e, zs_hit, zs_miss, nle_t, nle_f, nlt_t, nlt_f, neq_t, neq_f, ↓reduceIte, and_self, and_true, true_and, and_false, false_and, not_true_eq_false, not_false_eq_true, Nat.add_zero, u_1, u_2, u_4, u_8, u_16]
    rw [show m / 2 = 1 from by omega]
    exact ⟨_, rfl, by decide⟩
  · simp only [Nat.reduceAdd, Nat.reducePow] at h1 h2
    simp (disch := omega) only [nL_lt, nL_gt, nL_le, nL_ge, nL_eq, nL_qe, nI_ltI, nI_leI, nI_eq, nL_add, nL_dda, nI_add, nL_sub, pk_sub, nL_mul, nL_clamp, nI_cl, zchk_n, zchk_l, zb_s, zb2_s, zb3_s, zb3_e, zput_e, zjoin_e, zs_hit, zs_miss, nle_t, nle_f, nlt_t, nlt_f, neq_t, neq_f, ↓reduceIte, and_self, and_true, true_and, and_false, false_and, not_true_eq_false, not_false_eq_true, Nat.add_zero, u_1, u_2, u_4, u_8, u_16]
    rw [show m / 4 / 2 = 0 from by omega]
    exact ⟨_, rfl, by decide⟩
  · simp only [Nat.reduceAdd, Nat.reducePow] at h1 h2
    simp (disch := omega) only [nL_lt, nL_gt, nL_le, nL_ge, nL_eq, nL_qe, nI_ltI, nI_leI, nI_eq, nL_add, nL_dda, nI_add, nL_sub, pk_sub, nL_mul, nL_clamp, nI_cl, zchk_n, zchk_l, zb_s, zb2_s, zb3_s, zb3_e, zput_e, zjoin_e, zs_hit, zs_miss, nle_t, nle_f, nlt_t, nlt_f, neq_t, neq_f, ↓reduceIte, and_self, and_true, true_and, and_false, false_and, not_true_eq_false, not_false_eq_true, Nat.add_zero, u_1, u_2, u_4, u_8, u_16]
    rw [show m / 4 / 2 = 1 from by omega]
    exact ⟨_, rfl, by decide⟩
  · simp only [Nat.reduceAdd, Nat.reducePow] at h1 h2
    simp (disch := omega) only [nL_lt, nL_gt, nL_le, nL_ge, nL_eq, nL_qe, nI_ltI, nI_leI, nI_eq, nL_add, nL_dda, nI_add, nL_sub, pk_sub, nL_mul, nL_clamp, nI_cl, zchk_n, zchk_l, zb_s, zb2_s, zb3_s, zb3_e, zput_e, zjoin_e, zs_hit, zs_miss, nle_t, nle_f, nlt_t, nlt_f, neq_t, neq_f, ↓reduceIte, and_self, and_true, true_and, and_false, false_and, not_true_eq_false, not_false_eq_true, Nat.add_zero, u_1, u_2, u_4, u_8, u_16]
    rw [show m / 16 / 2 = 0 from by omega]
    exact ⟨_, rfl, by decide⟩
  · simp only [Nat.reduceAdd, Nat.reducePow] at h1 h2
    simp (disch := omega) only [nL_lt, nL_gt, nL_le, nL_ge, nL_eq, nL_qe, nI_ltI, nI_leI, nI_eq, nL_add, nL_dda, nI_add, nL_sub, pk_sub, nL_mul, nL_clamp, nI_cl, zchk_n, zchk_l, zb_s, zb2_s, zb3_s, zb3_e, zput_e, zjoin_e, zs_hit, zs_miss, nle_t, nle_f, nlt_t, nlt_f, neq_t, neq_f, ↓reduceIte, and_self, and_true, true_and, and_false, false_and, not_true_eq_false, not_false_eq_true, Nat.add_zero, u_1, u_2, u_4, u_8, u_16]
    rw [show m / 16 / 2 = 1 from by omega]
    exact ⟨_, rfl, by decide⟩
  · simp only [Nat.reduceAdd, Nat.reducePow] at h1 h2
    simp (disch := omega) only [nL_lt, nL_gt, nL_le, nL_ge, nL_eq, nL_qe, nI_ltI, nI_leI, nI_eq, nL_add, nL_dda, nI_add, nL_sub, pk_sub, nL_mul, nL_clamp, nI_cl, zchk_n, zchk_l, zb_s, zb2_s, zb3_s, zb3_e, zput_e, zjoin_e, zs_hit, zs_miss, nle_t, nle_f, nlt_t, nlt_f, neq_t, neq_f, ↓reduceIte, and_self, and_true, true_and, and_false, false_and, not_true_eq_false, not_false_eq_true, Nat.add_zero, u_1, u_2, u_4, u_8, u_16]
    rw [show m / 16 / 4 / 2 = 0 from by omega]
    exact ⟨_, rfl, by decide⟩
  · simp only [Nat.reduceAdd, Nat.reducePow] at h1 h2
    simp (disch := omega) only [nL_lt, nL_gt, nL_le, nL_ge, nL_eq, nL_qe, nI_ltI, nI_leI, nI_eq, nL_add, nL_dda, nI_add, nL_sub, pk_sub, nL_mul, nL_clamp, nI_cl, zchk_n, zchk_l, zb_s, zb2_s, zb3_s, zb3_e, zput_e, zjoin_e, zs_hit, zs_miss, nle_t, nle_f, nlt_t, nlt_f, neq_t, neq_f, ↓reduceIte, and_self, and_true, true_and, and_false, false_and, not_true_eq_false, not_false_eq_true, Nat.add_zero, u_1, u_2, u_4, u_8, u_16]
    rw [show m / 16 / 4 / 2 = 1 from by omega]
    exact ⟨_, rfl, by decide⟩
  · simp only [Nat.reduceAdd, Nat.reducePow] at h1 h2
    simp (disch := omega) only [nL_lt, nL_gt, nL_le, nL_ge, nL_eq, nL_qe, nI_ltI, nI_leI, nI_eq, nL_add, nL_dda, nI_add, nL_sub, pk_sub, nL_mul, nL_clamp, nI_cl, zchk_n, zchk_l, zb_s, zb2_s, zb3_s, zb3_e, zput_e, zjoin_e, zs_hit, zs_miss, nle_t, nle_f, nlt_t, nlt_f, neq_t, neq_f, ↓reduceIte, and_self, and_true, true_and, and_false, false_and, not_true_eq_false, not_false_eq_true, Nat.add_zero, u_1, u_2, u_4, u_8, u_16]
    rw [show m / 256 / 2 = 0 from by omega]
    exact ⟨_, rfl, by decide⟩
  · simp only [Nat.reduceAdd, Nat.reducePow] at h1 h2
    simp (disch := omega) only [nL_lt, nL_gt, nL_le, nL_ge, nL_eq, nL_qe, nI_ltI, nI_leI, nI_eq, nL_add, nL_dda, nI_add, nL_sub, pk_sub, nL_mul, nL_clamp, nI_cl, zchk_n, zchk_l, zb_s, zb2_s, zb3_s, zb3_e, zput_e, zjoin_e, zs_hit, zs_miss, nle_t, nle_f, nlt_t, nlt_f, neq_t, neq_f, ↓reduceIte, and_self, and_true, true_and, and_false, false_and, not_true_eq_false, not_false_eq_true, Nat.add_zero, u_1, u_2, u_4, u_8, u_16]
    rw [show m / 256 / 2 = 1 from by omega]
    exact ⟨_, rfl, by decide⟩
  · simp only [Nat.reduceAdd, Nat.reducePow] at h1 h2
    simp (disch := omega) only [nL_lt, nL_gt, nL_le, nL_ge, nL_eq, nL_qe, nI_ltI, nI_leI, nI_eq, nL_add, nL_dda, nI_add, nL_sub, pk_sub, nL_mul, nL_clamp, nI_cl, zchk_n, zchk_l, zb_s, zb2_s, zb3_s, zb3_e, zput_e, zjoin_e, zs_hit, zs_miss, nle_t, nle_f, nlt_t, nlt_f, neq_t, neq_f, ↓reduceIte, and_self, and_true, true_and, and_false, false_and, not_true_eq_false, not_false_eq_true, Nat.add_zero, u_1, u_2, u_4, u_8, u_16]
    rw [show m / 256 / 4 / 2 = 0 from by omega]
    exact ⟨_, rfl, by decide⟩
  · simp only [Nat.reduceAdd, Nat.reducePow] at h1 h2
    simp (disch := omega) only [nL_lt, nL_gt, nL_le, nL_ge, nL_eq, nL_qe, nI_ltI, nI_leI, nI_eq, nL_add, nL_dda, nI_add, nL_sub, pk_sub, nL_mul, nL_clamp, nI_cl, zchk_n, zchk_l, zb_s, zb2_s, zb3_s, zb3_e, zput_e, zjoin_e, zs_hit, zs_miss, nle_t, nle_f, nlt_t, nlt_f, neq_t, neq_f, ↓reduceIte, and_self, and_true, true_and, and_false, false_and, not_true_eq_false, not_false_eq_true, Nat.add_zero, u_1, u_2, u_4, u_8, u_16]
    rw [show m / 256 / 4 / 2 = 1 from by omega]
    exact ⟨_, rfl, by decide⟩
  · simp only [Nat.reduceAdd, Nat.reducePow] at h1 h2
    simp (disch := omega) only [nL_lt, nL_gt, nL_le, nL_ge, nL_eq, nL_qe, nI_ltI, nI_leI, nI_eq, nL_add, nL_dda, nI_add, nL_sub, pk_sub, nL_mul, nL_clamp, nI_cl, zchk_n, zchk_l, zb_s, zb2_s, zb3_s, zb3_e, zput_e, zjoin_e, zs_hit, zs_miss, nle_t, nle_f, nlt_t, nlt_f, neq_t, neq_f, ↓reduceIte, and_self, and_true, true_and, and_false, false_and, not_true_eq_false, not_false_eq_true, Nat.add_zero, u_1, u_2, u_4, u_8, u_16]
    rw [show m / 256 / 16 / 2 = 0 from by omega]
    exact ⟨_, rfl, by decide⟩
  · simp only [Nat.reduceAdd, Nat.reducePow] at h1 h2
    simp (disch := omega) only [nL_lt, nL_gt, nL_le, nL_ge, nL_eq, nL_qe, nI_ltI, nI_leI, nI_eq, nL_add, nL_dda, nI_add, nL_sub, pk_sub, nL_mul, nL_clamp, nI_cl, zchk_n, zchk_l, zb_s, zb2_s, zb3_s, zb3_e, zput_e, zjoin_e, zs_hit, zs_miss, nle_t, nle_f, nlt_t, nlt_f, neq_t, neq_f, ↓reduceIte, and_self, and_true, true_and, and_false, false_and, not_true_eq_false, not_false_eq_true, Nat.add_zero, u_1, u_2, u_4, u_8, u_16]
    rw [show m / 256 / 16 / 2 = 1 from by omega]
    exact ⟨_, rfl, by decide⟩
  · simp only [Nat.reduceAdd, Nat.reducePow] at h1 h2
    simp (disch := omega) only [nL_lt, nL_gt, nL_le, nL_ge, nL_eq, nL_qe, nI_ltI, nI_leI, nI_eq, nL_add, nL_dda, nI_add, nL_sub, pk_sub, nL_mul, nL_clamp, nI_cl, zchk_n, zchk_l, zb_s, zb2_s, zb3_s, zb3_e, zput_e, zjoin_e, zs_hit, zs_miss, nle_t, nle_f, nlt_t, nlt_f, neq_t, neq_f, ↓reduceIte, and_self, and_true, true_and, and_false, false_and, not_true_eq_false, not_false_eq_true, Nat.add_zero, u_1, u_2, u_4, u_8, u_16]
    rw [show m / 256 / 16 / 4 / 2 = 0 from by omega]
    exact ⟨_, rfl, by decide⟩
  · simp only [Nat.reduceAdd, Nat.reducePow] at h1 h2
    simp (disch := omega) only [nL_lt, nL_gt, nL_le, nL_ge, nL_eq, nL_qe, nI_ltI, nI_leI, nI_eq, nL_add, nL_dda, nI_add, nL_sub, pk_sub, nL_mul, nL_clamp, nI_cl, zchk_n, zchk_l, zb_s, zb2_s, zb3_s, zb3_e, zput_e, zjoin_e, zs_hit, zs_miss, nle_t, nle_f, nlt_t, nlt_f, neq_t, neq_f, ↓reduceIte, and_self, and_true, true_and, and_false, false_and, not_true_eq_false, not_false_eq_true, Nat.add_zero, u_1, u_2, u_4, u_8, u_16]
    rw [show m / 256 / 16 / 4 / 2 = 1 from by omega]
    exact ⟨_, rfl, by decide⟩
  · simp only [Nat.reduceAdd, Nat.reducePow] at h1 h2
    simp (disch := omega) only [nL_lt, nL_gt, nL_le, nL_ge, nL_eq, nL_qe, nI_ltI, nI_leI, nI_eq, nL_add, nL_dda, nI_add, nL_sub, pk_sub, nL_mul, nL_clamp, nI_cl, zchk_n, zchk_l, zb_s, zb2_s, zb3_s, zb3_e, zput_e, zjoin_e, zs_hit, zs_miss, nle_t, nle_f, nlt_t, nlt_f, neq_t, neq_f, ↓reduceIte, and_self, and_true, true_and, and_false, false_and, not_true_eq_false, not_false_eq_true, Nat.add_zero, u_1, u_2, u_4, u_8, u_16]
    rw [show m / 65536 / 2 = 0 from by omega]
    exact ⟨_, rfl, by decide⟩
  · simp only [Nat.reduceAdd, Nat.reducePow] at h1 h2
    simp (disch := omega) only [nL_lt, nL_gt, nL_le, nL_ge, nL_eq, nL_qe, nI_ltI, nI_leI, nI_eq, nL_add, nL_dda, nI_add, nL_sub, pk_sub, nL_mul, nL_clamp, nI_cl, zchk_n, zchk_l, zb_s, zb2_s, zb3_s, zb3_e, zput_e, zjoin_e, zs_hit, zs_miss, nle_t, nle_f, nlt_t, nlt_f, neq_t, neq_f, ↓reduceIte, and_self, and_true, true_and, and_false, false_and, not_true_eq_false, not_false_eq_true, Nat.add_zero, u_1, u_2, u_4, u_8, u_16]
    rw [show m / 65536 / 2 = 1 from by omega]
    exact ⟨_, rfl, by decide⟩
  · simp only [Nat.reduceAdd, Nat.reducePow] at h1 h2
    simp (disch := omega) only [nL_lt, nL_gt, nL_le, nL_ge, nL_eq, nL_qe, nI_ltI, nI_leI, nI_eq, nL_add, nL_dda, nI_add, nL_sub, pk_sub, nL_mul, nL_clamp, nI_cl, zchk_n, zchk_l, zb_s, zb2_s, zb3_s, zb3_e, zput_e, zjoin_e, zs_hit, zs_miss, nle_t, nle_f, nlt_t, nlt_f, neq_t, neq_f, ↓reduceIte, and_self, and_true, true_and, and_false, false_and, not_true_eq_false, not_false_eq_true, Nat.add_zero, u_1, u_2, u_4, u_8, u_16]
    rw [show m / 65536 / 4 / 2 = 0 from by omega]
    exact ⟨_, rfl, by decide⟩
  · simp only [Nat.reduceAdd, Nat.reducePow] at h1 h2
    simp (disch := omega) only [nL_lt, nL_gt, nL_le, nL_ge, nL_eq, nL_qe, nI_ltI, nI_leI, nI_eq, nL_add, nL_dda, nI_add, nL_sub, pk_sub, nL_mul, nL_clamp, nI_cl, zchk_n, zchk_l, zb_s, zb2_s, zb3_s, zb3_e, zput_e, zjoin_e, zs_hit, zs_miss, nle_t, nle_f, nlt_t, nlt_f, neq_t, neq_f, ↓reduceIte, and_self, and_true, true_and, and_false, false_and, not_true_eq_false, not_false_eq_true, Nat.add_zero, u_1, u_2, u_4, u_8, u_16]
    rw [show m / 65536 / 4 / 2 = 1 from by omega]
    exact ⟨_, rfl, by decide⟩
  · simp only [Nat.reduceAdd, Nat.reducePow] at h1 h2
    simp (disch := omega) only [nL_lt, nL_gt, nL_le, nL_ge, nL_eq, nL_qe, nI_ltI, nI_leI, nI_eq, nL_add, nL_dda, nI_add, nL_sub, pk_sub, nL_mul, nL_clamp, nI_cl, zchk_n, zchk_l, zb_s, zb2_s, zb3_s, zb3_e, zput_e, zjoin_e, zs_hit, zs_miss, nle_t, nle_f, nlt_t, nlt_f, neq_t, neq_f, ↓reduceIte, and_self, and_true, true_and, and_false, false_and, not_true_eq_false, not_false_eq_true, Nat.add_zero, u_1, u_2, u_4, u_8, u_16]
    rw [show m / 65536 / 16 / 2 = 0 from by omega]
    exact ⟨_, rfl, by decide⟩
  · simp only [Nat.reduceAdd, Nat.reducePow] at h1 h2
    simp (disch := omega) only [nL_lt, nL_gt, nL_le, nL_ge, nL_eq, nL_qe, nI_ltI, nI_leI, nI_eq, nL_add, nL_dda, nI_add, nL_sub, pk_sub, nL_mul, nL_clamp, nI_cl, zchk_n, zchk_l, zb_s, zb2_s, zb3_s, zb3_e, zput_e, zjoin_e, zs_hit, zs_miss, nle_t, nle_f, nlt_t, nlt_f, neq_t, neq_f, ↓reduceIte, and_self, and_true, true_and, and_false, false_and, not_true_eq_false, not_false_eq_true, Nat.add_zero, u_1, u_2, u_4, u_8, u_16]
    rw [show m / 65536 / 16 / 2 = 1 from by omega]
    exact ⟨_, rfl, by decide⟩
  · simp only [Nat.reduceAdd, Nat.reducePow] at h1 h2
    simp (disch := omega) only [nL_lt, nL_gt, nL_le, nL_ge, nL_eq, nL_qe, nI_ltI, nI_leI, nI_eq, nL_add, nL_dda, nI_add, nL_sub, pk_sub, nL_mul, nL_clamp, nI_cl, zchk_n, zchk_l, zb_s, zb2_s, zb3_s, zb3_e, zput_e, zjoin_e, zs_hit, zs_miss, nle_t, nle_f, nlt_t, nlt_f, neq_t, neq_f, ↓reduceIte, and_self, and_true, true_and, and_false, false_and, not_true_eq_false, not_false_eq_true, Nat.add_zero, u_1, u_2, u_4, u_8, u_16]
    rw [show m / 65536 / 16 / 4 / 2 = 0 from by omega]
    exact ⟨_, rfl, by decide⟩
  · simp only [Nat.reduceAdd, Nat.reducePow] at h1 h2
    simp (disch := omega) only [nL_lt, nL_gt, nL_le, nL_ge, nL_eq, nL_qe, nI_ltI, nI_leI, nI_eq, nL_add, nL_dda, nI_add, nL_sub, pk_sub, nL_mul, nL_clamp, nI_cl, zchk_n, zchk_l, zb_s, zb2_s, zb3_s, zb3_e, zput_e, zjoin_e, zs_hit, zs_miss, nle_t, nle_f, nlt_t, nlt_f, neq_t, neq_f, ↓reduceIte, and_self, and_true, true_and, and_false, false_and, not_true_eq_false, not_false_eq_true, Nat.add_zero, u_1, u_2, u_4, u_8, u_16]
    rw [show m / 65536 / 16 / 4 / 2 = 1 from by omega]
    exact ⟨_, rfl, by decide⟩
theorem m_written {S : zS} (hS : zSW S) (v : Int32) : zAsk [1] S (fX11_written v) (fX12_written v) := by
  rcases zix v (zsz hS) with h | ⟨l, hl, rfl⟩
  · refine ⟨.error 1, fun g e => ⟨g, ?_, .refl⟩, fun g e => zRa_err2 (t := 1) (b := 0) ?_ (by decide)⟩
    · unfold fX11_written; rw [c_mailOf_no e h, zb3_e]
    · unfold fX12_written; simp only [zb_s, zb2_s, zb3_s, zb3_e, zjoin_e, zput_e, r_thr0, r_thr1, zi10, zi01, if_true, if_false, r_noLetter_no hS (e.thr hS 0) h]
  have h8 := hS.eight
  have hL := hS.letter hl
  have h24 := hL.2.1
  have hbt : ∀ i, i < 32 → bt (zas (zSL S) ((zSB S).2.1 l)) i = (decide (i < ((zSB S).2.1 l).1) && zasp (zSL S) ((zSB S).2.1 l) i) := fun i hi => b_zbs (by omega) hi
  refine ⟨.ok (nI (ztop (bt (zas (zSL S) ((zSB S).2.1 l))) 23)), fun g e => ?_, fun g e => ?_⟩
  · obtain ⟨g1, a1, a2⟩ := c_astrayIn hS.law e.law (e.mail hl) (by omega) hL
    refine ⟨g1, ?_, fun c h1 h2 _ => a2 c h1 h2, by rw [a2 481 (by omega) (by omega)], by rw [a2 482 (by omega) (by omega)]⟩
    unfold fX11_written
    rw [c_mailOf hS e hl, zb3_s, a1, zb2_s]
    generalize zas (zSL S) ((zSB S).2.1 l) = x
    have : ∀ i n, i < 24 → i < n → fX11_written_L19 x g1 (fun v3_5 => some (.ok (v3_5 + 1), g1)) n (nI i) = some (.ok (nI (ztop (bt x) i)), g1) := by
      intro i
      induction i with
      | zero =>
        intro n _ hn
        obtain ⟨n, rfl⟩ : ∃ m, n = m + 1 := ⟨n - 1, by omega⟩
        simp only [fX11_written_L19]
        simp (disch := omega) only [nL_lt, nL_gt, nL_le, nL_ge, nL_eq, nL_qe, nI_ltI, nI_leI, nI_eq, nL_add, nL_dda, nI_add, nL_sub, pk_sub, nL_mul, nL_clamp, nI_cl, zchk_n, zchk_l, zb_s, zb2_s, zb3_s, zb3_e, zput_e, zjoin_e, zs_hit, zs_miss, nle_t, nle_f, nlt_t, nlt_f, neq_t, neq_f, ↓reduceIte, and_self, and_true, true_and, and_false, false_and, not_true_eq_false, not_false_eq_true, Nat.add_zero]
        rfl
      | succ i ih =>
        intro n hi hn
        obtain ⟨n, rfl⟩ : ∃ m, n = m + 1 := ⟨n - 1, by omega⟩
        simp only [fX11_written_L19]
        rw [b_test (by omega), pk_m1, ih n (by omega) (by omega)]
        simp (disch := omega) only [nL_lt, nL_gt, nL_le, nL_ge, nL_eq, nL_qe, nI_ltI, nI_leI, nI_eq, nL_add, nL_dda, nI_add, nL_sub, pk_sub, nL_mul, nL_clamp, nI_cl, zchk_n, zchk_l, zb_s, zb2_s, zb3_s, zb3_e, zput_e, zjoin_e, zs_hit, zs_miss, nle_t, nle_f, nlt_t, nlt_f, neq_t, neq_f, ↓reduceIte, and_self, and_true, true_and, and_false, false_and, not_true_eq_false, not_false_eq_true, Nat.add_zero]
        show _ = some (Except.ok (nI (if bt x (i + 1) = true then i + 2 else ztop (bt x) i)), g1)
        cases bt x (i + 1) <;> simp
    exact this 23 zFU (by omega) (by unfold zFU; omega)
  · have e0 := e.thr hS 0
    obtain ⟨g1, a1, a2⟩ := r_look0 hS e0 .refl hl
    obtain ⟨g2, b1, b2⟩ := r_astrayOf hS e0 a2.2 hl hL rfl rfl rfl a2.1
    refine zRa_ok (g1 := g2) ?_ b2
    unfold fX12_written
    simp only [zb_s, zb2_s, zb3_s, zb3_e, zjoin_e, zput_e, r_thr0, r_thr1, zi10, zi01, if_true, if_false, r_noLetter hS e0 hl, a1, b1]
    generalize zas (zSL S) ((zSB S).2.1 l) = x at *
    have hz : ∀ i, 24 ≤ i → i < 32 → bt x i = false := fun i h1 h2 => by rw [hbt i h2]; simp; omega
    have h0 : bt x 0 = false := by rw [hbt 0 (by omega)]; unfold zasp; simp
    rcases ztop_or (bt x) 23 with ⟨t, t1, t2, t3, t4, t5⟩ | ⟨t1, t2⟩
    · obtain ⟨m, m1, rfl⟩ := w_lt (x := x) (t := t + 1) (by omega) (fun i h1 h2 => by
        rcases Nat.lt_or_ge i 24 with q | q
        · exact t4 i (by omega) (by omega)
        · exact hz i q h2)
      have hm : m < 2 ^ 32 := Nat.lt_of_lt_of_le m1 (Nat.pow_le_pow_right (by omega) (by omega))
      have hm24 : m < 2 ^ 24 := Nat.lt_of_lt_of_le m1 (Nat.pow_le_pow_right (by omega) (by omega))
      rw [w_nat t hm] at t3
      have hge := Nat.ge_two_pow_of_testBit t3
      have hpos : 0 < 2 ^ t := Nat.two_pow_pos t
      obtain ⟨r, r1, r2⟩ := zlz (m := m) (t := t) (by omega) hge m1 g2
      rw [if_neg (nI_ne0 (by omega) (by omega)), r1, zb_s, r2, t5]
    · have hx : x = 0 := b_ext (fun i hi => by
        rw [b_0]
        rcases Nat.eq_zero_or_pos i with q | q
        · rw [q]; exact h0
        · rcases Nat.lt_or_ge i 24 with q2 | q2
          · exact t1 i q (by omega)
          · exact hz i q2 hi)
      rw [if_pos hx, t2]
      rfl
/-- L with another TEMPER, or SENDER -/
def zLd (b : Bool) (L : zL) (d : Int32) : zL := if b = true then (L.1, L.2.1, L.2.2.1, L.2.2.2.1, d, L.2.2.2.2.2) else (L.1, L.2.1, L.2.2.1, d, L.2.2.2.2)
theorem zLd_q (b : Bool) (L : zL) (d : Int32) : (zLd b L d).1 = L.1 ∧ (zLd b L d).2.1 = L.2.1 ∧ (zLd b L d).2.2.1 = L.2.2.1 := by cases b <;> exact ⟨rfl, rfl, rfl⟩
theorem zLd_W {L : zL} (hL : zLW L) (b : Bool) (d : Int32) : zLW (zLd b L d) := by
  obtain ⟨q1, q2, q3⟩ := zLd_q b L d
  unfold zLW
  rw [q1, q2]
  exact hL
theorem zLd_d (b : Bool) (L : zL) (d d2 : Int32) : zLd b (zLd b L d) d2 = zLd b L d2 := by cases b <;> rfl
/-- (the fewest, the best digit) of the first -/
def zaut (f : Nat → Int32) : Nat → Int32 × Int32
  | 0 => (25, 0)
  | i + 1 => if f i < (zaut f i).1 then (f i, nI i) else zaut f i
theorem zbc_zas {W : zLw} {L : zL} (hL : zLW L) : ∃ c, c ≤ 24 ∧ zbc (zas W L) = nI c := by
  have h24 := hL.2.1
  obtain ⟨m, m1, m2⟩ := w_lt (x := zas W L) (t := 24) (by omega) (fun i h1 h2 => by
    unfold zas
    rw [b_zbs (by omega) h2]
    simp
    omega)
  rw [m2]
  exact zbc_le (Nat.lt_of_lt_of_le m1 (by decide))
theorem m_author {S : zS} (hS : zSW S) (v : Int32) (b : Bool) : zAsk [1] S (fX11_author v (zbi b)) (fX12_author v (zbi b)) := by
  rcases zix v (zsz hS) with h | ⟨l, hl, rfl⟩
  · refine ⟨.error 1, fun g e => ⟨g, ?_, .refl⟩, fun g e => zRa_err2 (t := 1) (b := 0) ?_ (by decide)⟩
    · unfold fX11_author; rw [c_mailOf_no e h, zb3_e]
    · unfold fX12_author; simp only [zb_s, zb2_s, zb3_s, zb3_e, zjoin_e, zput_e, r_thr0, r_thr1, zi10, zi01, if_true, if_false, r_noLetter_no hS (e.thr hS 0) h]
  have h8 := hS.eight
  have hL := hS.letter hl
  have hb : ∃ f : Nat → Int32, ∀ d, f d = zbc (zas (zSL S) (zLd b ((zSB S).2.1 l) (nI d))) := ⟨_, fun _ => rfl⟩
  obtain ⟨f, hf⟩ := hb
  refine ⟨.ok (zaut f 10).2, fun g e => ?_, fun g e => ?_⟩
  · obtain ⟨g1, a1, a2⟩ := c_look0 hS e .refl hl
    have main : ∃ g2, fX11_author_L31 (zbi b) zFU 25 0 0 g1 = some (.ok (zaut f 10).2, g2) ∧ zFC g g2 := by
      refine zL_Q0 (fun n i (st : (Int32 × Int32) × zM) => fX11_author_L31 (zbi b) n st.1.1 st.1.2 (nI i) st.2) (fun i st => st.1 = zaut f i ∧ zFS 446 g st.2 ∧ ∃ d, zCM st.2 447 (zLd b ((zSB S).2.1 l) d)) 10 (fun x => ∃ g2, x = some (.ok (zaut f 10).2, g2) ∧ zFC g g2) ((25, 0), g1) (by omega) ⟨rfl, a2.2, if b = true then ((zSB S).2.1 l).2.2.2.2.1 else ((zSB S).2.1 l).2.2.2.1, ?_⟩ (fun n i st hi hh => ?_) (fun n st hh => ?_)
      · have : zLd b ((zSB S).2.1 l) (if b = true then ((zSB S).2.1 l).2.2.2.2.1 else ((zSB S).2.1 l).2.2.2.1) = (zSB S).2.1 l := by cases b <;> rfl
        rw [this]
        exact a2.1.1
      · obtain ⟨st, s⟩ := st
        obtain ⟨rfl, b2, d, b3⟩ := hh
        have b2 : zFS 446 g s := b2
        have b3 : zCM s 447 (zLd b ((zSB S).2.1 l) d) := b3
        have hset : ∃ s1, (if zbi b = 0 then zset s 447 3 (nI i) else zset s 447 4 (nI i)) = s1 ∧ zCM s1 447 (zLd b ((zSB S).2.1 l) (nI i)) ∧ zFS 446 g s1 := by
          obtain ⟨c1, c2, c3, c4, c5, c6, c7⟩ := b3
          cases b
          · refine ⟨_, rfl, ⟨?_, fun j hj => ?_, fun j hj => ?_, ?_, ?_, ?_, ?_⟩, fun c h1 h2 h3 => ?_⟩ <;> simp only [zbi_f, if_true] <;> simp (disch := omega) only [nL_lt, nL_gt, nL_le, nL_ge, nL_eq, nL_qe, nI_ltI, nI_leI, nI_eq, nL_add, nL_dda, nI_add, nL_sub, pk_sub, nL_mul, nL_clamp, nI_cl, zchk_n, zchk_l, zb_s, zb2_s, zb3_s, zb3_e, zput_e, zjoin_e, zs_hit, zs_miss, nle_t, nle_f, nlt_t, nlt_f, neq_t, neq_f, ↓reduceIte, and_self, and_true, true_and, and_false, false_and, not_true_eq_false, not_false_eq_true, Nat.add_zero, zs_cell] <;> first | exact c2 j hj | exact c3 j hj | exact b2 c h1 h2 h3 | assumption | rfl
          · refine ⟨_, rfl, ⟨?_, fun j hj => ?_, fun j hj => ?_, ?_, ?_, ?_, ?_⟩, fun c h1 h2 h3 => ?_⟩ <;> simp only [zbi_t, zi10, if_false] <;> simp (disch := omega) only [nL_lt, nL_gt, nL_le, nL_ge, nL_eq, nL_qe, nI_ltI, nI_leI, nI_eq, nL_add, nL_dda, nI_add, nL_sub, pk_sub, nL_mul, nL_clamp, nI_cl, zchk_n, zchk_l, zb_s, zb2_s, zb3_s, zb3_e, zput_e, zjoin_e, zs_hit, zs_miss, nle_t, nle_f, nlt_t, nlt_f, neq_t, neq_f, ↓reduceIte, and_self, and_true, true_and, and_false, false_and, not_true_eq_false, not_false_eq_true, Nat.add_zero, zs_cell] <;> first | exact c2 j hj | exact c3 j hj | exact b2 c h1 h2 h3 | assumption | rfl
        obtain ⟨s1, d1, d2, d3⟩ := hset
        obtain ⟨s2, f1, f2⟩ := c_astrayIn hS.law (e.law.fr (fun c _ _ => d3 c (by omega) (by omega) (by omega))) d2 (by omega) (zLd_W hL b _)
        have d4 : zFS 446 g s2 := d3.trans (fun c h1 h2 _ => f2 c h1 h2)
        right
        refine ⟨(zaut f (i + 1), s2), ⟨rfl, d4, nI i, d2.fr (f2 _ (by omega) (by omega)) (f2 _ (by omega) (by omega)) (f2 _ (by omega) (by omega))⟩, ?_⟩
        have step : fX11_author_L31 (zbi b) (n + 1) (zaut f i).1 (zaut f i).2 (nI i) s = zb2 (fX1_astrayIn 29 447 s1) (fun r_5 g5 => zb (fJ6_bitCount_0f7a4 r_5 g5) (fun r_6 => if (zaut f i).1 ≤ r_6 then fX11_author_L31 (zbi b) n (zaut f i).1 (zaut f i).2 (nI i + 1) g5 else fX11_author_L31 (zbi b) n r_6 (nI i) (nI i + 1) g5)) := by
          simp only [fX11_author_L31]
          rw [← d1]
          cases b
          · simp (disch := omega) only [nL_lt, nL_gt, nL_le, nL_ge, nL_eq, nL_qe, nI_ltI, nI_leI, nI_eq, nL_add, nL_dda, nI_add, nL_sub, pk_sub, nL_mul, nL_clamp, nI_cl, zchk_n, zchk_l, zb_s, zb2_s, zb3_s, zb3_e, zput_e, zjoin_e, zs_hit, zs_miss, nle_t, nle_f, nlt_t, nlt_f, neq_t, neq_f, ↓reduceIte, and_self, and_true, true_and, and_false, false_and, not_true_eq_false, not_false_eq_true, Nat.add_zero, zbi_f]
          · simp (disch := omega) only [nL_lt, nL_gt, nL_le, nL_ge, nL_eq, nL_qe, nI_ltI, nI_leI, nI_eq, nL_add, nL_dda, nI_add, nL_sub, pk_sub, nL_mul, nL_clamp, nI_cl, zchk_n, zchk_l, zb_s, zb2_s, zb3_s, zb3_e, zput_e, zjoin_e, zs_hit, zs_miss, nle_t, nle_f, nlt_t, nlt_f, neq_t, neq_f, ↓reduceIte, and_self, and_true, true_and, and_false, false_and, not_true_eq_false, not_false_eq_true, Nat.add_zero, zbi_t, zi10]
        refine step.trans ?_
        rw [f1]
        simp (disch := omega) only [nL_lt, nL_gt, nL_le, nL_ge, nL_eq, nL_qe, nI_ltI, nI_leI, nI_eq, nL_add, nL_dda, nI_add, nL_sub, pk_sub, nL_mul, nL_clamp, nI_cl, zchk_n, zchk_l, zb_s, zb2_s, zb3_s, zb3_e, zput_e, zjoin_e, zs_hit, zs_miss, nle_t, nle_f, nlt_t, nlt_f, neq_t, neq_f, ↓reduceIte, and_self, and_true, true_and, and_false, false_and, not_true_eq_false, not_false_eq_true, Nat.add_zero, zbc_eq, ← hf]
        have : zaut f (i + 1) = if f i < (zaut f i).1 then (f i, nI i) else zaut f i := rfl
        rw [this]
        by_cases q : f i < (zaut f i).1
        · have q2 : ¬ (zaut f i).1 ≤ f i := Int32.not_le.mpr q
          simp only [q, q2, if_true, if_false]
        · have q2 : (zaut f i).1 ≤ f i := Int32.not_lt.mp q
          simp only [q, q2, if_true, if_false]
      · obtain ⟨st, s⟩ := st
        obtain ⟨q1, b2, b3⟩ := hh
        have q1 : st = zaut f 10 := q1
        have b2 : zFS 446 g s := b2
        refine ⟨s, ?_, b2.fc (by omega)⟩
        rw [← q1]
        simp only [fX11_author_L31]
        simp (disch := omega) only [nL_lt, nL_gt, nL_le, nL_ge, nL_eq, nL_qe, nI_ltI, nI_leI, nI_eq, nL_add, nL_dda, nI_add, nL_sub, pk_sub, nL_mul, nL_clamp, nI_cl, zchk_n, zchk_l, zb_s, zb2_s, zb3_s, zb3_e, zput_e, zjoin_e, zs_hit, zs_miss, nle_t, nle_f, nlt_t, nlt_f, neq_t, neq_f, ↓reduceIte, and_self, and_true, true_and, and_false, false_and, not_true_eq_false, not_false_eq_true, Nat.add_zero]
    obtain ⟨g2, b1, b2⟩ := main
    refine ⟨g2, ?_, b2⟩
    unfold fX11_author
    rw [c_mailOf hS e hl, zb3_s, e.week, a1, zb_s]
    exact b1
  · have e0 := e.thr hS 0
    have main : ∃ g2, fX12_author_L30 (nI l) (zbi b) zFU 0 1000 0 (zset g 493 0 0) = some ((zaut f 10).2, g2) ∧ zFQ (zset g 493 0 0) g2 := by
      refine zL_Q0 (fun n i (st : (Int32 × Int32) × zM) => fX12_author_L30 (nI l) (zbi b) n st.1.2 st.1.1 (nI i) st.2) (fun i st => ((i = 0 ∧ st.1 = (1000, 0)) ∨ (1 ≤ i ∧ st.1 = zaut f i)) ∧ zFQ (zset g 493 0 0) st.2) 10 (fun x => ∃ g2, x = some ((zaut f 10).2, g2) ∧ zFQ (zset g 493 0 0) g2) ((1000, 0), zset g 493 0 0) (by omega) ⟨Or.inl ⟨rfl, rfl⟩, .refl⟩ (fun n i st hi hh => ?_) (fun n st hh => ?_)
      · obtain ⟨st, s⟩ := st
        obtain ⟨b1, b2⟩ := hh
        have b1 : (i = 0 ∧ st = (1000, 0)) ∨ (1 ≤ i ∧ st = zaut f i) := b1
        have b2 : zFQ (zset g 493 0 0) s := b2
        obtain ⟨s1, c1, c2⟩ := r_look0 hS (e0.fq hS b2) b2 hl
        obtain ⟨r1, r2, r3, r4, r5, r6, r7⟩ := c2.1
        have hset : ∃ s2, zset (zset s1 493 21 (if zbi b = 0 then s1 493 21 else nI i)) 493 20 (if zbi b = 0 then nI i else s1 493 20) = s2 ∧ zRR s2 (zLd b ((zSB S).2.1 l) (nI i)) ((zSB S).2.1 l).1 (zSB S).2.2.1 ∧ zFQ (zset g 493 0 0) s2 := by
          refine ⟨_, rfl, ?_, ⟨fun c h1 h2 h3 => ?_, fun k hk => ?_⟩⟩
          · cases b
            · refine ⟨?_, fun j hj => ?_, ?_, ?_, ?_, ?_, ?_⟩ <;> simp only [zbi_f, if_true] <;> simp (disch := omega) only [nL_lt, nL_gt, nL_le, nL_ge, nL_eq, nL_qe, nI_ltI, nI_leI, nI_eq, nL_add, nL_dda, nI_add, nL_sub, pk_sub, nL_mul, nL_clamp, nI_cl, zchk_n, zchk_l, zb_s, zb2_s, zb3_s, zb3_e, zput_e, zjoin_e, zs_hit, zs_miss, nle_t, nle_f, nlt_t, nlt_f, neq_t, neq_f, ↓reduceIte, and_self, and_true, true_and, and_false, false_and, not_true_eq_false, not_false_eq_true, Nat.add_zero] <;> first | exact r2 j hj | assumption | rfl
            · refine ⟨?_, fun j hj => ?_, ?_, ?_, ?_, ?_, ?_⟩ <;> simp only [zbi_t, zi10, if_false] <;> simp (disch := omega) only [nL_lt, nL_gt, nL_le, nL_ge, nL_eq, nL_qe, nI_ltI, nI_leI, nI_eq, nL_add, nL_dda, nI_add, nL_sub, pk_sub, nL_mul, nL_clamp, nI_cl, zchk_n, zchk_l, zb_s, zb2_s, zb3_s, zb3_e, zput_e, zjoin_e, zs_hit, zs_miss, nle_t, nle_f, nlt_t, nlt_f, neq_t, neq_f, ↓reduceIte, and_self, and_true, true_and, and_false, false_and, not_true_eq_false, not_false_eq_true, Nat.add_zero] <;> first | exact r2 j hj | assumption | rfl
          · simp (disch := omega) only [nL_lt, nL_gt, nL_le, nL_ge, nL_eq, nL_qe, nI_ltI, nI_leI, nI_eq, nL_add, nL_dda, nI_add, nL_sub, pk_sub, nL_mul, nL_clamp, nI_cl, zchk_n, zchk_l, zb_s, zb2_s, zb3_s, zb3_e, zput_e, zjoin_e, zs_hit, zs_miss, nle_t, nle_f, nlt_t, nlt_f, neq_t, neq_f, ↓reduceIte, and_self, and_true, true_and, and_false, false_and, not_true_eq_false, not_false_eq_true, Nat.add_zero, zs_cell]
            have := c2.2.1 c h1 h2 h3
            rw [this]
            simp (disch := omega) only [nL_lt, nL_gt, nL_le, nL_ge, nL_eq, nL_qe, nI_ltI, nI_leI, nI_eq, nL_add, nL_dda, nI_add, nL_sub, pk_sub, nL_mul, nL_clamp, nI_cl, zchk_n, zchk_l, zb_s, zb2_s, zb3_s, zb3_e, zput_e, zjoin_e, zs_hit, zs_miss, nle_t, nle_f, nlt_t, nlt_f, neq_t, neq_f, ↓reduceIte, and_self, and_true, true_and, and_false, false_and, not_true_eq_false, not_false_eq_true, Nat.add_zero, zs_cell]
          · simp (disch := omega) only [nL_lt, nL_gt, nL_le, nL_ge, nL_eq, nL_qe, nI_ltI, nI_leI, nI_eq, nL_add, nL_dda, nI_add, nL_sub, pk_sub, nL_mul, nL_clamp, nI_cl, zchk_n, zchk_l, zb_s, zb2_s, zb3_s, zb3_e, zput_e, zjoin_e, zs_hit, zs_miss, nle_t, nle_f, nlt_t, nlt_f, neq_t, neq_f, ↓reduceIte, and_self, and_true, true_and, and_false, false_and, not_true_eq_false, not_false_eq_true, Nat.add_zero]
            exact c2.2.2 k hk
        obtain ⟨s2, d1, d2, d3⟩ := hset
        obtain ⟨q1, q2, q3⟩ := zLd_q b ((zSB S).2.1 l) (nI i)
        obtain ⟨s3, f1, f2⟩ := r_astrayOf hS e0 d3 hl (zLd_W hL b (nI i)) q1 q2 q3 d2
        have step : fX12_author_L30 (nI l) (zbi b) (n + 1) st.2 st.1 (nI i) s = zb2 (fX12_astrayOf (nI l) s2) (fun r_11 g11 => zb (fJ6_bitCount_0f7a4 r_11 g11) (fun r_12 => if r_12 < st.1 then fX12_author_L30 (nI l) (zbi b) n (nI i) r_12 (nI i + 1) g11 else fX12_author_L30 (nI l) (zbi b) n st.2 st.1 (nI i + 1) g11)) := by
          simp only [fX12_author_L30]
          rw [← d1]
          simp (disch := omega) only [nL_lt, nL_gt, nL_le, nL_ge, nL_eq, nL_qe, nI_ltI, nI_leI, nI_eq, nL_add, nL_dda, nI_add, nL_sub, pk_sub, nL_mul, nL_clamp, nI_cl, zchk_n, zchk_l, zb_s, zb2_s, zb3_s, zb3_e, zput_e, zjoin_e, zs_hit, zs_miss, nle_t, nle_f, nlt_t, nlt_f, neq_t, neq_f, ↓reduceIte, and_self, and_true, true_and, and_false, false_and, not_true_eq_false, not_false_eq_true, Nat.add_zero, c1, zjoin_ite]
          cases b
          · simp (disch := omega) only [nL_lt, nL_gt, nL_le, nL_ge, nL_eq, nL_qe, nI_ltI, nI_leI, nI_eq, nL_add, nL_dda, nI_add, nL_sub, pk_sub, nL_mul, nL_clamp, nI_cl, zchk_n, zchk_l, zb_s, zb2_s, zb3_s, zb3_e, zput_e, zjoin_e, zs_hit, zs_miss, nle_t, nle_f, nlt_t, nlt_f, neq_t, neq_f, ↓reduceIte, and_self, and_true, true_and, and_false, false_and, not_true_eq_false, not_false_eq_true, Nat.add_zero, zbi_f]
          · simp (disch := omega) only [nL_lt, nL_gt, nL_le, nL_ge, nL_eq, nL_qe, nI_ltI, nI_leI, nI_eq, nL_add, nL_dda, nI_add, nL_sub, pk_sub, nL_mul, nL_clamp, nI_cl, zchk_n, zchk_l, zb_s, zb2_s, zb3_s, zb3_e, zput_e, zjoin_e, zs_hit, zs_miss, nle_t, nle_f, nlt_t, nlt_f, neq_t, neq_f, ↓reduceIte, and_self, and_true, true_and, and_false, false_and, not_true_eq_false, not_false_eq_true, Nat.add_zero, zbi_t, zi10]
        have hz : zaut f (i + 1) = if f i < (zaut f i).1 then (f i, nI i) else zaut f i := rfl
        right
        refine ⟨(zaut f (i + 1), s3), ⟨Or.inr ⟨by omega, rfl⟩, f2⟩, ?_⟩
        refine step.trans ?_
        rw [f1]
        simp (disch := omega) only [nL_lt, nL_gt, nL_le, nL_ge, nL_eq, nL_qe, nI_ltI, nI_leI, nI_eq, nL_add, nL_dda, nI_add, nL_sub, pk_sub, nL_mul, nL_clamp, nI_cl, zchk_n, zchk_l, zb_s, zb2_s, zb3_s, zb3_e, zput_e, zjoin_e, zs_hit, zs_miss, nle_t, nle_f, nlt_t, nlt_f, neq_t, neq_f, ↓reduceIte, and_self, and_true, true_and, and_false, false_and, not_true_eq_false, not_false_eq_true, Nat.add_zero, zbc_eq, ← hf]
        rcases b1 with ⟨rfl, rfl⟩ | ⟨b0, rfl⟩
        · obtain ⟨c, hc, hc2⟩ := zbc_zas (W := zSL S) (zLd_W hL b (nI 0))
          rw [← hf] at hc2
          have l1 : f 0 < 1000 := by rw [hc2]; simp (disch := omega) only [nL_lt, nL_gt, nL_le, nL_ge, nL_eq, nL_qe, nI_ltI, nI_leI, nI_eq, nL_add, nL_dda, nI_add, nL_sub, pk_sub, nL_mul, nL_clamp, nI_cl, zchk_n, zchk_l, zb_s, zb2_s, zb3_s, zb3_e, zput_e, zjoin_e, zs_hit, zs_miss, nle_t, nle_f, nlt_t, nlt_f, neq_t, neq_f, ↓reduceIte, and_self, and_true, true_and, and_false, false_and, not_true_eq_false, not_false_eq_true, Nat.add_zero]
          have l2 : f 0 < (zaut f 0).1 := by rw [hc2]; show nI c < 25; simp (disch := omega) only [nL_lt, nL_gt, nL_le, nL_ge, nL_eq, nL_qe, nI_ltI, nI_leI, nI_eq, nL_add, nL_dda, nI_add, nL_sub, pk_sub, nL_mul, nL_clamp, nI_cl, zchk_n, zchk_l, zb_s, zb2_s, zb3_s, zb3_e, zput_e, zjoin_e, zs_hit, zs_miss, nle_t, nle_f, nlt_t, nlt_f, neq_t, neq_f, ↓reduceIte, and_self, and_true, true_and, and_false, false_and, not_true_eq_false, not_false_eq_true, Nat.add_zero]
          rw [hz]
          simp only [l1, l2, if_true]
        · rw [hz]
          by_cases q : f i < (zaut f i).1 <;> simp only [q, if_true, if_false]
      · obtain ⟨st, s⟩ := st
        obtain ⟨b1, b2⟩ := hh
        have b1 : ((10 : Nat) = 0 ∧ st = (1000, 0)) ∨ (1 ≤ (10 : Nat) ∧ st = zaut f 10) := b1
        have q1 : st = zaut f 10 := by
          rcases b1 with ⟨h, _⟩ | ⟨_, h⟩
          · omega
          · exact h
        refine ⟨s, ?_, b2⟩
        rw [← q1]
        simp only [fX12_author_L30]
        simp (disch := omega) only [nL_lt, nL_gt, nL_le, nL_ge, nL_eq, nL_qe, nI_ltI, nI_leI, nI_eq, nL_add, nL_dda, nI_add, nL_sub, pk_sub, nL_mul, nL_clamp, nI_cl, zchk_n, zchk_l, zb_s, zb2_s, zb3_s, zb3_e, zput_e, zjoin_e, zs_hit, zs_miss, nle_t, nle_f, nlt_t, nlt_f, neq_t, neq_f, ↓reduceIte, and_self, and_true, true_and, and_false, false_and, not_true_eq_false, not_false_eq_true, Nat.add_zero]
    obtain ⟨g2, b1, b2⟩ := main
    refine zRa_ok (g1 := g2) ?_ b2
    unfold fX12_author
    simp only [zb_s, zb2_s, zb3_s, zb3_e, zjoin_e, zput_e, r_thr0, r_thr1, zi10, zi01, if_true, if_false, r_noLetter hS e0 hl]
    exact b1
