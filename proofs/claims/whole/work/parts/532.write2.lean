/-! WRITTEN, the call -/
theorem r_writeErr {S : zS} {g : zM} (hS : zSW S) (e : zRI S g) {v1 v2 : Int32} (h : fX12_noSender v1 v2 (zU g) = some 1 ∨ (fX12_noSender v1 v2 (zU g) = some 0 ∧ ¬ zAK S)) : fX12_write v1 v2 g = some (0, zset (zU g) 493 0 1) := by
  obtain ⟨a1, a2, a3, a4, a5⟩ := r_uses hS e
  unfold fX12_write
  rw [a1, zb_s]
  rcases h with h | ⟨h, hk⟩
  · rw [h, zb_s, if_neg (by decide)]
    refine (r_L34_0 (n := 99999)).trans ?_
    simp only [zb_s, zb2_s, zb3_s, zb3_e, zjoin_e, zput_e, r_thr0, r_thr1, zi10, zi01, if_true, if_false]
  · rw [h, zb_s, if_pos rfl, a4]
    by_cases q : 1 ≤ S.1 ∧ S.1 ≤ 24
    · rw [show fX12_in (nI S.1) 1 24 (zU g) = some 1 from r_in (lo := 1) (hi := 24) q.1 q.2 (by omega), zb_s, if_neg (by decide)]
      have eb : ∀ i, i < S.1 → zU g 499 i = zsb (S.2.1 i) := fun i hi => by rw [a3 499 (by omega)]; exact e.2.1 i hi
      rcases r_L34 (v1 := v1) (v2 := v2) hS eb a4 q.1 q.2 with ⟨hx, _⟩ | ⟨_, hx⟩
      · exact absurd hx hk
      · refine hx.trans ?_
        simp only [zb_s, zb2_s, zb3_s, zb3_e, zjoin_e, zput_e, r_thr0, r_thr1, zi10, zi01, if_true, if_false]
    · have hin : fX12_in (nI S.1) 1 24 (zU g) = some 0 := by
        have h4 := hS.1
        unfold fX12_in
        by_cases q1 : S.1 < 1
        · rw [if_pos (by rw [nL_lt (by omega) (by decide)]; exact q1)]
        · rw [if_neg (by rw [nL_lt (by omega) (by decide)]; exact q1), if_pos (by rw [nL_gt (by omega) (by decide)]; omega)]
      rw [hin, zb_s, if_pos rfl]
      refine (r_L34_0 (n := 99999)).trans ?_
      simp only [zb_s, zb2_s, zb3_s, zb3_e, zjoin_e, zput_e, r_thr0, r_thr1, zi10, zi01, if_true, if_false]
theorem c_writeErr {S : zS} {g : zM} (hS : zSW S) (e : zCI S g) {v1 v2 : Int32} (h : ¬ zAK S ∨ fX11_isNoDigit v1 (zset g 0 1 0) = some 1 ∨ (fX11_isNoDigit v1 (zset g 0 1 0) = some 0 ∧ fX11_isNoDigit v2 (zset g 0 1 0) = some 1)) : fX11_write v1 v2 g = some (.error 2, zset g 0 1 0) := by
  have eb : ∀ i, i < S.1 → (zset g 0 1 0) 1 i = nI (S.2.1 i) := fun i hi => by rw [zs_miss (by omega)]; exact e.2.1 i hi
  unfold fX11_write
  rw [zput_e, e.1]
  rcases c_areKinds hS eb with ⟨hk, hx⟩ | ⟨hk, hx⟩
  · rw [hx, zb_s, if_neg (by decide)]
    rcases h with h | h | ⟨h1, h2⟩
    · exact absurd hk h
    · rw [h, zb_s, if_neg (by decide)]
    · rw [h1, zb_s, if_pos rfl, h2, zb_s, if_neg (by decide)]
  · rw [hx, zb_s, if_pos rfl]
theorem m_write {S : zS} (hS : zSW S) (v1 v2 : Int32) : zDo [2, 4] S (fX11_write v1 v2) (fX12_write v1 v2) := by
  have h8 := hS.eight
  rcases zix v1 (n := 10) (by omega) with h | ⟨a, ha, rfl⟩
  · exact zDo.errW hS (c := 2) (t := 1) (b := 0) (by decide) (fun g e => c_writeErr hS e (Or.inr (Or.inl (c_isNoDigit_no h)))) (fun g e => r_writeErr hS e (Or.inl (r_noSender_no1 h)))
  rcases zix v2 (n := 10) (by omega) with h | ⟨b, hb, rfl⟩
  · exact zDo.errW hS (c := 2) (t := 1) (b := 0) (by decide) (fun g e => c_writeErr hS e (Or.inr (Or.inr ⟨c_isNoDigit ha, c_isNoDigit_no h⟩))) (fun g e => r_writeErr hS e (Or.inl (r_noSender_no2 ha h)))
  by_cases hk : zAK S
  case neg => exact zDo.errW hS (c := 2) (t := 1) (b := 0) (by decide) (fun g e => c_writeErr hS e (Or.inl hk)) (fun g e => r_writeErr hS e (Or.inr ⟨r_noSender ha hb, hk⟩))
  have goC : ∀ g, zCI S g → fX11_areKinds (nI S.1) (zset g 0 1 0) = some 1 := fun g e => by
    have eb : ∀ i, i < S.1 → (zset g 0 1 0) 1 i = nI (S.2.1 i) := fun i hi => by rw [zs_miss (by omega)]; exact e.2.1 i hi
    rcases c_areKinds hS eb with ⟨_, hx⟩ | ⟨hx, _⟩
    · exact hx
    · exact absurd hk hx
  have hS0 := zS0_W hS
  obtain ⟨k1, k24, kk⟩ := hk
  have hk : zAK S := ⟨k1, k24, kk⟩
  generalize hnn : (zSB S).1 = n at *
  have len : ∀ g, zRI (zS0 S) g → fX12_letters g = some (nI n) := fun g e => by rw [r_letters e]; show some (nI (zSB S).1) = _; rw [hnn]
  by_cases hf : n = 8
  · refine zDo.errW hS (c := 4) (t := 2) (b := 0) (by decide) (fun g e => ?_) (fun g e => ?_)
    · have sz : (zset g 0 1 0) 3 1 = nI n := by rw [zs_miss (by omega), e.size, hnn]
      unfold fX11_write
      rw [zput_e, e.1, goC g e, zb_s, if_neg (by decide), c_isNoDigit ha, zb_s, if_pos rfl, c_isNoDigit hb, zb_s, if_pos rfl, sz, if_neg (by rw [hf]; decide)]
    · obtain ⟨a1, a2, a3, a4, a5⟩ := r_uses hS e
      have eb : ∀ i, i < S.1 → zU g 499 i = zsb (S.2.1 i) := fun i hi => by rw [a3 499 (by omega)]; exact e.2.1 i hi
      have hn8 : (nI n = 8) = True := by rw [hf]; exact eq_true rfl
      unfold fX12_write
      rw [a1, zb_s, r_noSender ha hb, zb_s, if_pos rfl, a4, show fX12_in (nI S.1) 1 24 (zU g) = some 1 from r_in (lo := 1) (hi := 24) k1 k24 (by omega), zb_s, if_neg (by decide)]
      rcases r_L34 (v1 := nI a) (v2 := nI b) hS eb a4 k1 k24 with ⟨_, hx⟩ | ⟨hx, _⟩
      · refine hx.trans ?_
        simp only [zb_s, zb2_s, zb3_s, zb3_e, zjoin_e, zput_e, r_thr0, r_thr1, zi10, zi01, if_true, if_false, len _ a2, hn8]
      · exact absurd hk hx
  have hn8 : n < 8 := by omega
  have hSr := zSrem_W hS0
  obtain ⟨f, hf'⟩ : ∃ f, f = S.2.1 := ⟨_, rfl⟩
  obtain ⟨w, hw⟩ : ∃ w, w = (zSB S).2.2.1 := ⟨_, rfl⟩
  obtain ⟨m, hm⟩ : ∃ m, m = S.1 := ⟨_, rfl⟩
  rw [← hf'] at kk
  rw [← hm] at k1 k24 kk goC
  have hLW : zLW (zWr f w (nI b) (nI a) m) := ⟨k1, k24, kk⟩
  refine ⟨.ok (nI n), zSset (zSrem (zS0 S)) (zBadd (zSB S) (zWr f w (nI b) (nI a) m)), zSset_W hSr (zBadd_W hSr.2.2.1.1 (by show (zSB S).1 < 8; omega) hLW), fun g e => ?_, fun g e => ?_⟩
  · have eu := c_uses hS e
    have eb : ∀ i, i < m → g 1 i = nI (f i) := fun i hi => by rw [hf']; exact e.2.1 i (by rw [← hm]; exact hi)
    have sz : (zset g 0 1 0) 3 1 = nI n := by rw [zs_miss (by omega), e.size, hnn]
    obtain ⟨g1, a1, a2, a3, a4⟩ := c_remember hS0 eu
    have sz1 : g1 3 1 = nI n := by rw [a3 3 (by omega)]; exact sz
    have wk1 : g1 3 2 = w := by rw [a2.week, hw]; rfl
    have eb1 : ∀ i, i < m → g1 1 i = nI (f i) := fun i hi => by rw [a3 1 (by omega), zs_cell (by omega)]; exact eb i hi
    obtain ⟨g2, b1, b2, b3⟩ := c_begin (g := g1) (h := 4 + 1 + 3 * n) (nI b) (nI a)
    have b2' : zCM g2 (4 + 1 + 3 * n) (zWr f w (nI b) (nI a) 0) := b2 f (fun _ => w)
    have loop : ∃ g3, fX11_write_L114 (nI m) (4 + 1 + 3 * n) (fun g16 => zput g16 3 1 ((g16 3 1) + 1) (fun g17 => some (.ok ((g17 3 1) - 1), g17))) zFU 0 g2 = some (.ok (nI n), zset g3 3 1 (nI (n + 1))) ∧ zCM g3 (4 + 1 + 3 * n) (zWr f w (nI b) (nI a) m) ∧ ∀ c, c ≠ 4 + 1 + 3 * n → c ≠ 4 + 1 + 3 * n + 1 → c ≠ 4 + 1 + 3 * n + 2 → g3 c = g1 c := by
      refine zL_I (fun k i (s : zM) => fX11_write_L114 (nI m) (4 + 1 + 3 * n) _ k (nI i) s) (fun i s => zCM s (4 + 1 + 3 * n) (zWr f w (nI b) (nI a) i) ∧ ∀ c, c ≠ 4 + 1 + 3 * n → c ≠ 4 + 1 + 3 * n + 1 → c ≠ 4 + 1 + 3 * n + 2 → s c = g1 c) m (fun x => ∃ g3, x = some (.ok (nI n), zset g3 3 1 (nI (n + 1))) ∧ zCM g3 (4 + 1 + 3 * n) (zWr f w (nI b) (nI a) m) ∧ ∀ c, c ≠ 4 + 1 + 3 * n → c ≠ 4 + 1 + 3 * n + 1 → c ≠ 4 + 1 + 3 * n + 2 → g3 c = g1 c) g2 (by omega) ⟨b2', fun c h1 _ _ => b3 c h1⟩ (fun k i s hi hh => ?_) (fun k s hh => ?_)
      · obtain ⟨d1, d2⟩ := hh
        have w1 : s 3 2 = w := by rw [d2 3 (by omega) (by omega) (by omega)]; exact wk1
        have w2 : s 1 i = nI (f i) := by rw [d2 1 (by omega) (by omega) (by omega)]; exact eb1 i hi
        obtain ⟨s1, c1, c2, c3⟩ := c_add d1 (by show i < 24; omega) (f i) w
        rw [zWr_add] at c2
        refine ⟨s1, ⟨c2, fun c h1 h2 h3 => by rw [c3 c h1 h2 h3]; exact d2 c h1 h2 h3⟩, ?_⟩
        simp only [fX11_write_L114, w1]
        simp (disch := omega) only [nL_lt, nL_gt, nL_le, nL_ge, nL_eq, nL_qe, nI_ltI, nI_leI, nI_eq, nL_add, nL_dda, nI_add, nL_sub, pk_sub, nL_mul, nL_clamp, nI_cl, zchk_n, zchk_l, zb_s, zb2_s, zb3_s, zb3_e, zput_e, zjoin_e, zs_hit, zs_miss, nle_t, nle_f, nlt_t, nlt_f, neq_t, neq_f, ↓reduceIte, and_self, and_true, true_and, and_false, false_and, not_true_eq_false, not_false_eq_true, Nat.add_zero, w2, c1]
      · obtain ⟨d1, d2⟩ := hh
        have z1 : s 3 1 = nI n := by rw [d2 3 (by omega) (by omega) (by omega)]; exact sz1
        refine ⟨s, ?_, d1, d2⟩
        simp only [fX11_write_L114, z1]
        rw [if_pos (Int32.le_refl _)]
        simp (disch := omega) only [nL_lt, nL_gt, nL_le, nL_ge, nL_eq, nL_qe, nI_ltI, nI_leI, nI_eq, nL_add, nL_dda, nI_add, nL_sub, pk_sub, nL_mul, nL_clamp, nI_cl, zchk_n, zchk_l, zb_s, zb2_s, zb3_s, zb3_e, zput_e, zjoin_e, zs_hit, zs_miss, nle_t, nle_f, nlt_t, nlt_f, neq_t, neq_f, ↓reduceIte, and_self, and_true, true_and, and_false, false_and, not_true_eq_false, not_false_eq_true, Nat.add_zero]
        rfl
    obtain ⟨g3, c1, c2, c3⟩ := loop
    have res : fX11_write (nI a) (nI b) g = some (.ok (nI n), zset g3 3 1 (nI (n + 1))) := by
      unfold fX11_write
      rw [zput_e, e.1, ← hm, goC g e, zb_s, if_neg (by decide), c_isNoDigit ha, zb_s, if_pos rfl, c_isNoDigit hb, zb_s, if_pos rfl, sz, if_pos (by rw [nL_lt (by omega) (by decide)]; exact hn8), a1, zb_s, sz1, nI_cl (by omega), zchk_n (by omega) (by omega), b1, zb_s]
      exact c1
    have hB3 : zCB (zset g3 3 1 (nI (n + 1))) 3 (zBadd (zSB S) (zWr f w (nI b) (nI a) m)) := by
      refine zCB.add a2.2.2.2.1.1 (by show (zSB S).1 < 8; omega) ?_ ?_ (fun k hk => ?_) (fun c h1 h2 => ?_)
      · show _ = nI ((zSB S).1 + 1)
        rw [hnn]; exact zs_hit ⟨rfl, rfl⟩
      · show zCM _ (4 + 1 + 3 * (zSB S).1) _
        rw [hnn]
        exact c2.fr (zs_cell (by omega)) (zs_cell (by omega)) (zs_cell (by omega))
      · rw [zs_miss (by omega), c3 3 (by omega) (by omega) (by omega)]
      · have h2 : c < 4 + 1 + 3 * (zSB S).1 := h2
        rw [hnn] at h2
        rw [zs_cell (by omega), c3 c (by omega) (by omega) (by omega)]
    refine ⟨_, res, a2.bag hSr hB3 (fun c h1 h2 h3 h4 => ?_), fun c h => ?_⟩
    · rw [zs_cell (by omega), c3 c (by omega) (by omega) (by omega)]
    · rw [zs_cell (by omega), c3 c (by omega) (by omega) (by omega), a4 c (by omega), zs_cell (by omega)]
  · obtain ⟨u1, u2, u3, u4, u5⟩ := r_uses hS e
    rw [← hm] at u4
    have eb : ∀ i, i < S.1 → zU g 499 i = zsb (S.2.1 i) := fun i hi => by rw [u3 499 (by omega)]; exact e.2.1 i hi
    obtain ⟨g1, a1, a2, a3, a4⟩ := r_remembers hS0 u2
    obtain ⟨g2, b1, b2, b3, b4, b5⟩ := r_begins a2 (f := f) (w := w) (t := nI b) (s := nI a) (n := n) (by show (zSB S).1 = n; exact hnn) hn8
    have wk : g1 494 4 = w := by rw [a2.week, hw]; rfl
    have eb2 : ∀ i, i < m → g2 499 i = nI (f i) := fun i hi => by
      rw [b4 499 (by omega), a3 499 (by omega) (by omega), eb i (by rw [← hm]; exact hi), ← hf', zsb_lo _ (by have := kk i hi; omega)]
    have mm2 : g2 493 11 = nI m := by rw [b4 493 (by omega), a4 11 (by omega)]; exact u4
    have loop : ∃ g3, fX12_write_L128 (nI n) zFU 0 g2 = some (nI n, g3) ∧ zRM g3 494 (36 + 53 * n) (zWr f w (nI b) (nI a) m) ∧ (∀ c, c ≠ 494 → g3 c = g2 c) ∧ ∀ x, (x < 36 + 53 * n ∨ 36 + 53 * n + 53 ≤ x) → g3 494 x = g2 494 x := by
      refine zL_I (fun k i (s : zM) => fX12_write_L128 (nI n) k (nI i) s) (fun i s => zRM s 494 (36 + 53 * n) (zWr f w (nI b) (nI a) i) ∧ (∀ c, c ≠ 494 → s c = g2 c) ∧ ∀ x, (x < 36 + 53 * n ∨ 36 + 53 * n + 53 ≤ x) → s 494 x = g2 494 x) m (fun x => ∃ g3, x = some (nI n, g3) ∧ zRM g3 494 (36 + 53 * n) (zWr f w (nI b) (nI a) m) ∧ (∀ c, c ≠ 494 → g3 c = g2 c) ∧ ∀ x, (x < 36 + 53 * n ∨ 36 + 53 * n + 53 ≤ x) → g3 494 x = g2 494 x) g2 (by omega) ⟨b2, fun _ _ => rfl, fun _ _ => rfl⟩ (fun k i s hi hh => ?_) (fun k s hh => ?_)
      · obtain ⟨d1, d2, d3⟩ := hh
        have w1 : s 494 4 = w := by rw [d3 4 (by omega), b5 4 (by omega) (by omega)]; exact wk
        have w2 : s 499 i = nI (f i) := by rw [d2 499 (by omega)]; exact eb2 i hi
        have w3 : s 493 11 = nI m := by rw [d2 493 (by omega)]; exact mm2
        obtain ⟨s1, c1, c2, c3, c4⟩ := r_come1 d1 (by omega) hn8 w1
        refine ⟨s1, ⟨c2, fun c hc => by rw [c3 c hc]; exact d2 c hc, fun x hx => by rw [c4 x hx]; exact d3 x hx⟩, ?_⟩
        simp only [fX12_write_L128, w3]
        simp (disch := omega) only [nL_lt, nL_gt, nL_le, nL_ge, nL_eq, nL_qe, nI_ltI, nI_leI, nI_eq, nL_add, nL_dda, nI_add, nL_sub, pk_sub, nL_mul, nL_clamp, nI_cl, zchk_n, zchk_l, zb_s, zb2_s, zb3_s, zb3_e, zput_e, zjoin_e, zs_hit, zs_miss, nle_t, nle_f, nlt_t, nlt_f, neq_t, neq_f, ↓reduceIte, and_self, and_true, true_and, and_false, false_and, not_true_eq_false, not_false_eq_true, Nat.add_zero, w2, c1]
      · obtain ⟨d1, d2, d3⟩ := hh
        have w3 : s 493 11 = nI m := by rw [d2 493 (by omega)]; exact mm2
        refine ⟨s, ?_, d1, d2, d3⟩
        simp only [fX12_write_L128, w3]
        rw [if_pos (Int32.le_refl _)]
    obtain ⟨g3, c1, c2, c3, c4⟩ := loop
    have hne : ¬ nI n = 8 := by rw [nL_eq (by omega) (by decide)]; exact hf
    have res : fX12_write (nI a) (nI b) g = some (nI n, g3) := by
      unfold fX12_write
      rw [u1, zb_s, r_noSender ha hb, zb_s, if_pos rfl, u4, show fX12_in (nI m) 1 24 (zU g) = some 1 from r_in (lo := 1) (hi := 24) k1 k24 (by omega), zb_s, if_neg (by decide)]
      rcases r_L34 (v1 := nI a) (v2 := nI b) hS eb (by rw [← hm]; exact u4) (by rw [← hm]; exact k1) (by rw [← hm]; exact k24) with ⟨_, hx⟩ | ⟨hx, _⟩
      · refine hx.trans ?_
        simp only [zb_s, zb2_s, zb3_s, zb3_e, zjoin_e, zput_e, r_thr0, r_thr1, zi10, zi01, if_true, if_false, len _ u2, hne, a1, b1]
        exact c1
      · exact absurd hk hx
    have hR : zRB g3 494 0 (zBadd (zSB S) (zWr f w (nI b) (nI a) m)) := by
      refine zRB.add a2.2.2.2.1.1 hSr.2.2.1.1 (by show (zSB S).1 < 8; omega) ?_ ?_ (fun k h1 h2 => ?_)
      · show _ = nI ((zSB S).1 + 1)
        rw [hnn, c4 0 (by omega)]; exact b3
      · show zRM _ 494 (36 + 53 * (zSB S).1) _
        rw [hnn]
        exact c2
      · have h2 : k < 36 + 53 * (zSB S).1 := h2
        rw [hnn] at h2
        rw [c4 k (by omega), b5 k h1 (by omega)]
    have f1 : zFO g1 g3 := ⟨fun c _ h _ _ => by rw [c3 c h, b4 c h], fun k _ => by rw [c3 493 (by omega), b4 493 (by omega)], fun k hk => by rw [c4 k (by omega), b5 k (by omega) (by omega)], fun k h1 h2 _ _ _ => by rw [c4 k (by omega), b5 k h2 (by omega)]⟩
    exact ⟨_, _, res, a2.bag hSr f1 hR, fun c h => by rw [c3 c (by omega), b4 c (by omega), a3 c (by omega) (by omega), u3 c (by omega)], by rw [c3 508 (by omega), b4 508 (by omega), a3 508 (by omega) (by omega), u3 508 (by omega)], by rw [c3 493 (by omega), b4 493 (by omega), a4 0 (by omega)]; exact u5, rfl⟩
