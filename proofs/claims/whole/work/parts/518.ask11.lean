/-! TEMPERS, MEET, DRAWER -/
/-- how many of the first have KIND k -/
def zty (f : Nat → Nat) : Nat → Nat → Nat
  | 0, _ => 0
  | i + 1, k => zty f i k + (if f i = k then 1 else 0)
theorem zty_le (f : Nat → Nat) (k : Nat) : ∀ i, zty f i k ≤ i
  | 0 => Nat.le_refl _
  | i + 1 => by
    have := zty_le f k i
    show zty f i k + _ ≤ _
    split <;> omega
/-- the first of the greatest -/
def zam (T : Nat → Nat) : Nat → Nat
  | 0 => 0
  | i + 1 => if T (i + 1) ≤ T (zam T i) then zam T i else i + 1
theorem zam_le (T : Nat → Nat) : ∀ i, zam T i ≤ i
  | 0 => Nat.le_refl _
  | i + 1 => by
    have := zam_le T i
    unfold zam
    split <;> omega
theorem c_tempersL {g : zM} {T : Nat → Nat} (hT : ∀ k, k < 12 → g 492 k = nI (T k) ∧ T k < 1000) : fX11_tempers_L51 g zFU 0 1 = some (.ok (nI (zam T 11)), g) := by
  refine zL_Q (fun n i (st : Int32) => fX11_tempers_L51 g n st (nI i)) (fun i st => 1 ≤ i ∧ st = nI (zam T (i - 1))) 12 (fun x => x = some (.ok (nI (zam T 11)), g)) (fun n i st hi hh => ?_) (fun n st hh => ?_) 11 1 zFU 0 (by omega) (by unfold zFU; omega) ⟨Nat.le_refl _, rfl⟩
  · obtain ⟨h1, rfl⟩ := hh
    obtain ⟨j, rfl⟩ : ∃ j, i = j + 1 := ⟨i - 1, by omega⟩
    rw [Nat.add_sub_cancel]
    have hz := zam_le T j
    right
    refine ⟨nI (zam T (j + 1)), ⟨by omega, rfl⟩, ?_⟩
    have k1 := hT (j + 1) hi
    have k2 := hT (zam T j) (by omega)
    simp only [fX11_tempers_L51]
    simp (disch := omega) only [nL_lt, nL_gt, nL_le, nL_ge, nL_eq, nL_qe, nI_ltI, nI_leI, nI_eq, nL_add, nL_dda, nI_add, nL_sub, pk_sub, nL_mul, nL_clamp, nI_cl, zchk_n, zchk_l, zb_s, zb2_s, zb3_s, zb3_e, zput_e, zjoin_e, zs_hit, zs_miss, nle_t, nle_f, nlt_t, nlt_f, neq_t, neq_f, ↓reduceIte, and_self, and_true, true_and, and_false, false_and, not_true_eq_false, not_false_eq_true, Nat.add_zero, k1.1, k2.1]
    have : zam T (j + 1) = if T (j + 1) ≤ T (zam T j) then zam T j else j + 1 := rfl
    rw [this]
    by_cases q : T (j + 1) ≤ T (zam T j)
    · simp (disch := omega) only [nL_lt, nL_gt, nL_le, nL_ge, nL_eq, nL_qe, nI_ltI, nI_leI, nI_eq, nL_add, nL_dda, nI_add, nL_sub, pk_sub, nL_mul, nL_clamp, nI_cl, zchk_n, zchk_l, zb_s, zb2_s, zb3_s, zb3_e, zput_e, zjoin_e, zs_hit, zs_miss, nle_t, nle_f, nlt_t, nlt_f, neq_t, neq_f, ↓reduceIte, and_self, and_true, true_and, and_false, false_and, not_true_eq_false, not_false_eq_true, Nat.add_zero]
    · simp (disch := omega) only [nL_lt, nL_gt, nL_le, nL_ge, nL_eq, nL_qe, nI_ltI, nI_leI, nI_eq, nL_add, nL_dda, nI_add, nL_sub, pk_sub, nL_mul, nL_clamp, nI_cl, zchk_n, zchk_l, zb_s, zb2_s, zb3_s, zb3_e, zput_e, zjoin_e, zs_hit, zs_miss, nle_t, nle_f, nlt_t, nlt_f, neq_t, neq_f, ↓reduceIte, and_self, and_true, true_and, and_false, false_and, not_true_eq_false, not_false_eq_true, Nat.add_zero]
  · obtain ⟨h1, h2⟩ := hh
    have h2 : st = nI (zam T 11) := h2
    rw [← h2]
    simp only [fX11_tempers_L51]
    simp (disch := omega) only [nL_lt, nL_gt, nL_le, nL_ge, nL_eq, nL_qe, nI_ltI, nI_leI, nI_eq, nL_add, nL_dda, nI_add, nL_sub, pk_sub, nL_mul, nL_clamp, nI_cl, zchk_n, zchk_l, zb_s, zb2_s, zb3_s, zb3_e, zput_e, zjoin_e, zs_hit, zs_miss, nle_t, nle_f, nlt_t, nlt_f, neq_t, neq_f, ↓reduceIte, and_self, and_true, true_and, and_false, false_and, not_true_eq_false, not_false_eq_true, Nat.add_zero]
theorem r_tempersL {g : zM} {T : Nat → Nat} (hT : ∀ k, k < 12 → g 507 k = nI (T k) ∧ T k < 1000) : fX12_tempers_L139 g zFU 0 1 = some (nI (zam T 11), g) := by
  refine zL_Q (fun n i (st : Int32) => fX12_tempers_L139 g n st (nI i)) (fun i st => 1 ≤ i ∧ st = nI (zam T (i - 1))) 12 (fun x => x = some (nI (zam T 11), g)) (fun n i st hi hh => ?_) (fun n st hh => ?_) 11 1 zFU 0 (by omega) (by unfold zFU; omega) ⟨Nat.le_refl _, rfl⟩
  · obtain ⟨h1, rfl⟩ := hh
    obtain ⟨j, rfl⟩ : ∃ j, i = j + 1 := ⟨i - 1, by omega⟩
    rw [Nat.add_sub_cancel]
    have hz := zam_le T j
    right
    refine ⟨nI (zam T (j + 1)), ⟨by omega, rfl⟩, ?_⟩
    have k1 := hT (j + 1) hi
    have k2 := hT (zam T j) (by omega)
    simp only [fX12_tempers_L139]
    simp (disch := omega) only [nL_lt, nL_gt, nL_le, nL_ge, nL_eq, nL_qe, nI_ltI, nI_leI, nI_eq, nL_add, nL_dda, nI_add, nL_sub, pk_sub, nL_mul, nL_clamp, nI_cl, zchk_n, zchk_l, zb_s, zb2_s, zb3_s, zb3_e, zput_e, zjoin_e, zs_hit, zs_miss, nle_t, nle_f, nlt_t, nlt_f, neq_t, neq_f, ↓reduceIte, and_self, and_true, true_and, and_false, false_and, not_true_eq_false, not_false_eq_true, Nat.add_zero, k1.1, k2.1]
    have : zam T (j + 1) = if T (j + 1) ≤ T (zam T j) then zam T j else j + 1 := rfl
    rw [this]
    by_cases q : T (j + 1) ≤ T (zam T j)
    · simp (disch := omega) only [nL_lt, nL_gt, nL_le, nL_ge, nL_eq, nL_qe, nI_ltI, nI_leI, nI_eq, nL_add, nL_dda, nI_add, nL_sub, pk_sub, nL_mul, nL_clamp, nI_cl, zchk_n, zchk_l, zb_s, zb2_s, zb3_s, zb3_e, zput_e, zjoin_e, zs_hit, zs_miss, nle_t, nle_f, nlt_t, nlt_f, neq_t, neq_f, ↓reduceIte, and_self, and_true, true_and, and_false, false_and, not_true_eq_false, not_false_eq_true, Nat.add_zero]
    · simp (disch := omega) only [nL_lt, nL_gt, nL_le, nL_ge, nL_eq, nL_qe, nI_ltI, nI_leI, nI_eq, nL_add, nL_dda, nI_add, nL_sub, pk_sub, nL_mul, nL_clamp, nI_cl, zchk_n, zchk_l, zb_s, zb2_s, zb3_s, zb3_e, zput_e, zjoin_e, zs_hit, zs_miss, nle_t, nle_f, nlt_t, nlt_f, neq_t, neq_f, ↓reduceIte, and_self, and_true, true_and, and_false, false_and, not_true_eq_false, not_false_eq_true, Nat.add_zero]
  · obtain ⟨h1, h2⟩ := hh
    have h2 : st = nI (zam T 11) := h2
    rw [← h2]
    simp only [fX12_tempers_L139]
    simp (disch := omega) only [nL_lt, nL_gt, nL_le, nL_ge, nL_eq, nL_qe, nI_ltI, nI_leI, nI_eq, nL_add, nL_dda, nI_add, nL_sub, pk_sub, nL_mul, nL_clamp, nI_cl, zchk_n, zchk_l, zb_s, zb2_s, zb3_s, zb3_e, zput_e, zjoin_e, zs_hit, zs_miss, nle_t, nle_f, nlt_t, nlt_f, neq_t, neq_f, ↓reduceIte, and_self, and_true, true_and, and_false, false_and, not_true_eq_false, not_false_eq_true, Nat.add_zero]
theorem m_tempers {S : zS} (hS : zSW S) (v nv kv : Int32) : zAsk [1, 2] S (fX11_tempers v nv kv) (fX12_tempers v nv kv) := by
  rcases zix v (zsz hS) with h | ⟨l, hl, rfl⟩
  · refine ⟨.error 1, fun g e => ⟨g, ?_, .refl⟩, fun g e => zRa_err2 (t := 1) (b := 0) ?_ (by decide)⟩
    · unfold fX11_tempers; rw [c_mailOf_no e h, zb3_e]
    · unfold fX12_tempers; simp only [zb_s, zb2_s, zb3_s, zb3_e, zjoin_e, zput_e, r_thr0, r_thr1, zi10, zi01, if_true, if_false, r_noLetter_no hS (e.thr hS 0) h]
  -- kv is -1, a KIND, or bad
  have hk : (kv = -1) ∨ (¬ kv = -1 ∧ zbad 12 kv) ∨ ∃ k, k < 12 ∧ kv = nI k := by
    by_cases q : kv = -1
    · exact Or.inl q
    · rcases zix kv (n := 12) (by omega) with h | h
      · exact Or.inr (Or.inl ⟨q, h⟩)
      · exact Or.inr (Or.inr h)
  rcases hk with hk | ⟨hk1, hk2⟩ | hk
  rotate_left
  · refine ⟨.error 1, fun g e => ⟨g, ?_, .refl⟩, fun g e => zRa_err2 (t := 1) (b := 0) ?_ (by decide)⟩
    · unfold fX11_tempers; rw [c_mailOf hS e hl, zb3_s, zjoin_e, if_neg hk1, c_needKind_no hk2, zb3_e]
    · unfold fX12_tempers; simp only [zb_s, zb2_s, zb3_s, zb3_e, zjoin_e, zput_e, r_thr0, r_thr1, zi10, zi01, if_true, if_false, r_noLetter hS (e.thr hS 0) hl, hk1, r_noKind_no hk2]
  all_goals
    have hkk : kv = -1 ∨ ∃ k, k < 12 ∧ kv = nI k := by first | exact Or.inl hk | exact Or.inr hk
    clear hk
    have pc : ∀ (g : zM) (K : zM → Option (Except Nat Int32 × zM)), zjoin K (fun k16 => if kv = -1 then k16 g else zb3 (fX11_needKind kv g) (fun _ g13 => k16 g13)) = K g := by
      intro g K
      rw [zjoin_e]
      rcases hkk with rfl | ⟨k, hk, rfl⟩
      · rw [if_pos rfl]
      · rw [if_neg (by rw [nI_m1 (by omega)]; exact id), c_needKind hk, zb3_s]
    have pr : ∀ (g : zM) (K : Int32 → Option (Int32 × zM)), zjoin K (fun k31 => if (0 : Int32) = 0 then if kv = -1 then k31 0 else zb (fX12_noKind kv g) (fun r_30 => if r_30 = 0 then k31 0 else k31 1) else k31 1) = K 0 := by
      intro g K
      rw [zjoin_e, if_pos rfl]
      rcases hkk with rfl | ⟨k, hk, rfl⟩
      · rw [if_pos rfl]
      · rw [if_neg (by rw [nI_m1 (by omega)]; exact id), r_noKind hk, zb_s, if_pos rfl]
    rcases zix nv (n := 41) (by omega) with h | ⟨n, hn, rfl⟩
    · refine ⟨.error 2, fun g e => ⟨g, ?_, .refl⟩, fun g e => zRa_err2 (t := 2) (b := 0) ?_ (by decide)⟩
      · unfold fX11_tempers
        rw [c_mailOf hS e hl, zb3_s, pc g, show fX11_needAhead nv 0 g = _ from c_needAhead_no h (m := 0) (by omega), zb3_e]
      · unfold fX12_tempers
        rw [zput_e, r_noLetter hS (e.thr hS 0) hl, zb_s, pr]
        simp only [zb_s, zb2_s, zb3_s, zb3_e, zjoin_e, zput_e, r_thr0, r_thr1, zi10, zi01, if_true, if_false, r_noAhead_no h]
    have hL := hS.letter hl
    have h8 := hS.eight
    have hf : ∃ f : Nat → Nat, ∀ t, f t = zla S (zLd false ((zSB S).2.1 l) (nI t)) n := ⟨_, fun _ => rfl⟩
    obtain ⟨f, hf⟩ := hf
    have hf12 : ∀ t, f t < 12 := fun t => by rw [hf]; exact zla_lt hS (zLd_W hL false _) n
    refine ⟨.ok (if kv = -1 then nI (zam (zty f 10) 11) else nI (zty f 10 kv.toNatClampNeg)), fun g e => ?_, fun g e => ?_⟩
    · have main : ∃ g2, fX11_tallyTempers (4 + 1 + 3 * l) (nI n) g = some g2 ∧ (∀ c, c ≠ 34 → c ≠ 35 → (c < 446 ∨ 450 ≤ c) → c ≠ 492 → g2 c = g c) ∧ ∀ k, k < 12 → g2 492 k = nI (zty f 10 k) := by
        unfold fX11_tallyTempers
        refine zL_Q0 (fun n' i (s : zM) => fX11_tallyTempers_L2 (4 + 1 + 3 * l) (nI n) (fun g4 => fX11_tallyTempers_L23 (4 + 1 + 3 * l) (nI n) zFU 0 g4) n' (nI i) s) (fun i s => (∀ c, c ≠ 492 → s c = g c) ∧ ∀ k, k < i → s 492 k = 0) 12 (fun x => ∃ g2, x = some g2 ∧ (∀ c, c ≠ 34 → c ≠ 35 → (c < 446 ∨ 450 ≤ c) → c ≠ 492 → g2 c = g c) ∧ ∀ k, k < 12 → g2 492 k = nI (zty f 10 k)) g (by omega) ⟨fun _ _ => rfl, fun k hk => absurd hk (by omega)⟩ (fun n' i s hi hh => ?_) (fun n' s hh => ?_)
        · obtain ⟨b1, b2⟩ := hh
          right
          refine ⟨zset s 492 i 0, ⟨fun c hc => by simp (disch := omega) only [nL_lt, nL_gt, nL_le, nL_ge, nL_eq, nL_qe, nI_ltI, nI_leI, nI_eq, nL_add, nL_dda, nI_add, nL_sub, pk_sub, nL_mul, nL_clamp, nI_cl, zchk_n, zchk_l, zb_s, zb2_s, zb3_s, zb3_e, zput_e, zjoin_e, zs_hit, zs_miss, nle_t, nle_f, nlt_t, nlt_f, neq_t, neq_f, ↓reduceIte, and_self, and_true, true_and, and_false, false_and, not_true_eq_false, not_false_eq_true, Nat.add_zero, zs_cell]; exact b1 c hc, fun k hk => ?_⟩, ?_⟩
          · by_cases q : k = i
            · subst q; simp (disch := omega) only [nL_lt, nL_gt, nL_le, nL_ge, nL_eq, nL_qe, nI_ltI, nI_leI, nI_eq, nL_add, nL_dda, nI_add, nL_sub, pk_sub, nL_mul, nL_clamp, nI_cl, zchk_n, zchk_l, zb_s, zb2_s, zb3_s, zb3_e, zput_e, zjoin_e, zs_hit, zs_miss, nle_t, nle_f, nlt_t, nlt_f, neq_t, neq_f, ↓reduceIte, and_self, and_true, true_and, and_false, false_and, not_true_eq_false, not_false_eq_true, Nat.add_zero]
            · simp (disch := omega) only [nL_lt, nL_gt, nL_le, nL_ge, nL_eq, nL_qe, nI_ltI, nI_leI, nI_eq, nL_add, nL_dda, nI_add, nL_sub, pk_sub, nL_mul, nL_clamp, nI_cl, zchk_n, zchk_l, zb_s, zb2_s, zb3_s, zb3_e, zput_e, zjoin_e, zs_hit, zs_miss, nle_t, nle_f, nlt_t, nlt_f, neq_t, neq_f, ↓reduceIte, and_self, and_true, true_and, and_false, false_and, not_true_eq_false, not_false_eq_true, Nat.add_zero]; exact b2 k (by omega)
          · simp only [fX11_tallyTempers_L2]
            simp (disch := omega) only [nL_lt, nL_gt, nL_le, nL_ge, nL_eq, nL_qe, nI_ltI, nI_leI, nI_eq, nL_add, nL_dda, nI_add, nL_sub, pk_sub, nL_mul, nL_clamp, nI_cl, zchk_n, zchk_l, zb_s, zb2_s, zb3_s, zb3_e, zput_e, zjoin_e, zs_hit, zs_miss, nle_t, nle_f, nlt_t, nlt_f, neq_t, neq_f, ↓reduceIte, and_self, and_true, true_and, and_false, false_and, not_true_eq_false, not_false_eq_true, Nat.add_zero]
        · obtain ⟨b1, b2⟩ := hh
          simp only [fX11_tallyTempers_L2]
          simp (disch := omega) only [nL_lt, nL_gt, nL_le, nL_ge, nL_eq, nL_qe, nI_ltI, nI_leI, nI_eq, nL_add, nL_dda, nI_add, nL_sub, pk_sub, nL_mul, nL_clamp, nI_cl, zchk_n, zchk_l, zb_s, zb2_s, zb3_s, zb3_e, zput_e, zjoin_e, zs_hit, zs_miss, nle_t, nle_f, nlt_t, nlt_f, neq_t, neq_f, ↓reduceIte, and_self, and_true, true_and, and_false, false_and, not_true_eq_false, not_false_eq_true, Nat.add_zero]
          refine zL_Q0 (fun n' i (s : zM) => fX11_tallyTempers_L23 (4 + 1 + 3 * l) (nI n) n' (nI i) s) (fun i s => (∀ c, c ≠ 34 → c ≠ 35 → (c < 446 ∨ 450 ≤ c) → c ≠ 492 → s c = g c) ∧ ∀ k, k < 12 → s 492 k = nI (zty f i k)) 10 (fun x => ∃ g2, x = some g2 ∧ (∀ c, c ≠ 34 → c ≠ 35 → (c < 446 ∨ 450 ≤ c) → c ≠ 492 → g2 c = g c) ∧ ∀ k, k < 12 → g2 492 k = nI (zty f 10 k)) s (by omega) ⟨fun c _ _ _ h => b1 c h, fun k hk => by rw [b2 k hk]; rfl⟩ (fun n' i s hi hh => ?_) (fun n' s hh => ?_)
          · obtain ⟨b1, b2⟩ := hh
            have es : zCI S s := e.fr' hS (fun c h1 h2 h3 => b1 c h1 h2 (by omega) (by omega)) (by rw [b1 481 (by omega) (by omega) (by omega) (by omega)]) (by rw [b1 482 (by omega) (by omega) (by omega) (by omega)])
            obtain ⟨s1, c1, c2, c3⟩ := c_look (h := 446) (es.mail hl) (by omega) (hS.letter hl).2.1 (zSB S).2.2.1
            have c4 : zSR (zset s1 447 3 (nI i)) 446 (zLd false ((zSB S).2.1 l) (nI i), (zSB S).2.2.1, none) := by
              obtain ⟨⟨x1, x2, x3, x4, x5, x6, x7⟩, x8, x9⟩ := c2
              refine ⟨⟨?_, fun j hj => ?_, fun j hj => ?_, ?_, ?_, ?_, ?_⟩, ?_, ?_⟩ <;> simp (disch := omega) only [nL_lt, nL_gt, nL_le, nL_ge, nL_eq, nL_qe, nI_ltI, nI_leI, nI_eq, nL_add, nL_dda, nI_add, nL_sub, pk_sub, nL_mul, nL_clamp, nI_cl, zchk_n, zchk_l, zb_s, zb2_s, zb3_s, zb3_e, zput_e, zjoin_e, zs_hit, zs_miss, nle_t, nle_f, nlt_t, nlt_f, neq_t, neq_f, ↓reduceIte, and_self, and_true, true_and, and_false, false_and, not_true_eq_false, not_false_eq_true, Nat.add_zero, zs_cell] <;> first | exact x2 j hj | exact x3 j hj | assumption | rfl
            have c5 : zFS 446 s (zset s1 447 3 (nI i)) := fun c _ _ h3 => by simp (disch := omega) only [nL_lt, nL_gt, nL_le, nL_ge, nL_eq, nL_qe, nI_ltI, nI_leI, nI_eq, nL_add, nL_dda, nI_add, nL_sub, pk_sub, nL_mul, nL_clamp, nI_cl, zchk_n, zchk_l, zb_s, zb2_s, zb3_s, zb3_e, zput_e, zjoin_e, zs_hit, zs_miss, nle_t, nle_f, nlt_t, nlt_f, neq_t, neq_f, ↓reduceIte, and_self, and_true, true_and, and_false, false_and, not_true_eq_false, not_false_eq_true, Nat.add_zero, zs_cell]; exact c3 c h3
            have hW := zLd_W hL false (nI i)
            obtain ⟨s2, d1, d2, d3⟩ := c_la hS es c5 c4 hW (n := n) (by omega)
            rw [← hf] at d2
            have h12 := hf12 i
            right
            refine ⟨zset s2 492 (f i) (nI (zty f i (f i)) + 1), ⟨fun c h1 h2 h3 h4 => ?_, fun k hk => ?_⟩, ?_⟩
            · simp (disch := omega) only [nL_lt, nL_gt, nL_le, nL_ge, nL_eq, nL_qe, nI_ltI, nI_leI, nI_eq, nL_add, nL_dda, nI_add, nL_sub, pk_sub, nL_mul, nL_clamp, nI_cl, zchk_n, zchk_l, zb_s, zb2_s, zb3_s, zb3_e, zput_e, zjoin_e, zs_hit, zs_miss, nle_t, nle_f, nlt_t, nlt_f, neq_t, neq_f, ↓reduceIte, and_self, and_true, true_and, and_false, false_and, not_true_eq_false, not_false_eq_true, Nat.add_zero, zs_cell]; rw [d3 c h1 h2 (by omega)]; exact b1 c h1 h2 h3 h4
            · show _ = nI (zty f i k + if f i = k then 1 else 0)
              by_cases q : k = f i
              · subst q; simp (disch := omega) only [nL_lt, nL_gt, nL_le, nL_ge, nL_eq, nL_qe, nI_ltI, nI_leI, nI_eq, nL_add, nL_dda, nI_add, nL_sub, pk_sub, nL_mul, nL_clamp, nI_cl, zchk_n, zchk_l, zb_s, zb2_s, zb3_s, zb3_e, zput_e, zjoin_e, zs_hit, zs_miss, nle_t, nle_f, nlt_t, nlt_f, neq_t, neq_f, ↓reduceIte, and_self, and_true, true_and, and_false, false_and, not_true_eq_false, not_false_eq_true, Nat.add_zero]
              · have q' : ¬ f i = k := fun h => q h.symm
                simp (disch := omega) only [nL_lt, nL_gt, nL_le, nL_ge, nL_eq, nL_qe, nI_ltI, nI_leI, nI_eq, nL_add, nL_dda, nI_add, nL_sub, pk_sub, nL_mul, nL_clamp, nI_cl, zchk_n, zchk_l, zb_s, zb2_s, zb3_s, zb3_e, zput_e, zjoin_e, zs_hit, zs_miss, nle_t, nle_f, nlt_t, nlt_f, neq_t, neq_f, ↓reduceIte, and_self, and_true, true_and, and_false, false_and, not_true_eq_false, not_false_eq_true, Nat.add_zero]; rw [d3 492 (by omega) (by omega) (by omega)]; exact b2 k hk
            · simp only [fX11_tallyTempers_L23, es.week, c1, zb_s, zput_e, d1, d2]
              simp (disch := omega) only [nL_lt, nL_gt, nL_le, nL_ge, nL_eq, nL_qe, nI_ltI, nI_leI, nI_eq, nL_add, nL_dda, nI_add, nL_sub, pk_sub, nL_mul, nL_clamp, nI_cl, zchk_n, zchk_l, zb_s, zb2_s, zb3_s, zb3_e, zput_e, zjoin_e, zs_hit, zs_miss, nle_t, nle_f, nlt_t, nlt_f, neq_t, neq_f, ↓reduceIte, and_self, and_true, true_and, and_false, false_and, not_true_eq_false, not_false_eq_true, Nat.add_zero]
              rw [d3 492 (by omega) (by omega) (by omega), b2 _ h12]
              simp (disch := omega) only [nL_lt, nL_gt, nL_le, nL_ge, nL_eq, nL_qe, nI_ltI, nI_leI, nI_eq, nL_add, nL_dda, nI_add, nL_sub, pk_sub, nL_mul, nL_clamp, nI_cl, zchk_n, zchk_l, zb_s, zb2_s, zb3_s, zb3_e, zput_e, zjoin_e, zs_hit, zs_miss, nle_t, nle_f, nlt_t, nlt_f, neq_t, neq_f, ↓reduceIte, and_self, and_true, true_and, and_false, false_and, not_true_eq_false, not_false_eq_true, Nat.add_zero]
          · obtain ⟨b1, b2⟩ := hh
            simp only [fX11_tallyTempers_L23]
            exact ⟨s, by simp (disch := omega) only [nL_lt, nL_gt, nL_le, nL_ge, nL_eq, nL_qe, nI_ltI, nI_leI, nI_eq, nL_add, nL_dda, nI_add, nL_sub, pk_sub, nL_mul, nL_clamp, nI_cl, zchk_n, zchk_l, zb_s, zb2_s, zb3_s, zb3_e, zput_e, zjoin_e, zs_hit, zs_miss, nle_t, nle_f, nlt_t, nlt_f, neq_t, neq_f, ↓reduceIte, and_self, and_true, true_and, and_false, false_and, not_true_eq_false, not_false_eq_true, Nat.add_zero], b1, b2⟩
      obtain ⟨g2, a1, a2, a3⟩ := main
      refine ⟨g2, ?_, fun c h1 h2 h3 => a2 c h1 h2 (by omega) (by omega), by rw [a2 481 (by omega) (by omega) (by omega) (by omega)], by rw [a2 482 (by omega) (by omega) (by omega) (by omega)]⟩
      unfold fX11_tempers
      rw [c_mailOf hS e hl, zb3_s, pc g, show fX11_needAhead (nI n) 0 g = _ from c_needAhead (m := 0) hn (by omega), zb3_s, a1, zb_s]
      have hT : ∀ k, k < 12 → g2 492 k = nI (zty f 10 k) ∧ zty f 10 k < 1000 := fun k hk => ⟨a3 k hk, by have := zty_le f k 10; omega⟩
      rcases hkk with rfl | ⟨k, hk, rfl⟩
      · rw [if_pos (by decide), c_tempersL hT, if_pos rfl]
      · simp (disch := omega) only [nL_lt, nL_gt, nL_le, nL_ge, nL_eq, nL_qe, nI_ltI, nI_leI, nI_eq, nL_add, nL_dda, nI_add, nL_sub, pk_sub, nL_mul, nL_clamp, nI_cl, zchk_n, zchk_l, zb_s, zb2_s, zb3_s, zb3_e, zput_e, zjoin_e, zs_hit, zs_miss, nle_t, nle_f, nlt_t, nlt_f, neq_t, neq_f, ↓reduceIte, and_self, and_true, true_and, and_false, false_and, not_true_eq_false, not_false_eq_true, Nat.add_zero, nI_m1, a3 k hk]
    · have e0 := e.thr hS 0
      have main : ∃ g2, fX12_tempers_L55 (nI l) (nI n) kv (fun g12 => fX12_tempers_L79 (nI l) (nI n) kv (fun g21 => if kv = ((-1)) then fX12_tempers_L139 g21 zFU 0 1 else zchk kv 12 (some (g21 507 kv.toNatClampNeg, g21))) zFU 0 g12) zFU 0 (zset g 493 0 0) = some (if kv = -1 then nI (zam (zty f 10) 11) else nI (zty f 10 kv.toNatClampNeg), g2) ∧ zFR (zset g 493 0 0) g2 ∧ g2 493 0 = 0 := by
        refine zL_Q0 (fun n' i (s : zM) => fX12_tempers_L55 (nI l) (nI n) kv _ n' (nI i) s) (fun i s => (∀ c, c ≠ 507 → s c = zset g 493 0 0 c) ∧ ∀ k, k < i → s 507 k = 0) 12 (fun x => ∃ g2, x = some (if kv = -1 then nI (zam (zty f 10) 11) else nI (zty f 10 kv.toNatClampNeg), g2) ∧ zFR (zset g 493 0 0) g2 ∧ g2 493 0 = 0) (zset g 493 0 0) (by omega) ⟨fun _ _ => rfl, fun k hk => absurd hk (by omega)⟩ (fun n' i s hi hh => ?_) (fun n' s hh => ?_)
        · obtain ⟨b1, b2⟩ := hh
          right
          refine ⟨zset s 507 i 0, ⟨fun c hc => by rw [zs_cell hc]; exact b1 c hc, fun k hk => ?_⟩, ?_⟩
          · by_cases q : k = i
            · subst q; simp (disch := omega) only [nL_lt, nL_gt, nL_le, nL_ge, nL_eq, nL_qe, nI_ltI, nI_leI, nI_eq, nL_add, nL_dda, nI_add, nL_sub, pk_sub, nL_mul, nL_clamp, nI_cl, zchk_n, zchk_l, zb_s, zb2_s, zb3_s, zb3_e, zput_e, zjoin_e, zs_hit, zs_miss, nle_t, nle_f, nlt_t, nlt_f, neq_t, neq_f, ↓reduceIte, and_self, and_true, true_and, and_false, false_and, not_true_eq_false, not_false_eq_true, Nat.add_zero]
            · simp (disch := omega) only [nL_lt, nL_gt, nL_le, nL_ge, nL_eq, nL_qe, nI_ltI, nI_leI, nI_eq, nL_add, nL_dda, nI_add, nL_sub, pk_sub, nL_mul, nL_clamp, nI_cl, zchk_n, zchk_l, zb_s, zb2_s, zb3_s, zb3_e, zput_e, zjoin_e, zs_hit, zs_miss, nle_t, nle_f, nlt_t, nlt_f, neq_t, neq_f, ↓reduceIte, and_self, and_true, true_and, and_false, false_and, not_true_eq_false, not_false_eq_true, Nat.add_zero]; exact b2 k (by omega)
          · simp only [fX12_tempers_L55]
            simp (disch := omega) only [nL_lt, nL_gt, nL_le, nL_ge, nL_eq, nL_qe, nI_ltI, nI_leI, nI_eq, nL_add, nL_dda, nI_add, nL_sub, pk_sub, nL_mul, nL_clamp, nI_cl, zchk_n, zchk_l, zb_s, zb2_s, zb3_s, zb3_e, zput_e, zjoin_e, zs_hit, zs_miss, nle_t, nle_f, nlt_t, nlt_f, neq_t, neq_f, ↓reduceIte, and_self, and_true, true_and, and_false, false_and, not_true_eq_false, not_false_eq_true, Nat.add_zero]
        · obtain ⟨b1, b2⟩ := hh
          simp only [fX12_tempers_L55]
          simp (disch := omega) only [nL_lt, nL_gt, nL_le, nL_ge, nL_eq, nL_qe, nI_ltI, nI_leI, nI_eq, nL_add, nL_dda, nI_add, nL_sub, pk_sub, nL_mul, nL_clamp, nI_cl, zchk_n, zchk_l, zb_s, zb2_s, zb3_s, zb3_e, zput_e, zjoin_e, zs_hit, zs_miss, nle_t, nle_f, nlt_t, nlt_f, neq_t, neq_f, ↓reduceIte, and_self, and_true, true_and, and_false, false_and, not_true_eq_false, not_false_eq_true, Nat.add_zero]
          -- the frame here: the row's cells and 507
          refine zL_Q0 (fun n' i (s : zM) => fX12_tempers_L79 (nI l) (nI n) kv _ n' (nI i) s) (fun i s => ((∀ c, c ≠ 493 → c ≠ 501 → c ≠ 502 → c ≠ 507 → s c = zset g 493 0 0 c) ∧ ∀ k, k < 19 → s 493 k = zset g 493 0 0 493 k) ∧ ∀ k, k < 12 → s 507 k = nI (zty f i k)) 10 (fun x => ∃ g2, x = some (if kv = -1 then nI (zam (zty f 10) 11) else nI (zty f 10 kv.toNatClampNeg), g2) ∧ zFR (zset g 493 0 0) g2 ∧ g2 493 0 = 0) s (by omega) ⟨⟨fun c _ _ _ h => b1 c h, fun k _ => by rw [b1 493 (by omega)]⟩, fun k hk => by rw [b2 k hk]; rfl⟩ (fun n' i s hi hh => ?_) (fun n' s hh => ?_)
          · obtain ⟨⟨b1, b1'⟩, b2⟩ := hh
            have fr : zFR (zset g 493 0 0) s := ⟨fun c h => b1 c (by omega) (by omega) (by omega) (by omega), fun k _ => by rw [b1 494 (by omega) (by omega) (by omega) (by omega)], b1 _ (by omega) (by omega) (by omega) (by omega), b1 _ (by omega) (by omega) (by omega) (by omega), b1 _ (by omega) (by omega) (by omega) (by omega), b1 _ (by omega) (by omega) (by omega) (by omega), b1' _ (by omega), b1' _ (by omega), b1' _ (by omega), b1' _ (by omega)⟩
            have es := e0.fr hS fr
            obtain ⟨s1, c1, c2⟩ := r_look0 hS es .refl hl
            have hW := zLd_W hL false (nI i)
            have hrow : zRR (zset s1 493 20 (nI i)) (zLd false ((zSB S).2.1 l) (nI i)) (zLd false ((zSB S).2.1 l) (nI i)).1 (zSB S).2.2.1 := by
              obtain ⟨r1, r2, r3, r4, r5, r6, r7⟩ := c2.1
              refine ⟨?_, fun j hj => ?_, ?_, ?_, ?_, ?_, ?_⟩ <;> simp (disch := omega) only [nL_lt, nL_gt, nL_le, nL_ge, nL_eq, nL_qe, nI_ltI, nI_leI, nI_eq, nL_add, nL_dda, nI_add, nL_sub, pk_sub, nL_mul, nL_clamp, nI_cl, zchk_n, zchk_l, zb_s, zb2_s, zb3_s, zb3_e, zput_e, zjoin_e, zs_hit, zs_miss, nle_t, nle_f, nlt_t, nlt_f, neq_t, neq_f, ↓reduceIte, and_self, and_true, true_and, and_false, false_and, not_true_eq_false, not_false_eq_true, Nat.add_zero] <;> first | exact r2 j hj | assumption | rfl
            have c4 : zFQ s (zset s1 493 20 (nI i)) := c2.2.trans ⟨fun c h1 h2 h3 => by rw [zs_cell h1], fun k hk => by simp (disch := omega) only [nL_lt, nL_gt, nL_le, nL_ge, nL_eq, nL_qe, nI_ltI, nI_leI, nI_eq, nL_add, nL_dda, nI_add, nL_sub, pk_sub, nL_mul, nL_clamp, nI_cl, zchk_n, zchk_l, zb_s, zb2_s, zb3_s, zb3_e, zput_e, zjoin_e, zs_hit, zs_miss, nle_t, nle_f, nlt_t, nlt_f, neq_t, neq_f, ↓reduceIte, and_self, and_true, true_and, and_false, false_and, not_true_eq_false, not_false_eq_true, Nat.add_zero]⟩
            obtain ⟨s2, d1, d2, d3⟩ := r_la hS es c4 hrow hW (n := n) (by omega)
            rw [← hf] at d2
            have h12 := hf12 i
            right
            refine ⟨zset s2 507 (f i) (nI (zty f i (f i)) + 1), ⟨⟨fun c h1 h2 h3 h4 => ?_, fun k hk => ?_⟩, fun k hk => ?_⟩, ?_⟩
            · rw [zs_cell h4, d3.1 c h1 h2 h3]; exact b1 c h1 h2 h3 h4
            · rw [zs_cell (by omega), d3.2 k hk]; exact b1' k hk
            · show _ = nI (zty f i k + if f i = k then 1 else 0)
              by_cases q : k = f i
              · subst q; simp (disch := omega) only [nL_lt, nL_gt, nL_le, nL_ge, nL_eq, nL_qe, nI_ltI, nI_leI, nI_eq, nL_add, nL_dda, nI_add, nL_sub, pk_sub, nL_mul, nL_clamp, nI_cl, zchk_n, zchk_l, zb_s, zb2_s, zb3_s, zb3_e, zput_e, zjoin_e, zs_hit, zs_miss, nle_t, nle_f, nlt_t, nlt_f, neq_t, neq_f, ↓reduceIte, and_self, and_true, true_and, and_false, false_and, not_true_eq_false, not_false_eq_true, Nat.add_zero]
              · have q' : ¬ f i = k := fun h => q h.symm
                simp (disch := omega) only [nL_lt, nL_gt, nL_le, nL_ge, nL_eq, nL_qe, nI_ltI, nI_leI, nI_eq, nL_add, nL_dda, nI_add, nL_sub, pk_sub, nL_mul, nL_clamp, nI_cl, zchk_n, zchk_l, zb_s, zb2_s, zb3_s, zb3_e, zput_e, zjoin_e, zs_hit, zs_miss, nle_t, nle_f, nlt_t, nlt_f, neq_t, neq_f, ↓reduceIte, and_self, and_true, true_and, and_false, false_and, not_true_eq_false, not_false_eq_true, Nat.add_zero]; rw [d3.1 507 (by omega) (by omega) (by omega)]; exact b2 k hk
            · simp only [fX12_tempers_L79, c1, zb_s, zput_e, d1, d2]
              simp (disch := omega) only [nL_lt, nL_gt, nL_le, nL_ge, nL_eq, nL_qe, nI_ltI, nI_leI, nI_eq, nL_add, nL_dda, nI_add, nL_sub, pk_sub, nL_mul, nL_clamp, nI_cl, zchk_n, zchk_l, zb_s, zb2_s, zb3_s, zb3_e, zput_e, zjoin_e, zs_hit, zs_miss, nle_t, nle_f, nlt_t, nlt_f, neq_t, neq_f, ↓reduceIte, and_self, and_true, true_and, and_false, false_and, not_true_eq_false, not_false_eq_true, Nat.add_zero]
              rw [d3.1 507 (by omega) (by omega) (by omega), b2 _ h12]
              simp (disch := omega) only [nL_lt, nL_gt, nL_le, nL_ge, nL_eq, nL_qe, nI_ltI, nI_leI, nI_eq, nL_add, nL_dda, nI_add, nL_sub, pk_sub, nL_mul, nL_clamp, nI_cl, zchk_n, zchk_l, zb_s, zb2_s, zb3_s, zb3_e, zput_e, zjoin_e, zs_hit, zs_miss, nle_t, nle_f, nlt_t, nlt_f, neq_t, neq_f, ↓reduceIte, and_self, and_true, true_and, and_false, false_and, not_true_eq_false, not_false_eq_true, Nat.add_zero]
          · obtain ⟨⟨b1, b1'⟩, b2⟩ := hh
            have fr : zFR (zset g 493 0 0) s := ⟨fun c h => b1 c (by omega) (by omega) (by omega) (by omega), fun k _ => by rw [b1 494 (by omega) (by omega) (by omega) (by omega)], b1 _ (by omega) (by omega) (by omega) (by omega), b1 _ (by omega) (by omega) (by omega) (by omega), b1 _ (by omega) (by omega) (by omega) (by omega), b1 _ (by omega) (by omega) (by omega) (by omega), b1' _ (by omega), b1' _ (by omega), b1' _ (by omega), b1' _ (by omega)⟩
            refine ⟨s, ?_, fr, by rw [b1' 0 (by omega)]; simp (disch := omega) only [nL_lt, nL_gt, nL_le, nL_ge, nL_eq, nL_qe, nI_ltI, nI_leI, nI_eq, nL_add, nL_dda, nI_add, nL_sub, pk_sub, nL_mul, nL_clamp, nI_cl, zchk_n, zchk_l, zb_s, zb2_s, zb3_s, zb3_e, zput_e, zjoin_e, zs_hit, zs_miss, nle_t, nle_f, nlt_t, nlt_f, neq_t, neq_f, ↓reduceIte, and_self, and_true, true_and, and_false, false_and, not_true_eq_false, not_false_eq_true, Nat.add_zero]⟩
            have hT : ∀ k, k < 12 → s 507 k = nI (zty f 10 k) ∧ zty f 10 k < 1000 := fun k hk => ⟨b2 k hk, by have := zty_le f k 10; omega⟩
            simp only [fX12_tempers_L79]
            simp (disch := omega) only [nL_lt, nL_gt, nL_le, nL_ge, nL_eq, nL_qe, nI_ltI, nI_leI, nI_eq, nL_add, nL_dda, nI_add, nL_sub, pk_sub, nL_mul, nL_clamp, nI_cl, zchk_n, zchk_l, zb_s, zb2_s, zb3_s, zb3_e, zput_e, zjoin_e, zs_hit, zs_miss, nle_t, nle_f, nlt_t, nlt_f, neq_t, neq_f, ↓reduceIte, and_self, and_true, true_and, and_false, false_and, not_true_eq_false, not_false_eq_true, Nat.add_zero]
            rcases hkk with rfl | ⟨k, hk, rfl⟩
            · rw [if_pos rfl, r_tempersL hT, if_pos rfl]
            · simp (disch := omega) only [nL_lt, nL_gt, nL_le, nL_ge, nL_eq, nL_qe, nI_ltI, nI_leI, nI_eq, nL_add, nL_dda, nI_add, nL_sub, pk_sub, nL_mul, nL_clamp, nI_cl, zchk_n, zchk_l, zb_s, zb2_s, zb3_s, zb3_e, zput_e, zjoin_e, zs_hit, zs_miss, nle_t, nle_f, nlt_t, nlt_f, neq_t, neq_f, ↓reduceIte, and_self, and_true, true_and, and_false, false_and, not_true_eq_false, not_false_eq_true, Nat.add_zero, nI_m1, b2 k hk]
      obtain ⟨g2, a1, a2, a3⟩ := main
      refine ⟨_, g2, ?_, zFR.thr.trans a2, a3, rfl⟩
      unfold fX12_tempers
      rw [zput_e, r_noLetter hS e0 hl, zb_s, pr]
      simp only [zb_s, zb2_s, zb3_s, zb3_e, zjoin_e, zput_e, r_thr0, r_thr1, zi10, zi01, if_true, if_false, r_noAhead hn]
      exact a1
