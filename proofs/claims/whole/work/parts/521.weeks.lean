/-! WEEKS with draws -/
def zsd (s : Int32) : Int32 := 1103515245 * s + 12345
def zrn (s : Int32) : Nat := s.toBitVec.toNat / 65536 % 32768
theorem b_32767 (i : Nat) : bt 32767 i = decide (i < 15) := by
  rcases Nat.lt_or_ge i 32 with h | h
  · exact (by decide +kernel : ∀ i, i < 32 → bt 32767 i = decide (i < 15)) i h
  · rw [b_big h, decide_eq_false (by omega)]
theorem zrn_c (s : Int32) : ((s.toUInt32 >>> ((16 : Int32).toUInt32 &&& Int32.toUInt32 31)).toInt32) &&& 32767 = nI (zrn s) := by
  have hx : s = nI s.toBitVec.toNat := by
    apply Int32.toBitVec_inj.mp
    show _ = BitVec.ofNat 32 _
    simp
  have hm : s.toBitVec.toNat < 4294967296 := s.toBitVec.isLt
  unfold zrn
  generalize s.toBitVec.toNat = m at *
  subst hx
  rw [u_16 hm, show (32767 : Int32) = nI 32767 from rfl, nx_and]
  congr 1
  exact Nat.and_two_pow_sub_one_eq_mod (m / 65536) 15
theorem zrn_r (s : Int32) : (s >>> ((16 : Int32) &&& 31)) &&& 32767 = nI (zrn s) := by
  rw [← zrn_c]
  apply b_ext
  intro i hi
  rw [b_and, b_and, b_32767]
  have h1 : bt (s >>> ((16 : Int32) &&& 31)) i = if 16 + i < 32 then bt s (16 + i) else bt s 31 := b_sshr 16 (by omega) s hi
  have h2 : bt ((s.toUInt32 >>> ((16 : Int32).toUInt32 &&& Int32.toUInt32 31)).toInt32) i = bt s (16 + i) := b_ushr 16 (by omega) s i
  rw [h1, h2]
  by_cases q : i < 15
  · rw [if_pos (by omega)]
  · simp [q]
theorem zrn_lt (s : Int32) : zrn s < 32768 := Nat.mod_lt _ (by omega)
def zBset (B : zB') (l : Nat) (L : zL) : zB' := (B.1, zup B.2.1 l L, B.2.2)
def zBseed (B : zB') (s : Int32) : zB' := (B.1, B.2.1, B.2.2.1, s, B.2.2.2.2)
def zBweek (B : zB') (w : Int32) : zB' := (B.1, B.2.1, w, B.2.2.2)
def zBcame (B : zB') (c : Int32) : zB' := (B.1, B.2.1, B.2.2.1, B.2.2.2.1, c)
/-- one growth of letter l -/
def zG1 (W : zLw) (slip : Int32) (B : zB') (l : Nat) : zB' × Nat := match zgr W (B.2.1 l) B.2.2.1 with
  | none => (B, 0)
  | some k => if slip ≤ nI (zrn (zsd B.2.2.2.1) % 100) then (zBset (zBseed B (zsd B.2.2.2.1)) l (zLadd (B.2.1 l) k B.2.2.1), 1) else (zBset (zBseed B (zsd (zsd B.2.2.2.1))) l (zLadd (B.2.1 l) (zrn (zsd (zsd B.2.2.2.1)) % 12) B.2.2.1), 1)
def zGl (W : zLw) (slip : Int32) (B : zB') (l : Nat) : zB' × Nat :=
  if (B.2.1 l).2.2.2.2.2.2 = true then ((zG1 W slip (zG1 W slip B l).1 l).1, (zG1 W slip B l).2 + (zG1 W slip (zG1 W slip B l).1 l).2) else zG1 W slip B l
def zGa (W : zLw) (slip : Int32) (B : zB') (N : Nat) : zB' × Nat := zfo (fun l (a : zB' × Nat) => ((zGl W slip a.1 l).1, a.2 + (zGl W slip a.1 l).2)) N 0 (B, 0)
def zPW (W : zLw) (slip : Int32) (B : zB') : zB' × Nat := (zBweek (zGa W slip B B.1).1 (zwk (zGa W slip B B.1).1.2.2.1), (zGa W slip B B.1).2)
theorem zBset_W {B : zB'} (h : zBW B) {l : Nat} {L : zL} (hL : zLW L) : zBW (zBset B l L) := ⟨h.1, fun m hm => by
  show zLW (zup B.2.1 l L m)
  by_cases q : m = l
  · rw [zup_hit q]; exact hL
  · rw [zup_miss q]; exact h.2 m hm⟩
theorem zG1_W {W : zLw} (hW : zWW W) {slip : Int32} {B : zB'} (h : zBW B) {l : Nat} (hl : l < B.1) : zBW (zG1 W slip B l).1 ∧ (zG1 W slip B l).1.1 = B.1 ∧ (zG1 W slip B l).2 ≤ 1 ∧ (zG1 W slip B l).1.2.2.1 = B.2.2.1 ∧ ((zG1 W slip B l).1.2.1 l).2.2.2 = (B.2.1 l).2.2.2 := by
  unfold zG1
  cases q : zgr W (B.2.1 l) B.2.2.1 with
  | none => exact ⟨h, rfl, by simp only; omega, rfl, rfl⟩
  | some k =>
    obtain ⟨k1, k2, k3⟩ := zgr_lt hW q
    have m12 : ∀ x, x % 12 < 12 := fun x => Nat.mod_lt _ (by omega)
    have hB : ∀ s, zBW (zBseed B s) := fun s => h
    simp only
    generalize zsd B.2.2.2.1 = s1
    generalize zsd s1 = s2
    split
    · exact ⟨zBset_W (hB _) (zLadd_W (h.2 l hl) k2 k1), rfl, Nat.le_refl _, rfl, by show (zup B.2.1 l _ l).2.2.2 = _; rw [zup_hit rfl]; rfl⟩
    · exact ⟨zBset_W (hB _) (zLadd_W (h.2 l hl) k2 (m12 _)), rfl, Nat.le_refl _, rfl, by show (zup B.2.1 l _ l).2.2.2 = _; rw [zup_hit rfl]; rfl⟩
theorem zGl_W {W : zLw} (hW : zWW W) {slip : Int32} {B : zB'} (h : zBW B) {l : Nat} (hl : l < B.1) : zBW (zGl W slip B l).1 ∧ (zGl W slip B l).1.1 = B.1 ∧ (zGl W slip B l).1.2.2.1 = B.2.2.1 := by
  have a := zG1_W (slip := slip) hW h hl
  unfold zGl
  split
  · have b := zG1_W (slip := slip) hW a.1 (l := l) (by rw [a.2.1]; exact hl)
    exact ⟨b.1, b.2.1.trans a.2.1, b.2.2.2.1.trans a.2.2.2.1⟩
  · exact ⟨a.1, a.2.1, a.2.2.2.1⟩
theorem zGa_s {W : zLw} {slip : Int32} {B : zB'} {N : Nat} : zGa W slip B (N + 1) = ((zGl W slip (zGa W slip B N).1 N).1, (zGa W slip B N).2 + (zGl W slip (zGa W slip B N).1 N).2) := zfo_s
theorem zGa_W {W : zLw} (hW : zWW W) {slip : Int32} {B : zB'} (h : zBW B) : ∀ N, N ≤ B.1 → zBW (zGa W slip B N).1 ∧ (zGa W slip B N).1.1 = B.1 ∧ (zGa W slip B N).1.2.2.1 = B.2.2.1
  | 0, _ => ⟨h, rfl, rfl⟩
  | N + 1, hN => by
    have a := zGa_W hW (slip := slip) h N (by omega)
    rw [zGa_s]
    have b := zGl_W (slip := slip) hW a.1 (l := N) (by rw [a.2.1]; omega)
    exact ⟨b.1, b.2.1.trans a.2.1, b.2.2.trans a.2.2⟩
theorem zPW_W {W : zLw} (hW : zWW W) {slip : Int32} {B : zB'} (h : zBW B) : zBW (zPW W slip B).1 ∧ (zPW W slip B).1.1 = B.1 := by
  have a := zGa_W hW (slip := slip) h B.1 (Nat.le_refl _)
  exact ⟨⟨a.1.1, a.1.2⟩, a.2.1⟩
/-! the class -/
def zFB (h : Nat) (g g1 : zM) : Prop := ∀ c, c ≠ 34 → c ≠ 35 → (c < h ∨ h + 26 ≤ c) → g1 c = g c
theorem zFB.trans {h : Nat} {g g1 g2 : zM} (a : zFB h g g1) (b : zFB h g1 g2) : zFB h g g2 := fun c h1 h2 h3 => (b c h1 h2 h3).trans (a c h1 h2 h3)
theorem zCB_fs {g g1 : zM} {h : Nat} {B : zB'} (e : zCB g h B) (hB : B.1 ≤ 8) (hh : h + 26 ≤ 34 ∨ 36 ≤ h) (f : ∀ c, c ≠ 34 → c ≠ 35 → g1 c = g c) : zCB g1 h B := e.fr hB (fun c h1 h2 => f c (by omega) (by omega))
theorem c_growOne {W : zLw} (hW : zWW W) {g : zM} (eL : zCL g 29 W) {h : Nat} (hh : h + 26 ≤ 29 ∨ 36 ≤ h) {B : zB'} (e : zCB g h B) (hB : zBW B) {l : Nat} (hl : l < B.1) (slip : Int32) : ∃ g1, fX0_growOne h (h + 1 + 1 + 3 * l) 29 slip g = some (nI (zG1 W slip B l).2, g1) ∧ zCB g1 h (zG1 W slip B l).1 ∧ zFB h g g1 := by
  have h8 := hB.1
  have hL := hB.2 l hl
  obtain ⟨e1, e2, e3, e4, e5⟩ := e
  obtain ⟨g1, a1, a2⟩ := c_growth hW eL (e2 l hl) (by omega) hL (g h 2)
  have eB1 : zCB g1 h B := zCB_fs ⟨e1, e2, e3, e4, e5⟩ h8 (by omega) a2
  obtain ⟨f1, f2, f3, f4, f5⟩ := eB1
  rw [e3] at a1
  unfold fX0_growOne zG1
  rw [e3, a1]
  cases q : zgr W (B.2.1 l) B.2.2.1 with
  | none =>
    refine ⟨g1, ?_, ⟨f1, f2, f3, f4, f5⟩, fun c h1 h2 _ => a2 c h1 h2⟩
    simp (disch := omega) only [nL_lt, nL_gt, nL_le, nL_ge, nL_eq, nL_qe, nI_ltI, nI_leI, nI_eq, nL_add, nL_dda, nI_add, nL_sub, pk_sub, nL_mul, nL_clamp, nI_cl, zchk_n, zchk_l, zb_s, zb2_s, zb3_s, zb3_e, zput_e, zjoin_e, zs_hit, zs_miss, nle_t, nle_f, nlt_t, nlt_f, neq_t, neq_f, ↓reduceIte, and_self, and_true, true_and, and_false, false_and, not_true_eq_false, not_false_eq_true, Nat.add_zero, zoi_none]
    rfl
  | some k =>
    obtain ⟨k1, k2, k3⟩ := zgr_lt hW q
    -- adding behind draws
    have fin : ∀ (g2 : zM) (s : Int32) (x : Nat), zCB g2 h (zBseed B s) → ∃ g3, fX3_add (h + 1 + 1 + 3 * l) (nI x) (g2 h 2) g2 = some g3 ∧ zCB g3 h (zBset (zBseed B s) l (zLadd (B.2.1 l) x B.2.2.1)) ∧ zFB h g2 g3 := by
      intro g2 s x ⟨d1, d2, d3, d4, d5⟩
      have d3 : g2 h 2 = B.2.2.1 := d3
      have d2l : zCM g2 (h + 1 + 1 + 3 * l) (B.2.1 l) := d2 l hl
      obtain ⟨g3, b1, b2, b3⟩ := c_add d2l k2 x B.2.2.1
      refine ⟨g3, by rw [d3]; exact b1, ⟨?_, fun m hm => ?_, ?_, ?_, ?_⟩, fun c h1 h2 h3 => b3 c (by omega) (by omega) (by omega)⟩
      · rw [b3 h (by omega) (by omega) (by omega)]; exact d1
      · show zCM g3 (h + 1 + 1 + 3 * m) (zup B.2.1 l _ m)
        by_cases q : m = l
        · rw [zup_hit q, q]; exact b2
        · rw [zup_miss q]
          have hm' : m < B.1 := hm
          exact (d2 m hm).fr (b3 _ (by omega) (by omega) (by omega)) (b3 _ (by omega) (by omega) (by omega)) (b3 _ (by omega) (by omega) (by omega))
      · rw [b3 h (by omega) (by omega) (by omega)]; exact d3
      · rw [b3 h (by omega) (by omega) (by omega)]; exact d4
      · rw [b3 h (by omega) (by omega) (by omega)]; exact d5
    have seed : ∀ (g2 : zM) (s s' : Int32), s' = zsd s → zCB g2 h (zBseed B s) → fX0_draw h g2 = some (nI (zrn s'), zset g2 h 3 s') ∧ zCB (zset g2 h 3 s') h (zBseed B s') ∧ zFB h g2 (zset g2 h 3 s') := by
      intro g2 s s' hs' ⟨d1, d2, d3, d4, d5⟩
      have d4 : g2 h 3 = s := d4
      refine ⟨?_, ⟨?_, fun m hm => ?_, ?_, ?_, ?_⟩, fun c h1 h2 h3 => zs_cell (by omega)⟩
      · unfold fX0_draw
        rw [d4, show 1103515245 * s + 12345 = s' from hs'.symm, zput_e, zs_hit ⟨rfl, rfl⟩, zrn_c]
      · simp (disch := omega) only [nL_lt, nL_gt, nL_le, nL_ge, nL_eq, nL_qe, nI_ltI, nI_leI, nI_eq, nL_add, nL_dda, nI_add, nL_sub, pk_sub, nL_mul, nL_clamp, nI_cl, zchk_n, zchk_l, zb_s, zb2_s, zb3_s, zb3_e, zput_e, zjoin_e, zs_hit, zs_miss, nle_t, nle_f, nlt_t, nlt_f, neq_t, neq_f, ↓reduceIte, and_self, and_true, true_and, and_false, false_and, not_true_eq_false, not_false_eq_true, Nat.add_zero]; exact d1
      · exact (d2 m hm).fr (zs_cell (by omega)) (zs_cell (by omega)) (zs_cell (by omega))
      · simp (disch := omega) only [nL_lt, nL_gt, nL_le, nL_ge, nL_eq, nL_qe, nI_ltI, nI_leI, nI_eq, nL_add, nL_dda, nI_add, nL_sub, pk_sub, nL_mul, nL_clamp, nI_cl, zchk_n, zchk_l, zb_s, zb2_s, zb3_s, zb3_e, zput_e, zjoin_e, zs_hit, zs_miss, nle_t, nle_f, nlt_t, nlt_f, neq_t, neq_f, ↓reduceIte, and_self, and_true, true_and, and_false, false_and, not_true_eq_false, not_false_eq_true, Nat.add_zero]; exact d3
      · simp (disch := omega) only [nL_lt, nL_gt, nL_le, nL_ge, nL_eq, nL_qe, nI_ltI, nI_leI, nI_eq, nL_add, nL_dda, nI_add, nL_sub, pk_sub, nL_mul, nL_clamp, nI_cl, zchk_n, zchk_l, zb_s, zb2_s, zb3_s, zb3_e, zput_e, zjoin_e, zs_hit, zs_miss, nle_t, nle_f, nlt_t, nlt_f, neq_t, neq_f, ↓reduceIte, and_self, and_true, true_and, and_false, false_and, not_true_eq_false, not_false_eq_true, Nat.add_zero]; rfl
      · simp (disch := omega) only [nL_lt, nL_gt, nL_le, nL_ge, nL_eq, nL_qe, nI_ltI, nI_leI, nI_eq, nL_add, nL_dda, nI_add, nL_sub, pk_sub, nL_mul, nL_clamp, nI_cl, zchk_n, zchk_l, zb_s, zb2_s, zb3_s, zb3_e, zput_e, zjoin_e, zs_hit, zs_miss, nle_t, nle_f, nlt_t, nlt_f, neq_t, neq_f, ↓reduceIte, and_self, and_true, true_and, and_false, false_and, not_true_eq_false, not_false_eq_true, Nat.add_zero]; exact d5
    have eB0 : zCB g1 h (zBseed B B.2.2.2.1) := ⟨f1, f2, f3, f4, f5⟩
    obtain ⟨u1, hu1⟩ : ∃ u1, u1 = zsd B.2.2.2.1 := ⟨_, rfl⟩
    obtain ⟨u2, hu2⟩ : ∃ u2, u2 = zsd u1 := ⟨_, rfl⟩
    rw [← hu1, ← hu2]
    obtain ⟨s1, s2, s3⟩ := seed g1 _ u1 hu1 eB0
    have r100 := zrn_lt u1
    have hrem : ∀ x : Nat, x < 32768 → nI x - nI x / 100 * 100 = nI (x % 100) := fun x hx => pk_rem (d := 100) (by omega) (by omega) (by omega)
    rw [zoi_some, zb2_s, if_neg (by rw [nI_m1 (by omega)]; exact id), s1, zb2_s, hrem _ r100]
    simp only
    by_cases qs : slip ≤ nI (zrn u1 % 100)
    · obtain ⟨g3, b1, b2, b3⟩ := fin _ _ k s2
      rw [if_pos qs, if_pos qs]
      refine ⟨g3, by rw [b1, zb_s]; rfl, b2, ?_⟩
      exact (show zFB h g g1 from fun c h1 h2 _ => a2 c h1 h2).trans (s3.trans b3)
    · obtain ⟨t1, t2, t3⟩ := seed _ _ u2 hu2 s2
      obtain ⟨g3, b1, b2, b3⟩ := fin _ _ (zrn u2 % 12) t2
      have r12 := zrn_lt u2
      rw [if_neg qs, if_neg qs, t1, zb2_s, pk_rem12 (by omega)]
      refine ⟨g3, by rw [b1, zb_s]; rfl, b2, ?_⟩
      exact (show zFB h g g1 from fun c h1 h2 _ => a2 c h1 h2).trans (s3.trans (t3.trans b3))
theorem c_passWeek {W : zLw} (hW : zWW W) {g : zM} (eL : zCL g 29 W) {h : Nat} (hh : h + 26 ≤ 29 ∨ 36 ≤ h) {B : zB'} (e : zCB g h B) (hB : zBW B) (slip : Int32) : ∃ g1, fX0_passWeek h 29 slip g = some (nI (zPW W slip B).2, g1) ∧ zCB g1 h (zPW W slip B).1 ∧ zFB h g g1 := by
  have h8 := hB.1
  unfold fX0_passWeek
  refine zL_Q0 (fun n i (st : Int32 × zM) => fX0_passWeek_L5 h 29 slip _ n st.1 (nI i) st.2) (fun i st => st.1 = nI (zGa W slip B i).2 ∧ zCB st.2 h (zGa W slip B i).1 ∧ zFB h g st.2) B.1 (fun x => ∃ g1, x = some (nI (zPW W slip B).2, g1) ∧ zCB g1 h (zPW W slip B).1 ∧ zFB h g g1) (0, g) (by omega) ⟨rfl, e, fun _ _ _ _ => rfl⟩ (fun n i st hi hh' => ?_) (fun n st hh' => ?_)
  · obtain ⟨a, s⟩ := st
    obtain ⟨b1, b2, b3⟩ := hh'
    have b1 : a = nI (zGa W slip B i).2 := b1
    subst b1
    have b2 : zCB s h (zGa W slip B i).1 := b2
    have b3 : zFB h g s := b3
    have wf := zGa_W hW (slip := slip) hB i (Nat.le_of_lt hi)
    have hi' : i < (zGa W slip B i).1.1 := by rw [wf.2.1]; exact hi
    have eLs : zCL s 29 W := eL.fr (fun c _ _ => b3 c (by omega) (by omega) (by omega))
    obtain ⟨s1, c1, c2, c3⟩ := c_growOne hW eLs hh b2 wf.1 hi' slip
    have wf1 := zG1_W (slip := slip) hW wf.1 hi'
    have eLs1 : zCL s1 29 W := eLs.fr (fun c _ _ => c3 c (by omega) (by omega) (by omega))
    obtain ⟨s2, d1, d2, d3⟩ := c_growOne hW eLs1 hh c2 wf1.1 (l := i) (by rw [wf1.2.1]; exact hi') slip
    have hot : s1 (h + 1 + 1 + 3 * i) 6 = zbi ((zGa W slip B i).1.2.1 i).2.2.2.2.2.2 := by
      have := (c2.2.1 i (by rw [wf1.2.1]; exact hi')).2.2.2.2.2.2
      rw [this, wf1.2.2.2.2]
    have sz : s h 1 = nI B.1 := by rw [b2.1, wf.2.1]
    right
    have whole : ∃ s3, fX0_passWeek_L5 h 29 slip (fun v3_8 g8 => zput g8 h 2 (if 9999 < (g8 h 2) + 1 then 9999 else (g8 h 2) + 1) (fun g9 => some (v3_8, g9))) (n + 1) (nI (zGa W slip B i).2) (nI i) s = fX0_passWeek_L5 h 29 slip (fun v3_8 g8 => zput g8 h 2 (if 9999 < (g8 h 2) + 1 then 9999 else (g8 h 2) + 1) (fun g9 => some (v3_8, g9))) n (nI (zGa W slip B (i + 1)).2) (nI (i + 1)) s3 ∧ zCB s3 h (zGa W slip B (i + 1)).1 ∧ zFB h g s3 := by
      simp only [fX0_passWeek_L5, sz]
      have hle : ¬ nI B.1 ≤ nI i := by
        rw [nI_leI (by omega) (by omega)]
        omega
      rw [if_neg hle]
      simp (disch := omega) only [zchk_n, nI_cl, c1, zb2_s, hot]
      rw [zGa_s]
      unfold zGl
      cases hb : ((zGa W slip B i).1.2.1 i).2.2.2.2.2.2
      · refine ⟨s1, ?_, c2, b3.trans c3⟩
        simp (disch := omega) only [nL_lt, nL_gt, nL_le, nL_ge, nL_eq, nL_qe, nI_ltI, nI_leI, nI_eq, nL_add, nL_dda, nI_add, nL_sub, pk_sub, nL_mul, nL_clamp, nI_cl, zchk_n, zchk_l, zb_s, zb2_s, zb3_s, zb3_e, zput_e, zjoin_e, zs_hit, zs_miss, nle_t, nle_f, nlt_t, nlt_f, neq_t, neq_f, ↓reduceIte, and_self, and_true, true_and, and_false, false_and, not_true_eq_false, not_false_eq_true, Nat.add_zero, zbi_f, Bool.false_eq_true]
      · refine ⟨s2, ?_, d2, b3.trans (c3.trans d3)⟩
        simp (disch := omega) only [nL_lt, nL_gt, nL_le, nL_ge, nL_eq, nL_qe, nI_ltI, nI_leI, nI_eq, nL_add, nL_dda, nI_add, nL_sub, pk_sub, nL_mul, nL_clamp, nI_cl, zchk_n, zchk_l, zb_s, zb2_s, zb3_s, zb3_e, zput_e, zjoin_e, zs_hit, zs_miss, nle_t, nle_f, nlt_t, nlt_f, neq_t, neq_f, ↓reduceIte, and_self, and_true, true_and, and_false, false_and, not_true_eq_false, not_false_eq_true, Nat.add_zero, zbi_t, zi10, d1]
        congr 2
        omega
    obtain ⟨s3, w1, w2, w3⟩ := whole
    exact ⟨(nI (zGa W slip B (i + 1)).2, s3), ⟨rfl, w2, w3⟩, w1⟩
  · obtain ⟨a, s⟩ := st
    obtain ⟨b1, b2, b3⟩ := hh'
    have b1 : a = nI (zGa W slip B B.1).2 := b1
    subst b1
    have b2 : zCB s h (zGa W slip B B.1).1 := b2
    have b3 : zFB h g s := b3
    have wf := zGa_W hW (slip := slip) hB B.1 (Nat.le_refl _)
    have sz : s h 1 = nI B.1 := by rw [b2.1, wf.2.1]
    obtain ⟨d1, d2, d3, d4, d5⟩ := b2
    simp only [fX0_passWeek_L5, sz]
    refine ⟨zset s h 2 (zwk (zGa W slip B B.1).1.2.2.1), ?_, ⟨?_, fun m hm => ?_, ?_, ?_, ?_⟩, b3.trans (fun c h1 h2 h3 => zs_cell (by omega))⟩
    · simp (disch := omega) only [nL_lt, nL_gt, nL_le, nL_ge, nL_eq, nL_qe, nI_ltI, nI_leI, nI_eq, nL_add, nL_dda, nI_add, nL_sub, pk_sub, nL_mul, nL_clamp, nI_cl, zchk_n, zchk_l, zb_s, zb2_s, zb3_s, zb3_e, zput_e, zjoin_e, zs_hit, zs_miss, nle_t, nle_f, nlt_t, nlt_f, neq_t, neq_f, ↓reduceIte, and_self, and_true, true_and, and_false, false_and, not_true_eq_false, not_false_eq_true, Nat.add_zero]
      rw [d3]
      rfl
    · simp (disch := omega) only [nL_lt, nL_gt, nL_le, nL_ge, nL_eq, nL_qe, nI_ltI, nI_leI, nI_eq, nL_add, nL_dda, nI_add, nL_sub, pk_sub, nL_mul, nL_clamp, nI_cl, zchk_n, zchk_l, zb_s, zb2_s, zb3_s, zb3_e, zput_e, zjoin_e, zs_hit, zs_miss, nle_t, nle_f, nlt_t, nlt_f, neq_t, neq_f, ↓reduceIte, and_self, and_true, true_and, and_false, false_and, not_true_eq_false, not_false_eq_true, Nat.add_zero]; exact d1
    · have hm' : m < B.1 := by rw [← wf.2.1]; exact hm
      exact (d2 m hm).fr (zs_cell (by omega)) (zs_cell (by omega)) (zs_cell (by omega))
    · simp (disch := omega) only [nL_lt, nL_gt, nL_le, nL_ge, nL_eq, nL_qe, nI_ltI, nI_leI, nI_eq, nL_add, nL_dda, nI_add, nL_sub, pk_sub, nL_mul, nL_clamp, nI_cl, zchk_n, zchk_l, zb_s, zb2_s, zb3_s, zb3_e, zput_e, zjoin_e, zs_hit, zs_miss, nle_t, nle_f, nlt_t, nlt_f, neq_t, neq_f, ↓reduceIte, and_self, and_true, true_and, and_false, false_and, not_true_eq_false, not_false_eq_true, Nat.add_zero]; rfl
    · simp (disch := omega) only [nL_lt, nL_gt, nL_le, nL_ge, nL_eq, nL_qe, nI_ltI, nI_leI, nI_eq, nL_add, nL_dda, nI_add, nL_sub, pk_sub, nL_mul, nL_clamp, nI_cl, zchk_n, zchk_l, zb_s, zb2_s, zb3_s, zb3_e, zput_e, zjoin_e, zs_hit, zs_miss, nle_t, nle_f, nlt_t, nlt_f, neq_t, neq_f, ↓reduceIte, and_self, and_true, true_and, and_false, false_and, not_true_eq_false, not_false_eq_true, Nat.add_zero]; exact d4
    · simp (disch := omega) only [nL_lt, nL_gt, nL_le, nL_ge, nL_eq, nL_qe, nI_ltI, nI_leI, nI_eq, nL_add, nL_dda, nI_add, nL_sub, pk_sub, nL_mul, nL_clamp, nI_cl, zchk_n, zchk_l, zb_s, zb2_s, zb3_s, zb3_e, zput_e, zjoin_e, zs_hit, zs_miss, nle_t, nle_f, nlt_t, nlt_f, neq_t, neq_f, ↓reduceIte, and_self, and_true, true_and, and_false, false_and, not_true_eq_false, not_false_eq_true, Nat.add_zero]; exact d5
