/-! a LETTER in a text of THE POST -/
/-- a word, then a NUMBER: the class -/
theorem c_pn {g0 g : zM} {n N k : Nat} {b : Nat → Nat} {D : zWd} (x : zTx n b N) (hV : zVW D) (e : zPC g0 n b N D k g) {c : Nat} (hc : c < 1019) (hc2 : 1000 ≤ c) : (zck b n k = c ∧ ztn 0 9 (zck b n (k + 1)) = true → k + 1 < N ∧ ∀ K : Int32 → zM → Option (Int32 × zM), zb2 (fX9_pass 391 (nI c) g) (fun r_3 g3 => zjoin K (fun k57 => if r_3 = 0 then k57 ((-1)) g3 else zb2 (fX9_takeNumber 391 0 9 g3) (fun r_24 g24 => k57 r_24 g24))) = K (nI (zck b n (k + 1))) (zset (zset g 391 6 (nI (k + 1))) 391 6 (nI (k + 1 + 1)))) ∧ (¬ (zck b n k = c ∧ ztn 0 9 (zck b n (k + 1)) = true) → ∃ g1, (∀ K : Int32 → zM → Option (Int32 × zM), zb2 (fX9_pass 391 (nI c) g) (fun r_3 g3 => zjoin K (fun k57 => if r_3 = 0 then k57 ((-1)) g3 else zb2 (fX9_takeNumber 391 0 9 g3) (fun r_24 g24 => k57 r_24 g24))) = K (-1) g1) ∧ g1 391 7 = nI (zT b n (if zck b n k = c then k + 1 else k)) ∧ zPcf g0 g1) := by
  rw [c_pass x e.1 (c := c) (by omega) (by omega)]
  constructor
  · intro h
    have hk := zck_lt x e.1.2.2 (by omega)
    have e1 := e.go hV (show k + 1 ≤ N from hk)
    have h9 := ztn_lt x (show k + 1 ≤ N from hk) h.2
    refine ⟨h9.1, fun K => ?_⟩
    rw [if_pos h.1, zb2_s, zjoin_e, if_neg (by decide), c_takeNumber x e1.1, if_pos h.2, zb2_s]
  · intro h
    by_cases q : zck b n k = c
    · have hk := zck_lt x e.1.2.2 (by omega)
      have e1 := e.go hV (show k + 1 ≤ N from hk)
      refine ⟨_, fun K => ?_, by rw [if_pos q]; exact zs_hit ⟨rfl, rfl⟩, e1.er⟩
      rw [if_pos q, zb2_s, zjoin_e, if_neg (by decide), c_takeNumber x e1.1, if_neg (fun h2 => h ⟨q, h2⟩), zb2_s]
    · refine ⟨_, fun K => ?_, by rw [if_neg q]; exact zs_hit ⟨rfl, rfl⟩, e.er⟩
      rw [if_neg q, zb2_s, zjoin_e, if_pos rfl]
theorem r_beg {g : zM} {f : Nat → Nat} {w t s : Int32} {n : Nat} (z0 : g 494 0 = nI n) (h8 : n < 8) : ∃ g1, fX12_begins s t g = some (nI n, g1) ∧ zRM g1 494 (36 + 53 * n) (zWr f w t s 0) ∧ g1 494 0 = nI (n + 1) ∧ (∀ c, c ≠ 494 → g1 c = g c) ∧ ∀ x, x ≠ 0 → (x < 36 + 53 * n ∨ 36 + 53 * n + 53 ≤ x) → g1 494 x = g 494 x := by
  have le : fX12_letters g = some (nI n) := by
    unfold fX12_letters
    simp (disch := omega) only [nL_lt, nL_gt, nL_le, nL_ge, nL_eq, nL_qe, nI_ltI, nI_leI, nI_eq, nL_add, nL_dda, nI_add, nL_sub, pk_sub, nL_mul, nL_clamp, nI_cl, zchk_n, zchk_l, zb_s, zb2_s, zb3_s, zb3_e, zput_e, zjoin_e, zs_hit, zs_miss, nle_t, nle_f, nlt_t, nlt_f, neq_t, neq_f, ↓reduceIte, and_self, and_true, true_and, and_false, false_and, not_true_eq_false, not_false_eq_true, Nat.add_zero, z0]
  unfold fX12_begins
  rw [le, zb_s]
  refine zL_I (fun m i (u : zM) => fX12_begins_L8 s t (nI n) _ m (nI i) u) (fun i u => (∀ c, c ≠ 494 → u c = g c) ∧ (∀ x, (x < 36 + 53 * n ∨ 36 + 53 * n + 53 ≤ x) → u 494 x = g 494 x) ∧ ∀ j, j < i → u 494 (36 + 53 * n + j) = 0) 53 (fun x => ∃ g1, x = some (nI n, g1) ∧ zRM g1 494 (36 + 53 * n) (zWr f w t s 0) ∧ g1 494 0 = nI (n + 1) ∧ (∀ c, c ≠ 494 → g1 c = g c) ∧ ∀ x, x ≠ 0 → (x < 36 + 53 * n ∨ 36 + 53 * n + 53 ≤ x) → g1 494 x = g 494 x) g (by omega) ⟨fun _ _ => rfl, fun _ _ => rfl, fun j hj => absurd hj (by omega)⟩ (fun m i u hi hh => ?_) (fun m u hh => ?_)
  · obtain ⟨b1, b2, b3⟩ := hh
    refine ⟨zset u 494 (36 + 53 * n + i) 0, ⟨fun c hc => by rw [zs_cell hc]; exact b1 c hc, fun x hx => by rw [zs_miss (by omega)]; exact b2 x hx, fun j hj => ?_⟩, ?_⟩
    · by_cases q : j = i
      · subst q; exact zs_hit ⟨rfl, rfl⟩
      · rw [zs_miss (by omega)]; exact b3 j (by omega)
    · simp only [fX12_begins_L8, fX12_at]
      simp (disch := omega) only [nL_lt, nL_gt, nL_le, nL_ge, nL_eq, nL_qe, nI_ltI, nI_leI, nI_eq, nL_add, nL_dda, nI_add, nL_sub, pk_sub, nL_mul, nL_clamp, nI_cl, zchk_n, zchk_l, zb_s, zb2_s, zb3_s, zb3_e, zput_e, zjoin_e, zs_hit, zs_miss, nle_t, nle_f, nlt_t, nlt_f, neq_t, neq_f, ↓reduceIte, and_self, and_true, true_and, and_false, false_and, not_true_eq_false, not_false_eq_true, Nat.add_zero]
  · obtain ⟨b1, b2, b3⟩ := hh
    have c0 : u 494 0 = nI n := by rw [b2 0 (by omega)]; exact z0
    have b30 := b3 0 (by omega)
    rw [Nat.add_zero] at b30
    refine ⟨zset (zset (zset u 494 (36 + 53 * n + 2) s) 494 (36 + 53 * n + 1) t) 494 0 (nI (n + 1)), ?_, ⟨?_, fun j hj => absurd hj (Nat.not_lt_zero _), fun j hj => absurd hj (Nat.not_lt_zero _), ?_, ?_, ?_, ?_⟩, zs_hit ⟨rfl, rfl⟩, fun c hc => by rw [zs_cell hc, zs_cell hc, zs_cell hc]; exact b1 c hc, fun x h0 hx => by rw [zs_miss (by omega), zs_miss (by omega), zs_miss (by omega)]; exact b2 x hx⟩
    · simp only [fX12_begins_L8, fX12_at]
      simp (disch := omega) only [nL_lt, nL_gt, nL_le, nL_ge, nL_eq, nL_qe, nI_ltI, nI_leI, nI_eq, nL_add, nL_dda, nI_add, nL_sub, pk_sub, nL_mul, nL_clamp, nI_cl, zchk_n, zchk_l, zb_s, zb2_s, zb3_s, zb3_e, zput_e, zjoin_e, zs_hit, zs_miss, nle_t, nle_f, nlt_t, nlt_f, neq_t, neq_f, ↓reduceIte, and_self, and_true, true_and, and_false, false_and, not_true_eq_false, not_false_eq_true, Nat.add_zero, c0]
    · rw [zs_miss (by omega), zs_miss (by omega), zs_miss (by omega), b30]; rfl
    · rw [zs_miss (by omega), zs_hit ⟨rfl, rfl⟩]; rfl
    · rw [zs_miss (by omega), zs_miss (by omega), zs_hit ⟨rfl, rfl⟩]; rfl
    · rw [zs_miss (by omega), zs_miss (by omega), zs_miss (by omega), b3 3 (by omega)]; rfl
    · rw [zs_miss (by omega), zs_miss (by omega), zs_miss (by omega), b3 4 (by omega)]; rfl
theorem zCB.add' {g g1 : zM} {h : Nat} {B : zB'} (e : zCB g h B) {L : zL} (h8 : B.1 < 8) (hs : g1 h 1 = nI (B.1 + 1)) (hL : zCM g1 (h + 1 + 1 + 3 * B.1) L) (f0 : ∀ k, k ≠ 1 → g1 h k = g h k) (f : ∀ c, h + 2 ≤ c → c < h + 1 + 1 + 3 * B.1 → g1 c = g c) : zCB g1 h (zBadd B L) := by
  obtain ⟨e1, e2, e3, e4, e5⟩ := e
  refine ⟨hs, fun m hm => ?_, by rw [f0 2 (by omega)]; exact e3, by rw [f0 3 (by omega)]; exact e4, by rw [f0 4 (by omega)]; exact e5⟩
  have hm' : m < B.1 + 1 := hm
  show zCM g1 (h + 1 + 1 + 3 * m) (zup B.2.1 B.1 L m)
  by_cases q : m = B.1
  · rw [zup_hit q, q]; exact hL
  · rw [zup_miss q]
    exact (e2 m (by omega)).fr (f _ (by omega) (by omega)) (f _ (by omega) (by omega)) (f _ (by omega) (by omega))
/-- the KINDS of the thing k, on the class's side -/
def zkf (b : Nat → Nat) (n k : Nat) : Nat → Nat := fun i => b (zT b n k + i) - 97
theorem c_letter {g0 g : zM} {n N k : Nat} {b : Nat → Nat} {D : zWd} (x : zTx n b N) (hV : zVW D) (e : zPC g0 n b N D k g) (h8 : D.1.1 < 8) (hz : zkq b n k ≠ 0) (t s : Int32) : ∃ g1, zb (fX3_begin (398 + 1 + 3 * (g 397 1).toNatClampNeg) s t g) (fun g12 => fX5_readLetter_L153 (nI (zkq b n k)) (398 + 1 + 3 * (g 397 1).toNatClampNeg) (fun g16 => zput g16 397 1 ((g16 397 1) + 1) (fun g17 => zb (fX9_step 391 g17) (fun g18 => some (1, g18)))) zFU 0 g12) = some (1, g1) ∧ zPC g0 n b N (zDm D (zBadd D.1 (zWr (zkf b n k) D.1.2.2.1 t s (zkq b n k)))) (k + 1) g1 := by
  have h1 : g 397 1 = nI D.1.1 := e.2.1.1.1
  have h2 : g 397 2 = D.1.2.2.1 := e.2.1.1.2.2.1
  obtain ⟨z1, z2, z3, z4, z5⟩ := zkq_row x e.1.2.2 hz
  have hN := x.le
  have h4 := x.b400
  rw [h1, nI_cl (by omega)]
  generalize hc : D.1.1 = c at *
  generalize hw : D.1.2.2.1 = w at *
  generalize hm : zkq b n k = m at *
  obtain ⟨g2, b1, b2, b3⟩ := c_begin (g := g) (h := 398 + 1 + 3 * c) t s
  have b2' : zCM g2 (398 + 1 + 3 * c) (zWr (zkf b n k) w t s 0) := b2 (zkf b n k) (fun _ => w)
  have loop : ∃ g3, fX5_readLetter_L153 (nI m) (398 + 1 + 3 * c) (fun g16 => zput g16 397 1 ((g16 397 1) + 1) (fun g17 => zb (fX9_step 391 g17) (fun g18 => some (1, g18)))) zFU 0 g2 = some (1, zset (zset g3 397 1 (nI (c + 1))) 391 6 (nI (k + 1))) ∧ zCM g3 (398 + 1 + 3 * c) (zWr (zkf b n k) w t s m) ∧ ∀ d, d ≠ 398 + 1 + 3 * c → d ≠ 398 + 1 + 3 * c + 1 → d ≠ 398 + 1 + 3 * c + 2 → g3 d = g d := by
    refine zL_I (fun j i (u : zM) => fX5_readLetter_L153 (nI m) (398 + 1 + 3 * c) _ j (nI i) u) (fun i u => zCM u (398 + 1 + 3 * c) (zWr (zkf b n k) w t s i) ∧ ∀ d, d ≠ 398 + 1 + 3 * c → d ≠ 398 + 1 + 3 * c + 1 → d ≠ 398 + 1 + 3 * c + 2 → u d = g d) m (fun y => ∃ g3, y = some (1, zset (zset g3 397 1 (nI (c + 1))) 391 6 (nI (k + 1))) ∧ zCM g3 (398 + 1 + 3 * c) (zWr (zkf b n k) w t s m) ∧ ∀ d, d ≠ 398 + 1 + 3 * c → d ≠ 398 + 1 + 3 * c + 1 → d ≠ 398 + 1 + 3 * c + 2 → g3 d = g d) g2 (by omega) ⟨b2', fun d h1 _ _ => b3 d h1⟩ (fun j i u hi hh => ?_) (fun j u hh => ?_)
    · obtain ⟨d1, d2⟩ := hh
      have eu : zCP u 391 n b N k := e.1.fr (fun d h3 h5 => d2 d (by omega) (by omega) (by omega))
      have w1 : u 397 2 = w := by rw [d2 397 (by omega) (by omega) (by omega)]; exact h2
      have hT := x.lt k z1
      have hlg : zlg b n (zT b n k) = m := by unfold zlg; rw [if_neg (by omega)]; exact z2.symm
      obtain ⟨s1, c1, c2, c3⟩ := c_add d1 (by show i < 24; omega) (zkf b n k i) w
      rw [zWr_add] at c2
      refine ⟨s1, ⟨c2, fun d h1 h2 h3 => by rw [c3 d h1 h2 h3]; exact d2 d h1 h2 h3⟩, ?_⟩
      show fX5_readLetter_L153 (nI m) (398 + 1 + 3 * c) _ (j + 1) (nI i) u = _
      rw [fX5_readLetter_L153, if_neg (by rw [nI_leI (by omega) (by omega)]; omega), c_kindIn x eu (by omega), if_pos (z5 i hi), zb_s, w1, show fX3_add (398 + 1 + 3 * c) (nI (b (zT b n k + i) - 97)) w u = some s1 from c1, zb_s, nI_1]
    · obtain ⟨d1, d2⟩ := hh
      have eu : zCP u 391 n b N k := e.1.fr (fun d h3 h5 => d2 d (by omega) (by omega) (by omega))
      have w1 : u 397 1 = nI c := by rw [d2 397 (by omega) (by omega) (by omega)]; exact h1
      refine ⟨u, ?_, d1, d2⟩
      show fX5_readLetter_L153 (nI m) (398 + 1 + 3 * c) _ (j + 1) (nI m) u = _
      rw [fX5_readLetter_L153, if_pos (Int32.le_refl _), zput_e, w1, nI_1, c_stp x (eu.set (by omega)) z1, zb_s]
  obtain ⟨g3, c1, c2, c3⟩ := loop
  refine ⟨_, by rw [b1, zb_s]; exact c1, ?_, ?_, fun d hd => ?_⟩
  · have e3 : zCP g3 391 n b N k := e.1.fr (fun d h3 h5 => c3 d (by omega) (by omega) (by omega))
    exact (e3.set (c := 397) (j := 1) (v := nI (c + 1)) (by omega)).go (show k + 1 ≤ N from z1)
  · refine e.2.1.bag (e.2.1.1.add' (by omega) ?_ ?_ (fun j hj => ?_) (fun d h5 h6 => ?_)) (fun d h5 h6 h7 => ?_)
    · rw [zs_miss (by omega), hc]; exact zs_hit ⟨rfl, rfl⟩
    · rw [hc]
      exact c2.fr (by rw [zs_cell (by omega), zs_cell (by omega)]) (by rw [zs_cell (by omega), zs_cell (by omega)]) (by rw [zs_cell (by omega), zs_cell (by omega)])
    · show (zset (zset g3 397 1 (nI (c + 1))) 391 6 (nI (k + 1))) 397 j = g 397 j
      rw [zs_miss (by omega), zs_miss (by omega), c3 397 (by omega) (by omega) (by omega)]
    · rw [hc] at h6
      rw [zs_cell (by omega), zs_cell (by omega), c3 d (by omega) (by omega) (by omega)]
    · rw [zs_cell (by omega), zs_cell (by omega), c3 d (by omega) (by omega) (by omega)]
  · rw [zs_cell (by omega), zs_cell (by omega), c3 d (by omega) (by omega) (by omega)]
    exact e.2.2 d hd
/-- the KINDS of the thing k, on the reference's side -/
theorem r_letter {g0 g : zM} {n N k : Nat} {b : Nat → Nat} {D : zWd} (x : zTx n b N) (hV : zVW D) (e : zPR g0 n b N D k g) (h8 : D.1.1 < 8) (t s : Int32) : ∃ g1, zb (fX12_lettersPass g) (fun g6 => zb (fX12_in ((g6 493 10) - (g6 493 12)) 1 24 g6) (fun r_7 => if r_7 = 0 then some (0, g6) else zb2 (fX12_begins s t g6) (fun r_9 g9 => fX12_readLetter_L82 r_9 zFU (g9 493 12) g9))) = some (if zkq b n k = 0 then 0 else 1, g1) ∧ g1 493 12 = nI (zT b n k) ∧ zPrf g0 g1 ∧ (zkq b n k ≠ 0 → zPR g0 n b N (zDm D (zBadd D.1 (zWr (zkf b n k) D.1.2.2.1 t s (zkq b n k)))) (k + 1) g1) := by
  have h4 := x.b400
  have hk := e.1.2.1
  have hTn := x.le_n hk
  obtain ⟨g6, a1, a2, a3⟩ := r_lp x e.1
  have ew := e.2.1.fp hV a2
  have ef := e.2.2.fp a2
  have hz := zre_le (b := b) (c := 1) (n - zT b n k) (zT b n k)
  rw [a1, zb_s, a3.2.2.1, a3.2.2.2, show nI (zre b 1 (n - zT b n k) (zT b n k)) - nI (zT b n k) = nI (zre b 1 (n - zT b n k) (zT b n k) - zT b n k) from pk_sub hz.1]
  have hin : ∀ M, M ≤ 400 → fX12_in (nI M) 1 24 g6 = some (if 1 ≤ M ∧ M ≤ 24 then 1 else 0) := by
    intro M hM
    unfold fX12_in
    by_cases q1 : M < 1
    · rw [if_pos (by rw [nL_lt (by omega) (by decide)]; exact q1), if_neg (by omega)]
    · rw [if_neg (by rw [nL_lt (by omega) (by decide)]; exact q1)]
      by_cases q2 : 24 < M
      · rw [if_pos (by rw [nL_gt (by omega) (by decide)]; exact q2), if_neg (by omega)]
      · rw [if_neg (by rw [nL_gt (by omega) (by decide)]; exact q2), if_pos (by omega)]
  rw [hin _ (by omega), zb_s]
  by_cases hr : 1 ≤ zre b 1 (n - zT b n k) (zT b n k) - zT b n k ∧ zre b 1 (n - zT b n k) (zT b n k) - zT b n k ≤ 24
  case neg =>
    have hq : zkq b n k = 0 := by
      by_cases q : zkq b n k = 0
      · exact q
      · exfalso
        obtain ⟨z1, z2, z3, z4, z5⟩ := zkq_row x hk q
        rcases zre_1 x hk with ⟨y1, y2, y3⟩ | ⟨y1, y2⟩
        · rw [y3] at hr; omega
        · exact y1 ⟨z1, z4⟩
    rw [if_neg hr, if_pos rfl, if_pos hq]
    exact ⟨g6, rfl, a3.2.2.1, ef, fun h => absurd hq h⟩
  rw [if_pos hr, if_neg (by decide)]
  rcases zre_1 x hk with ⟨y1, y2, y3⟩ | ⟨y1, y2⟩
  case inr => rw [y2] at hr; omega
  have hT := x.lt k y1
  have hte := zte_le (b := b) hT
  have pt := a3.2.2.2
  rw [y3] at hr pt
  obtain ⟨M, hM⟩ : ∃ M, M = zte b n (zT b n k) - zT b n k := ⟨_, rfl⟩
  rw [← hM] at hr
  have hlg : zlg b n (zT b n k) = M := by unfold zlg; rw [if_neg (by omega)]; exact hM.symm
  generalize hw : D.1.2.2.1 = w at *
  have z0 : g6 494 0 = nI D.1.1 := ew.1.1
  have z4 : g6 494 4 = w := by rw [← hw]; exact ew.1.2.2.1
  generalize hc : D.1.1 = c at *
  obtain ⟨g2, b1, b2, b3, b4, b5⟩ := r_beg (g := g6) (f := zkf b n k) (w := w) (t := t) (s := s) z0 h8
  rw [b1, zb2_s]
  have bg : g2 493 12 = nI (zT b n k) := by rw [b4 493 (by omega)]; exact a3.2.2.1
  rw [bg]
  have loop : (∃ g3, fX12_readLetter_L82 (nI c) zFU (nI (zT b n k)) g2 = some (1, g3) ∧ (∀ j, j < M → zkd (b (zT b n k + j)) = true) ∧ zRM g3 494 (36 + 53 * c) (zWr (zkf b n k) w t s M) ∧ (∀ d, d ≠ 494 → g3 d = g2 d) ∧ ∀ y, (y < 36 + 53 * c ∨ 36 + 53 * c + 53 ≤ y) → g3 494 y = g2 494 y) ∨ (∃ g3, fX12_readLetter_L82 (nI c) zFU (nI (zT b n k)) g2 = some (0, g3) ∧ (∃ j, j < M ∧ zkd (b (zT b n k + j)) = false) ∧ ∀ d, d ≠ 494 → g3 d = g2 d) := by
    refine zL_Q0 (fun m i (u : zM) => fX12_readLetter_L82 (nI c) m (nI (zT b n k + i)) u) (fun i u => (∀ j, j < i → zkd (b (zT b n k + j)) = true) ∧ zRM u 494 (36 + 53 * c) (zWr (zkf b n k) w t s i) ∧ (∀ d, d ≠ 494 → u d = g2 d) ∧ ∀ y, (y < 36 + 53 * c ∨ 36 + 53 * c + 53 ≤ y) → u 494 y = g2 494 y) M (fun z => (∃ g3, z = some (1, g3) ∧ (∀ j, j < M → zkd (b (zT b n k + j)) = true) ∧ zRM g3 494 (36 + 53 * c) (zWr (zkf b n k) w t s M) ∧ (∀ d, d ≠ 494 → g3 d = g2 d) ∧ ∀ y, (y < 36 + 53 * c ∨ 36 + 53 * c + 53 ≤ y) → g3 494 y = g2 494 y) ∨ (∃ g3, z = some (0, g3) ∧ (∃ j, j < M ∧ zkd (b (zT b n k + j)) = false) ∧ ∀ d, d ≠ 494 → g3 d = g2 d)) g2 (by omega) ⟨fun j hj => absurd hj (Nat.not_lt_zero _), b2, fun _ _ => rfl, fun _ _ => rfl⟩ (fun m i u hi hh => ?_) (fun m u hh => ?_)
    · obtain ⟨d0, d1, d2, d3⟩ := hh
      have p1 : u 493 10 = nI (zte b n (zT b n k)) := by rw [d2 493 (by omega), b4 493 (by omega)]; exact pt
      have w1 : u 494 4 = w := by rw [d3 4 (by omega), b5 4 (by omega) (by omega)]; exact z4
      have w2 : u 499 (zT b n k + i) = zsb (b (zT b n k + i)) := by rw [d2 499 (by omega), b4 499 (by omega)]; exact a3.1.2 _ (by omega)
      have base : fX12_readLetter_L82 (nI c) (m + 1) (nI (zT b n k + i)) u = if zkd (b (zT b n k + i)) = true then zb (fX12_comes (nI c) (nI (b (zT b n k + i) - 97)) u) (fun g16 => fX12_readLetter_L82 (nI c) m (nI (zT b n k + i + 1)) g16) else some (0, u) := by
        rw [fX12_readLetter_L82, p1, if_neg (by rw [nI_leI (by omega) (by omega)]; omega), zchk_n (by omega) (by omega), zchk_n (by omega) (by omega), nI_cl (by omega), w2, r_kindBy (x.w.2 _ (by omega)), zb_s, zb_s]
        by_cases q : zkd (b (zT b n k + i)) = true
        · have hb := x.w.2 (zT b n k + i) (by omega)
          rw [if_pos q, if_pos (by rw [nL_ge (by omega) (by decide)]; omega), if_pos q, nI_1]
        · rw [if_neg q, if_neg (by decide), if_neg q]
      by_cases q : zkd (b (zT b n k + i)) = true
      · right
        obtain ⟨s1, c1, c2, c3, c4⟩ := r_come1 d1 (by omega) h8 w1
        refine ⟨s1, ⟨fun j hj => ?_, c2, fun d hd => by rw [c3 d hd]; exact d2 d hd, fun y hy => by rw [c4 y hy]; exact d3 y hy⟩, ?_⟩
        · by_cases q2 : j = i
          · subst q2; exact q
          · exact d0 j (by omega)
        · show fX12_readLetter_L82 (nI c) (m + 1) (nI (zT b n k + i)) u = _
          rw [base, if_pos q, show fX12_comes (nI c) (nI (b (zT b n k + i) - 97)) u = some s1 from c1, zb_s]
          rfl
      · left
        right
        refine ⟨u, ?_, ⟨i, hi, by simpa using q⟩, d2⟩
        show fX12_readLetter_L82 (nI c) (m + 1) (nI (zT b n k + i)) u = _
        rw [base, if_neg q]
    · obtain ⟨d0, d1, d2, d3⟩ := hh
      have p1 : u 493 10 = nI (zte b n (zT b n k)) := by rw [d2 493 (by omega), b4 493 (by omega)]; exact pt
      left
      refine ⟨u, ?_, d0, d1, d2, d3⟩
      show fX12_readLetter_L82 (nI c) (m + 1) (nI (zT b n k + M)) u = _
      rw [fX12_readLetter_L82, p1, if_pos (by rw [nI_leI (by omega) (by omega)]; omega)]
  rcases loop with ⟨g3, c1, c2, c3, c4, c5⟩ | ⟨g3, c1, ⟨j, c2, c3⟩, c4⟩
  · have hq : zkq b n k = M := by
      unfold zkq
      rw [hlg, zff_none (fun j hj => by rw [c2 j hj]; rfl)]
      exact if_pos ⟨rfl, hr.2⟩
    have fp : zPrf g0 g3 := ⟨fun d h1 h2 => by rw [c4 d h2, b4 d h2]; exact ef.1 d h1 h2, fun j h1 h2 => by rw [c4 493 (by omega), b4 493 (by omega)]; exact ef.2 j h1 h2⟩
    refine ⟨g3, by rw [c1, if_neg (by omega)], by rw [c4 493 (by omega)]; exact bg, fp, fun _ => ⟨?_, ?_, fp⟩⟩
    · have : zRP g6 n b N (k + 1) := a3.rp x ⟨y1, y2⟩
      exact this.fr (by rw [c4 493 (by omega), b4 493 (by omega)]) (by rw [c4 493 (by omega), b4 493 (by omega)]) (by rw [c4 499 (by omega), b4 499 (by omega)])
    · rw [hq]
      refine ew.bag hV (zRB.add ew.1 hV.1 (by omega) ?_ ?_ (fun y h1 h2 => ?_)) (fun y h1 h2 h3 h4 h5 h6 => ?_)
      · rw [c5 0 (by omega), hc]; exact b3
      · rw [hc]; exact c3
      · rw [hc] at h2
        rw [c5 y (by omega), b5 y h1 (by omega)]
      · rw [c5 y (by omega), b5 y h2 (by omega)]
  · have hq : zkq b n k = 0 := by
      by_cases q : zkq b n k = 0
      · exact q
      · exfalso
        obtain ⟨z1, z2, z3, z4', z5⟩ := zkq_row x hk q
        have := z5 j (by omega)
        rw [c3] at this
        exact absurd this (by decide)
    exact ⟨g3, by rw [c1, if_pos hq], by rw [c4 493 (by omega)]; exact bg, ⟨fun d h1 h2 => by rw [c4 d h2, b4 d h2]; exact ef.1 d h1 h2, fun j h1 h2 => by rw [c4 493 (by omega), b4 493 (by omega)]; exact ef.2 j h1 h2⟩, fun h => absurd hq h⟩
