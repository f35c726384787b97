theorem p_err {n N k t : Nat} {b : Nat → Nat} {D : zWd} {f fm : zM → Option (Int32 × zM)} (h1 : ∀ g0 g, zPC g0 n b N D k g → zOC g0 n b N (.error t) (f g)) (h2 : ∀ g0 g, zPT g0 n b N D k g → zOR g0 n b N (.error t) (fm g)) : zRd n b N k D f fm := ⟨.error t, .err, h1, h2⟩
def zBwk (B : zB') (w : Int32) : zB' := (B.1, B.2.1, w, B.2.2.2)
theorem p_week {n N k : Nat} {b : Nat → Nat} {D : zWd} (x : zTx n b N) (hV : zVW D) (hk : k < N) (hl : zso (b (zT b n k)) = 1) : zRd n b N k D fX5_readWeek (fun g => zchk 4 2158 (zb2 (fX12_readNumber 4 (g 494 (4 : Int32).toNatClampNeg) 999 g) (fun r_16 g16 => if r_16 = 0 then some (0, g16) else some (1, g16)))) := by
  have cw : ∀ {g0 g j}, zPC g0 n b N D j g → g 397 2 = D.1.2.2.1 := fun e => e.2.1.1.2.2.1
  have rw' : ∀ {g0 g}, zPT g0 n b N D k g → g 494 (4 : Int32).toNatClampNeg = D.1.2.2.1 := fun e => by
    have := e.2.1.1.2.2.1
    exact this
  by_cases q : ztn D.1.2.2.1 999 (zck b n (k + 1)) = true
  · have h9 := ztn_lt x (show k + 1 ≤ N from hk) q
    refine ⟨.ok (k + 2, zDm D (zBwk D.1 (nI (zck b n (k + 1))))), .ok ⟨hV.1, hV.2⟩ (by omega) (by omega), fun g0 g e => ?_, fun g0 g e => ?_⟩
    · have e1 := e.go hV (show k + 1 ≤ N from hk)
      have e2 := e1.go hV (show k + 2 ≤ N from h9.1)
      refine ⟨zset (zset (zset g 391 6 (nI (k + 1))) 391 6 (nI (k + 1 + 1))) 397 2 (nI (zck b n (k + 1))), ?_, e2.1.set (by omega), e2.2.1.bag ?_ (fun c h1 h2 h3 => zs_cell (by omega)), e2.2.2.set (by omega) (by omega)⟩
      · unfold fX5_readWeek
        rw [c_stp x e.1 hk, zb_s, cw e1, c_takeNumber x e1.1, if_pos q, zb2_s, if_neg (by rw [nI_m1 (by omega)]; exact id), zput_e]
      · obtain ⟨d1, d2, d3, d4, d5⟩ := e2.2.1.1
        exact ⟨by rw [zs_miss (by omega)]; exact d1, fun l hl => (d2 l hl).fr (zs_cell (by omega)) (zs_cell (by omega)) (zs_cell (by omega)), zs_hit ⟨rfl, rfl⟩, by rw [zs_miss (by omega)]; exact d4, by rw [zs_miss (by omega)]; exact d5⟩
    · obtain ⟨g1, v, a1, a2, a3, a4⟩ := r_readNumber x (e.1.rp x ⟨hk, hl⟩) (a := 4) (by omega) (v1 := D.1.2.2.1) (v2 := 999)
      obtain ⟨rfl, b3⟩ := a3 q
      rw [if_pos q] at a1
      refine ⟨zset g1 494 4 (nI (zck b n (k + 1))), ?_, b3.set, (e.2.1.fp hV a2).bag hV ?_ (fun k h1 h2 h3 h4 h5 h6 => zs_miss (by omega)), (e.2.2.fp a2).set⟩
      · show zchk 4 2158 (zb2 (fX12_readNumber 4 (g 494 (4 : Int32).toNatClampNeg) 999 g) _) = _
        rw [rw' e]
        refine (zchk_l (n := 4) (by decide) (by decide)).trans ?_
        rw [show fX12_readNumber 4 D.1.2.2.1 999 g = _ from a1, zb2_s, if_neg (by decide)]
      · obtain ⟨d1, d2, d3, d4, d5⟩ := (e.2.1.fp hV a2).1
        refine ⟨by rw [zs_miss (by omega)]; exact d1, fun l hl => (d2 l hl).fr (fun k h1 h2 => zs_miss (by omega)) (hV.1.2 l hl).2.1, zs_hit ⟨rfl, rfl⟩, by rw [zs_miss (by omega)]; exact d4, by rw [zs_miss (by omega)]; exact d5⟩
  · refine p_err (t := zT b n (k + 1)) (fun g0 g e => ?_) (fun g0 g e => ?_)
    · have e1 := e.go hV (show k + 1 ≤ N from hk)
      refine ⟨_, ?_, zs_hit ⟨rfl, rfl⟩, e1.er⟩
      unfold fX5_readWeek
      rw [c_stp x e.1 hk, zb_s, cw e1, c_takeNumber x e1.1, if_neg q, zb2_s, if_pos rfl]
    · obtain ⟨g1, v, a1, a2, a3, a4⟩ := r_readNumber x (e.1.rp x ⟨hk, hl⟩) (a := 4) (by omega) (v1 := D.1.2.2.1) (v2 := 999)
      rw [if_neg q] at a1
      refine ⟨zset g1 494 4 v, ?_, by rw [zs_cell (by omega)]; exact a4, (e.2.2.fp a2).set⟩
      show zchk 4 2158 (zb2 (fX12_readNumber 4 (g 494 (4 : Int32).toNatClampNeg) 999 g) _) = _
      rw [rw' e]
      refine (zchk_l (n := 4) (by decide) (by decide)).trans ?_
      rw [show fX12_readNumber 4 D.1.2.2.1 999 g = _ from a1, zb2_s, if_pos rfl]
theorem zCB.set' {g g1 : zM} {h : Nat} {B : zB'} (e : zCB g h B) {l : Nat} {L : zL} (h8 : B.1 ≤ 8) (hl : l < B.1) (hL : zCM g1 (h + 1 + 1 + 3 * l) L) (f : ∀ c, h ≤ c → c < h + 26 → (c < h + 1 + 1 + 3 * l ∨ h + 1 + 1 + 3 * l + 3 ≤ c) → g1 c = g c) : zCB g1 h (zBset B l L) := by
  obtain ⟨e1, e2, e3, e4, e5⟩ := e
  have f3 := f h (by omega) (by omega) (by omega)
  refine ⟨by rw [f3]; exact e1, fun m hm => ?_, by rw [f3]; exact e3, by rw [f3]; exact e4, by rw [f3]; exact e5⟩
  have hm' : m < B.1 := hm
  show zCM g1 (h + 1 + 1 + 3 * m) (zup B.2.1 l L m)
  by_cases q : m = l
  · rw [zup_hit q, q]; exact hL
  · rw [zup_miss q]
    exact (e2 m hm').fr (f _ (by omega) (by omega) (by omega)) (f _ (by omega) (by omega) (by omega)) (f _ (by omega) (by omega) (by omega))
theorem ztn_cnt {n N k c : Nat} {b : Nat → Nat} (x : zTx n b N) (hk : k ≤ N) (hc : c ≤ 8) (h : ztn 0 (nI c - 1) (zck b n k) = true) : zck b n k < c := by
  have h9 := (ztn_lt x hk h).2
  unfold ztn at h
  simp only [Bool.and_eq_true, decide_eq_true_eq] at h
  have h2 := h.2
  cases c with
  | zero =>
    exfalso
    have : nI 0 - 1 = -1 := by decide
    rw [this] at h2
    exact (show ¬ nI (zck b n k) < 0 from nI_pos (by omega)) (Int32.lt_of_le_of_lt h2 (by decide))
  | succ c =>
    rw [show nI (c + 1) - 1 = nI c from pk_sub (show 1 ≤ c + 1 from Nat.le_add_left 1 c), nI_leI (by omega) (by omega)] at h2
    omega
/-- open (3) or hot (4) of a LETTER told -/
def zLf (w : Bool) (L : zL) : zL := if w = true then zLh L true else zLo L true
theorem zLf_W {w : Bool} {L : zL} (h : zLW L) : zLW (zLf w L) := by
  unfold zLf
  split <;> exact h
theorem p_state {n N k : Nat} {b : Nat → Nat} {D : zWd} (x : zTx n b N) (hV : zVW D) (hk : k < N) (hl : zso (b (zT b n k)) = 1) (w : Bool) : zRd n b N k D (fX5_readState (if w = true then 1 else 0)) (fX12_readOf (if w = true then 4 else 3)) := by
  have h8 := hV.1.1
  have cw : ∀ {g0 g j}, zPC g0 n b N D j g → g 397 1 = nI D.1.1 := fun e => e.2.1.1.1
  have rl : ∀ {g0 g}, zPT g0 n b N D k g → fX12_letters g = some (nI D.1.1) := fun e => by
    have h0 := e.2.1.1.1
    unfold fX12_letters
    simp (disch := omega) only [nL_lt, nL_gt, nL_le, nL_ge, nL_eq, nL_qe, nI_ltI, nI_leI, nI_eq, nL_add, nL_dda, nI_add, nL_sub, pk_sub, nL_mul, nL_clamp, nI_cl, zchk_n, zchk_l, zb_s, zb2_s, zb3_s, zb3_e, zput_e, zjoin_e, zs_hit, zs_miss, nle_t, nle_f, nlt_t, nlt_f, neq_t, neq_f, ↓reduceIte, and_self, and_true, true_and, and_false, false_and, not_true_eq_false, not_false_eq_true, Nat.add_zero, h0]
  by_cases q : ztn 0 (nI D.1.1 - 1) (zck b n (k + 1)) = true
  · have h9 := ztn_lt x (show k + 1 ≤ N from hk) q
    have hc := ztn_cnt x (show k + 1 ≤ N from hk) h8 q
    generalize hcc : zck b n (k + 1) = c at *
    refine ⟨.ok (k + 2, zDm D (zBset D.1 c (zLf w (D.1.2.1 c)))), .ok ⟨zBset_W hV.1 (zLf_W (hV.1.2 c hc)), hV.2⟩ (by omega) (by omega), fun g0 g e => ?_, fun g0 g e => ?_⟩
    · have e1 := e.go hV (show k + 1 ≤ N from hk)
      have e2 := e1.go hV (show k + 2 ≤ N from h9.1)
      have em := e2.2.1.1.2.1 c hc
      obtain ⟨m1, m2, m3, m4, m5, m6, m7⟩ := em
      refine ⟨zset (zset (zset g 391 6 (nI (k + 1))) 391 6 (nI (k + 1 + 1))) (398 + 1 + 3 * c) (if w = true then 6 else 5) 1, ?_, e2.1.set (by omega), e2.2.1.bag (e2.2.1.1.set' h8 hc ?_ (fun d h1 h2 h3 => zs_cell (by omega))) (fun d h1 h2 h3 => zs_cell (by omega)), e2.2.2.set (by omega) (by omega)⟩
      · unfold fX5_readState
        rw [c_stp x e.1 hk, zb_s, cw e1, c_takeNumber x e1.1, hcc, if_pos q, zb2_s, if_neg (nI_pos (by omega)), cw e2, if_pos (by rw [nI_ltI (by omega) (by omega)]; exact hc), zchk_n (by omega) (by omega), zchk_n (by omega) (by omega), nI_cl (by omega)]
        cases w
        · simp only [Bool.false_eq_true, ↓reduceIte]
          rfl
        · simp only [↓reduceIte]
          rw [if_neg (by decide)]
          rfl
      · cases w <;> simp only [Bool.false_eq_true, ↓reduceIte]
        · refine ⟨by rw [zs_miss (by omega)]; exact m1, fun i hi => by rw [zs_miss (by omega)]; exact m2 i hi, fun i hi => by rw [zs_miss (by omega)]; exact m3 i hi, by rw [zs_miss (by omega)]; exact m4, by rw [zs_miss (by omega)]; exact m5, zs_hit ⟨by omega, rfl⟩, by rw [zs_miss (by omega)]; exact m7⟩
        · refine ⟨by rw [zs_miss (by omega)]; exact m1, fun i hi => by rw [zs_miss (by omega)]; exact m2 i hi, fun i hi => by rw [zs_miss (by omega)]; exact m3 i hi, by rw [zs_miss (by omega)]; exact m4, by rw [zs_miss (by omega)]; exact m5, by rw [zs_miss (by omega)]; exact m6, zs_hit ⟨by omega, rfl⟩⟩
    · obtain ⟨g1, a1, a2, a3, a4⟩ := r_number x (e.1.rp x ⟨hk, hl⟩) (v1 := 0) (v2 := nI D.1.1 - 1)
      rw [hcc] at a1 a3
      rw [if_pos q] at a1
      have em := (e.2.1.fp hV a2).1.2.1 c hc
      rw [Nat.zero_add] at em
      obtain ⟨m1, m2, m3, m4, m5, m6, m7⟩ := em
      refine ⟨zset g1 494 (36 + 53 * c + (if w = true then 4 else 3)) 1, ?_, (a3 q).set, (e.2.1.fp hV a2).bag hV ((e.2.1.fp hV a2).1.set hV.1 hc ?_ (fun j h1 h2 => zs_miss (by split <;> omega))) (fun j h1 h2 h3 h4 h5 h6 => zs_miss (by split <;> omega)), (e.2.2.fp a2).set⟩
      · unfold fX12_readOf fX12_at
        rw [rl e, zb_s, a1, zb2_s, if_neg (nI_pos (by omega)), zb_s]
        cases w <;> simp only [Bool.false_eq_true, ↓reduceIte]
        · simp (disch := omega) only [nL_lt, nL_gt, nL_le, nL_ge, nL_eq, nL_qe, nI_ltI, nI_leI, nI_eq, nL_add, nL_dda, nI_add, nL_sub, pk_sub, nL_mul, nL_clamp, nI_cl, zchk_n, zchk_l, zb_s, zb2_s, zb3_s, zb3_e, zput_e, zjoin_e, zs_hit, zs_miss, nle_t, nle_f, nlt_t, nlt_f, neq_t, neq_f, ↓reduceIte, and_self, and_true, true_and, and_false, false_and, not_true_eq_false, not_false_eq_true, Nat.add_zero]
        · simp (disch := omega) only [nL_lt, nL_gt, nL_le, nL_ge, nL_eq, nL_qe, nI_ltI, nI_leI, nI_eq, nL_add, nL_dda, nI_add, nL_sub, pk_sub, nL_mul, nL_clamp, nI_cl, zchk_n, zchk_l, zb_s, zb2_s, zb3_s, zb3_e, zput_e, zjoin_e, zs_hit, zs_miss, nle_t, nle_f, nlt_t, nlt_f, neq_t, neq_f, ↓reduceIte, and_self, and_true, true_and, and_false, false_and, not_true_eq_false, not_false_eq_true, Nat.add_zero]
      · cases w <;> simp only [Bool.false_eq_true, ↓reduceIte]
        · refine ⟨by rw [zs_miss (by omega)]; exact m1, fun i hi => by rw [zs_miss (by omega)]; exact m2 i hi, fun i hi => by rw [zs_miss (by omega)]; exact m3 i hi, by rw [zs_miss (by omega)]; exact m4, by rw [zs_miss (by omega)]; exact m5, zs_hit ⟨rfl, rfl⟩, by rw [zs_miss (by omega)]; exact m7⟩
        · refine ⟨by rw [zs_miss (by omega)]; exact m1, fun i hi => by rw [zs_miss (by omega)]; exact m2 i hi, fun i hi => by rw [zs_miss (by omega)]; exact m3 i hi, by rw [zs_miss (by omega)]; exact m4, by rw [zs_miss (by omega)]; exact m5, by rw [zs_miss (by omega)]; exact m6, zs_hit ⟨rfl, rfl⟩⟩
  · refine p_err (t := zT b n (k + 1)) (fun g0 g e => ?_) (fun g0 g e => ?_)
    · have e1 := e.go hV (show k + 1 ≤ N from hk)
      refine ⟨_, ?_, zs_hit ⟨rfl, rfl⟩, e1.er⟩
      unfold fX5_readState
      rw [c_stp x e.1 hk, zb_s, cw e1, c_takeNumber x e1.1, if_neg q, zb2_s, if_pos (by decide)]
    · obtain ⟨g1, a1, a2, a3, a4⟩ := r_number x (e.1.rp x ⟨hk, hl⟩) (v1 := 0) (v2 := nI D.1.1 - 1)
      refine ⟨g1, ?_, a4, e.2.2.fp a2⟩
      unfold fX12_readOf
      rw [rl e, zb_s, a1, if_neg q, zb2_s, if_pos (by decide), if_pos (by decide)]
