/-! conditions in a text of THE LAW: depth by depth -/
theorem p_atom {n N k d : Nat} {b : Nat → Nat} {C : List Nat} (x : zTx n b N) {E A : Int32 → zM → Option (Int32 × zM)} {G B : zM → Option (Int32 × zM)} (hk : k ≤ N) (hC : C.length < k) (hd : d ≤ 6) (hE : d < 6 → ∀ k C, k ≤ N → C.length < k → zKs n b N k C (d + 1) zPt (E (nI (d + 1))) G) (hA : d < 6 → ∀ k C, k ≤ N → C.length < k → zKs n b N k C (d + 1) zPt (A (nI (d + 1))) B) : zKs n b N k C d zPt (fX2_readAtom E A (nI d)) (fX12_readAtom G B) := by
  have h4 := x.b400
  have hN := x.le
  have hb := zcd_big x hk
  have hd6 : ((6 : Int32) ≤ nI d) = (6 ≤ d) := propext (nL_ge (by omega) (by decide))
  have hr6 : (nI d = 6) = (d = 6) := propext (nL_eq (by omega) (by decide))
  by_cases h8 : zck b n k = 1000 + 8
  · have hkN := (zck_let x hk (by omega) h8).1
    have n40 : ¬ zck b n k = 1100 + 40 := by omega
    have ref0 : ∀ g0 g, zKR g0 n b N C d k g → ∃ g3, zKR g0 n b N C d (k + 1) g3 ∧ g3 493 12 = nI (zT b n k) ∧ fX12_readAtom G B g = if d = 6 then some (0, g3) else zb2 (B (zset g3 493 13 (nI (d + 1)))) (fun r_21 g21 => if r_21 = 0 then some (0, g21) else zput g21 493 13 ((g21 493 13) - 1) (fun g23 => zb (fX12_emits 12 0 g23) (fun g24 => some (1, g24)))) := by
      intro g0 g e
      obtain ⟨g1, a1, a2, a3, a4, a5⟩ := r_sign x e.1 (c := 40) (by decide) (by omega)
      obtain ⟨g3, c1, c2, c3, c4, c5⟩ := r_passes x (a4 n40) s31
      have e3 := e.fp (a2.trans c2) (c3 h8)
      refine ⟨g3, e3, c5, ?_⟩
      unfold fX12_readAtom
      rw [show fX12_sign 40 g = _ from a1, if_neg n40, zb2_s, if_pos rfl, c1, if_pos h8, zb2_s, if_neg (by decide), e3.2.2.1]
      simp only [hr6, zput_e, nI_1]
    by_cases q6 : d = 6
    · refine ⟨.error (zT b n k), .err, fun g0 g e => ?_, fun g0 g e => ?_⟩
      · refine ⟨_, ?_, zs_hit ⟨rfl, rfl⟩, e.er⟩
        unfold fX2_readAtom
        rw [c_code x e.1, zb_s, zjoin_e, h8, if_pos (by decide), if_pos (by rw [hd6]; omega), c_fail x e.1, zb2_s, zbo_0]
      · obtain ⟨g3, a1, a2, a3⟩ := ref0 g0 g e
        exact ⟨g3, a3.trans (if_pos q6), a2, a1.2.2.2⟩
    · obtain ⟨o, l1, l2, l3⟩ := hA (by omega) (k + 1) C hkN (by omega)
      have cl0 : ∀ g0 g, zKC g0 n b N C k g → ∃ g1, zKC g0 n b N C (k + 1) g1 ∧ fX2_readAtom E A (nI d) g = zb2 (zb2 (A (nI (d + 1)) g1) (fun r_3 g3 => if r_3 = 0 then some (0, g3) else zb (fX1_addCode 439 1008 g3) (fun g5 => some (1, g5)))) (fun r_6 g6 => zbo r_6 (some (r_6, g6))) := by
        intro g0 g e
        refine ⟨_, e.go hkN, ?_⟩
        unfold fX2_readAtom fX2_readInner
        rw [c_code x e.1, zb_s, zjoin_e, h8, if_pos (by decide), if_neg (by rw [hd6]; omega), c_stp x e.1 hkN, zb_s, if_neg (by decide), nI_1]
      cases o with
      | error t =>
        refine ⟨.error t, .err, fun g0 g e => ?_, fun g0 g e => ?_⟩
        · obtain ⟨g1, a1, a2⟩ := cl0 g0 g e
          obtain ⟨g2, c1, c2, c3⟩ := l2 g0 g1 a1
          refine ⟨g2, ?_, c2, c3⟩
          rw [a2, c1, zb2_s, if_pos rfl, zb2_s, zbo_0]
        · obtain ⟨g3, a1, a2, a3⟩ := ref0 g0 g e
          obtain ⟨g2, c1, c2, c3⟩ := l3 g0 _ a1.dep
          refine ⟨g2, ?_, c2, c3⟩
          rw [a3, if_neg q6, c1, zb2_s, if_pos rfl]
      | ok q =>
        obtain ⟨k', l⟩ := q
        obtain ⟨w1, w2, w3⟩ := l1 (k', l) rfl
        have w1 : k' ≤ N := w1
        have w2 : l.length + (k + 1) ≤ k' := w2
        have w3 : zPt l := w3
        have hl : (C ++ l).length < 400 := by rw [List.length_append]; omega
        refine ⟨.ok (k', l ++ [1008]), .ok w1 (by rw [List.length_append]; show l.length + 1 + k ≤ k'; omega) (fun s => ?_), fun g0 g e => ?_, fun g0 g e => ?_⟩
        · rw [ztc_app _ _ _ _ (w3 s)]
          exact ztc_one rfl
        · obtain ⟨g1, a1, a2⟩ := cl0 g0 g e
          obtain ⟨g2, c1, c2⟩ := l2 g0 g1 a1
          have c2 : zKC g0 n b N (C ++ l) k' g2 := c2
          obtain ⟨g3, d1, d2⟩ := c_emit c2 hl 1008
          refine ⟨g3, ?_, ?_⟩
          · rw [a2, c1, zb2_s, if_neg (by decide), show fX1_addCode 439 1008 g2 = _ from d1, zb_s, zb2_s, zbo_1]
          · show zKC g0 n b N (C ++ (l ++ [1008])) k' g3
            rw [← List.append_assoc]
            exact d2
        · obtain ⟨g3, a1, a2, a3⟩ := ref0 g0 g e
          obtain ⟨g2, c1, c2⟩ := l3 g0 _ a1.dep
          have c2 : zKR g0 n b N (C ++ l) (d + 1) k' g2 := c2
          obtain ⟨g4, d1, d2⟩ := r_emit (c2.dep (v := d)) hl 1008
          refine ⟨g4, ?_, ?_⟩
          · rw [a3, if_neg q6, c1, zb2_s, if_neg (by decide), zput_e, c2.2.2.1, show nI (d + 1) - 1 = nI d from pk_sub (show 1 ≤ d + 1 from Nat.le_add_left 1 d), show fX12_emits 12 0 (zset g2 493 13 (nI d)) = _ from d1, zb_s]
          · show zKR g0 n b N (C ++ (l ++ [1008])) d k' g4
            rw [← List.append_assoc]
            exact d2
  by_cases h40 : zck b n k = 1100 + 40
  · have hkN := ((zck_sign x hk (c := 40) (by decide)).mp h40).1
    have ref0 : ∀ g0 g, zKR g0 n b N C d k g → ∃ g3, zKR g0 n b N C d (k + 1) g3 ∧ g3 493 12 = nI (zT b n k) ∧ fX12_readAtom G B g = if d = 6 then some (0, g3) else zb2 (G (zset g3 493 13 (nI (d + 1)))) (fun r_27 g27 => if r_27 = 0 then some (0, g27) else zput g27 493 13 ((g27 493 13) - 1) (fun g29 => zb2 (fX12_sign 41 g29) (fun r_30 g30 => zbo r_30 (some (r_30, g30))))) := by
      intro g0 g e
      obtain ⟨g1, a1, a2, a3, a4, a5⟩ := r_sign x e.1 (c := 40) (by decide) (by omega)
      have e3 := e.fp a2 (a3 h40)
      refine ⟨g1, e3, a5, ?_⟩
      unfold fX12_readAtom
      rw [show fX12_sign 40 g = _ from a1, if_pos h40, zb2_s, if_neg (by decide), e3.2.2.1]
      simp only [hr6, zput_e, nI_1]
    by_cases q6 : d = 6
    · refine ⟨.error (zT b n k), .err, fun g0 g e => ?_, fun g0 g e => ?_⟩
      · refine ⟨_, ?_, zs_hit ⟨rfl, rfl⟩, e.er⟩
        unfold fX2_readAtom
        rw [c_code x e.1, zb_s, zjoin_e, h40, if_neg (by decide), if_pos (by decide), if_pos (by rw [hd6]; omega), c_fail x e.1, zb2_s, zbo_0]
      · obtain ⟨g3, a1, a2, a3⟩ := ref0 g0 g e
        exact ⟨g3, a3.trans (if_pos q6), a2, a1.2.2.2⟩
    · obtain ⟨o, l1, l2, l3⟩ := hE (by omega) (k + 1) C hkN (by omega)
      have cl0 : ∀ g0 g, zKC g0 n b N C k g → ∃ g1, zKC g0 n b N C (k + 1) g1 ∧ fX2_readAtom E A (nI d) g = zb2 (zb2 (E (nI (d + 1)) g1) (fun r_6 g6 => if r_6 = 0 then some (0, g6) else zb2 (fX9_pass 434 1141 g6) (fun r_8 g8 => if r_8 = 0 then some (0, g8) else some (1, g8)))) (fun r_6 g6 => zbo r_6 (some (r_6, g6))) := by
        intro g0 g e
        refine ⟨_, e.go hkN, ?_⟩
        unfold fX2_readAtom fX2_readInner
        rw [c_code x e.1, zb_s, zjoin_e, h40, if_neg (by decide), if_pos (by decide), if_neg (by rw [hd6]; omega), c_stp x e.1 hkN, zb_s, if_pos (by decide), nI_1]
      cases o with
      | error t =>
        refine ⟨.error t, .err, fun g0 g e => ?_, fun g0 g e => ?_⟩
        · obtain ⟨g1, a1, a2⟩ := cl0 g0 g e
          obtain ⟨g2, c1, c2, c3⟩ := l2 g0 g1 a1
          refine ⟨g2, ?_, c2, c3⟩
          rw [a2, c1, zb2_s, if_pos rfl, zb2_s, zbo_0]
        · obtain ⟨g3, a1, a2, a3⟩ := ref0 g0 g e
          obtain ⟨g2, c1, c2, c3⟩ := l3 g0 _ a1.dep
          refine ⟨g2, ?_, c2, c3⟩
          rw [a3, if_neg q6, c1, zb2_s, if_pos rfl]
      | ok q =>
        obtain ⟨k', l⟩ := q
        obtain ⟨w1, w2, w3⟩ := l1 (k', l) rfl
        have w1 : k' ≤ N := w1
        have w2 : l.length + (k + 1) ≤ k' := w2
        have w3 : zPt l := w3
        have cp : ∀ g0 g6, zKC g0 n b N (C ++ l) k' g6 → fX9_pass 434 1141 g6 = _ := fun g0 g6 e6 => c_pass x e6.1 (c := 1141) (by omega) (by omega)
        by_cases q41 : zck b n k' = 1100 + 41
        · have hk' := ((zck_sign x w1 (c := 41) (by decide)).mp q41).1
          refine ⟨.ok (k' + 1, l), .ok hk' (by omega) w3, fun g0 g e => ?_, fun g0 g e => ?_⟩
          · obtain ⟨g1, a1, a2⟩ := cl0 g0 g e
            obtain ⟨g2, c1, c2⟩ := l2 g0 g1 a1
            have c2 : zKC g0 n b N (C ++ l) k' g2 := c2
            refine ⟨_, ?_, c2.go hk'⟩
            rw [a2, c1, zb2_s, if_neg (by decide), cp g0 g2 c2, if_pos q41, zb2_s, if_neg (by decide), zb2_s, zbo_1]
          · obtain ⟨g3, a1, a2, a3⟩ := ref0 g0 g e
            obtain ⟨g2, c1, c2⟩ := l3 g0 _ a1.dep
            have c2 : zKR g0 n b N (C ++ l) (d + 1) k' g2 := c2
            have e4 := c2.dep (v := d)
            obtain ⟨g4, d1, d2, d3, d4, d5⟩ := r_sign x e4.1 (c := 41) (by decide) (by omega)
            refine ⟨g4, ?_, e4.fp d2 (d3 q41)⟩
            rw [a3, if_neg q6, c1, zb2_s, if_neg (by decide), zput_e, c2.2.2.1, show nI (d + 1) - 1 = nI d from pk_sub (show 1 ≤ d + 1 from Nat.le_add_left 1 d), show fX12_sign 41 (zset g2 493 13 (nI d)) = _ from d1, if_pos q41, zb2_s, zbo_1]
        · refine ⟨.error (zT b n k'), .err, fun g0 g e => ?_, fun g0 g e => ?_⟩
          · obtain ⟨g1, a1, a2⟩ := cl0 g0 g e
            obtain ⟨g2, c1, c2⟩ := l2 g0 g1 a1
            have c2 : zKC g0 n b N (C ++ l) k' g2 := c2
            refine ⟨_, ?_, zs_hit ⟨rfl, rfl⟩, c2.er⟩
            rw [a2, c1, zb2_s, if_neg (by decide), cp g0 g2 c2, if_neg q41, zb2_s, if_pos rfl, zb2_s, zbo_0]
          · obtain ⟨g3, a1, a2, a3⟩ := ref0 g0 g e
            obtain ⟨g2, c1, c2⟩ := l3 g0 _ a1.dep
            have c2 : zKR g0 n b N (C ++ l) (d + 1) k' g2 := c2
            have e4 := c2.dep (v := d)
            obtain ⟨g4, d1, d2, d3, d4, d5⟩ := r_sign x e4.1 (c := 41) (by decide) (by omega)
            refine ⟨g4, ?_, d5, e4.2.2.2.fp d2⟩
            rw [a3, if_neg q6, c1, zb2_s, if_neg (by decide), zput_e, c2.2.2.1, show nI (d + 1) - 1 = nI d from pk_sub (show 1 ≤ d + 1 from Nat.le_add_left 1 d), show fX12_sign 41 (zset g2 493 13 (nI d)) = _ from d1, if_neg q41, zb2_s, zbo_0]
  have m8 : ¬ nI (zck b n k) = 1008 := by rw [nL_eq (by omega) (by decide)]; exact h8
  have m40 : ¬ nI (zck b n k) = 1140 := by rw [nL_eq (by omega) (by decide)]; exact h40
  have ref1 : ∀ g0 g, zKR g0 n b N C d k g → ∃ g3, zKR g0 n b N C d k g3 ∧ fX12_readAtom G B g = zb2 (fX12_readTag g3) (fun r_5 g5 => if r_5 = 0 then zb2 (fX12_readSum g5) (fun r_7 g7 => if r_7 = 0 then some (0, g7) else zb2 (fX12_sign 60 g7) (fun r_9 g9 => zjoin (fun g10 => zb2 (fX12_readSum g10) (fun r_11 g11 => if r_11 = 0 then some (0, g11) else if r_9 = 0 then zb (fX12_emits 11 0 g11) (fun g14 => some (1, g14)) else zb (fX12_emits 10 0 g11) (fun g15 => some (1, g15))) : zM → Option (Int32 × zM)) (fun k152 => if r_9 = 0 then zb2 (fX12_sign 62 g9) (fun r_17 g17 => if r_17 = 0 then some (0, g17) else k152 g17) else k152 g9))) else some (1, g5)) := by
    intro g0 g e
    obtain ⟨g1, a1, a2, a3, a4, a5⟩ := r_sign x e.1 (c := 40) (by decide) (by omega)
    obtain ⟨g3, c1, c2, c3, c4, c5⟩ := r_passes x (a4 h40) s31
    refine ⟨g3, e.fp (a2.trans c2) (c4 h8), ?_⟩
    unfold fX12_readAtom
    rw [show fX12_sign 40 g = _ from a1, if_neg h40, zb2_s, if_pos rfl, c1, if_neg h8, zb2_s, if_pos rfl]
  by_cases ht : zck b n k = 1000 ∨ zck b n k = 1001
  · have hkN : k < N := zck_lt x hk (by omega)
    refine ⟨.ok (k + 1, [zck b n k]), .ok hkN (by show 1 + k ≤ k + 1; omega) (fun s => ztc_one ?_), fun g0 g e => ?_, fun g0 g e => ?_⟩
    · unfold ztc1
      rw [if_pos (by omega), decide_eq_true ht]
    · obtain ⟨g2, c1, c2⟩ := c_emit e (by omega) (zck b n k)
      refine ⟨_, ?_, c2.go hkN⟩
      unfold fX2_readAtom
      rw [c_code x e.1, zb_s, zjoin_e, if_neg m8, if_neg m40, c1, zb_s, c_stp x c2.1 hkN, zb_s]
      rcases ht with h | h
      · rw [if_pos (by rw [h]; rfl)]
      · rw [if_neg (by rw [h]; decide), if_pos (by rw [h]; rfl)]
    · obtain ⟨g3, a1, a2⟩ := ref1 g0 g e
      obtain ⟨g4, c1, c2⟩ := (r_tag x a1 hC).1 ht
      refine ⟨g4, ?_, c2⟩
      rw [a2, c1, zb2_s, if_neg (by decide)]
  · obtain ⟨o, l1, l2, l3⟩ := p_cmp x hk hC (d := d)
    refine ⟨o, l1, fun g0 g e => ?_, fun g0 g e => ?_⟩
    · unfold fX2_readAtom
      rw [c_code x e.1, zb_s, zjoin_e, if_neg m8, if_neg m40, if_neg (by rw [nL_eq (by omega) (by decide)]; exact fun h => ht (Or.inl h)), if_neg (by rw [nL_eq (by omega) (by decide)]; exact fun h => ht (Or.inr h))]
      exact l2 g0 g e
    · obtain ⟨g3, a1, a2⟩ := ref1 g0 g e
      obtain ⟨g4, c1, c2⟩ := (r_tag x a1 hC).2 ht
      rw [a2, c1, zb2_s, if_pos rfl]
      exact l3 g0 g4 c2
theorem p_lev {n N : Nat} {b : Nat → Nat} (x : zTx n b N) : ∀ m d, d ≤ 6 → (2 * (6 - d) + 1 ≤ m → ∀ k C, k ≤ N → C.length < k → zKs n b N k C d zPt ((fX2_lev m).2 (nI d)) (fX12_lev m).2) ∧ (2 * (6 - d) + 2 ≤ m → ∀ k C, k ≤ N → C.length < k → zKs n b N k C d zPt ((fX2_lev m).1 (nI d)) (fX12_lev m).1) := by
  intro m
  induction m with
  | zero => exact fun d hd => ⟨fun h => by omega, fun h => by omega⟩
  | succ m ih =>
    intro d hd
    refine ⟨fun h k C hk hC => ?_, fun h k C hk hC => ?_⟩
    · exact p_atom x hk hC hd (fun q => (ih (d + 1) (by omega)).2 (by omega)) (fun q => (ih (d + 1) (by omega)).1 (by omega))
    · exact p_either x (fun k C hk hC => p_all x ((ih d hd).1 (by omega)) hk hC) hk hC
theorem p_cond {n N k : Nat} {b : Nat → Nat} {C : List Nat} (x : zTx n b N) (hk : k ≤ N) (hC : C.length < k) : zKs n b N k C 0 zPt (fX2_readEither_T (nI 0)) fX12_readCond_T := (p_lev x 20 0 (by omega)).2 (by omega) k C hk hC
