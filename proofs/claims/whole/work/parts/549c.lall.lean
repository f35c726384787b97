/-! and, or in a text of THE LAW (written by gen_ao.py) -/
def zPt (l : List Nat) : Prop := ∀ s, ztc l s = some (true :: s)
def zPv (v : Nat) (l : List Nat) : Prop := if v = 0 then zPt l else ∀ s, ztc l (true :: s) = some (true :: s)
theorem p_all_L {n N d : Nat} {b : Nat → Nat} (x : zTx n b N) {E A : Int32 → zM → Option (Int32 × zM)} {G B : zM → Option (Int32 × zM)} (hA : ∀ k C, k ≤ N → C.length < k → zKs n b N k C d zPt (A (nI d)) B) : ∀ f k v C, N - k < f → C.length + (if v = 0 then 0 else 1) < k → k ≤ N → v < k → ∃ o, zKg N (k - (if v = 0 then 0 else 1)) (zPv v) o ∧ (∀ g0 g m, f ≤ m → zKC g0 n b N C k g → zKoC g0 n b N C o (fX2_readAll_L2 E A (nI d) zKF m (nI v) g)) ∧ ∀ g0 g m, f ≤ m → zKR g0 n b N C d k g → zKoR g0 n b N C d o (zb2 (B g) (fun r_5 g5 => if r_5 = 0 then some (0, g5) else if v = 0 then fX12_readAllOf_L9 G B m g5 else zb (fX12_emits 13 0 g5) (fun g7 => fX12_readAllOf_L9 G B m g7))) := by
  have h4 := x.b400
  have hN := x.le
  intro f
  induction f with
  | zero => intro k v C hf; omega
  | succ f ih =>
    intro k v C hf hC hk hv
    have hv4 : ¬ (400 : Int32) ≤ nI v := by rw [nL_ge (by omega) (by decide)]; omega
    have hCk : C.length < k := by split at hC <;> omega
    obtain ⟨o, l1, l2, l3⟩ := hA k C hk hCk
    cases o with
    | error t =>
      refine ⟨.error t, .err, fun g0 g m hm e => ?_, fun g0 g m hm e => ?_⟩
      · obtain ⟨m, rfl⟩ : ∃ j, m = j + 1 := ⟨m - 1, by omega⟩
        obtain ⟨g1, b1, b2, b3⟩ := l2 g0 g e
        refine ⟨g1, ?_, b2, b3⟩
        rw [fX2_readAll_L2, if_neg hv4, b1, zb2_s, if_pos rfl]
      · obtain ⟨g1, b1, b2, b3⟩ := l3 g0 g e
        refine ⟨g1, ?_, b2, b3⟩
        rw [b1, zb2_s, if_pos rfl]
    | ok q =>
      obtain ⟨k', l⟩ := q
      obtain ⟨w1, w2, w3⟩ := l1 (k', l) rfl
      have w1 : k' ≤ N := w1
      have w2 : l.length + k ≤ k' := w2
      have w3 : zPt l := w3
      have hb := zcd_big x w1
      obtain ⟨L, hL⟩ : ∃ L, L = (if v = 0 then l else l ++ [1009]) := ⟨_, rfl⟩
      have hLl : L.length = l.length + (if v = 0 then 0 else 1) := by
        rw [hL]
        by_cases q0 : v = 0
        · rw [if_pos q0, if_pos q0]; rfl
        · rw [if_neg q0, if_neg q0, List.length_append]; rfl
      have hP : zPv v L := by
        unfold zPv
        rw [hL]
        by_cases q0 : v = 0
        · rw [if_pos q0, if_pos q0]; exact w3
        · rw [if_neg q0, if_neg q0]
          intro s
          rw [ztc_app _ _ _ _ (w3 (true :: s))]
          exact ztc_one rfl
      have cls : ∀ g0 g m, zKC g0 n b N C k g → ∃ g4, zKC g0 n b N (C ++ L) k' g4 ∧ fX2_readAll_L2 E A (nI d) zKF (m + 1) (nI v) g = if zck b n k' = 1009 then fX2_readAll_L2 E A (nI d) zKF m (nI (v + 1)) (zset g4 434 6 (nI (k' + 1))) else some (1, g4) := by
        intro g0 g m e
        obtain ⟨g2, b1, b2⟩ := l2 g0 g e
        have b2 : zKC g0 n b N (C ++ l) k' g2 := b2
        have fin : ∀ (g4 : zM) (C1 : List Nat), zKC g0 n b N C1 k' g4 → zb (fX9_code 434 g4) (fun r_5 => if r_5 = 1009 then zb (fX9_step 434 g4) (fun g7 => fX2_readAll_L2 E A (nI d) zKF m (nI v + 1) g7) else some (1, g4)) = if zck b n k' = 1009 then fX2_readAll_L2 E A (nI d) zKF m (nI (v + 1)) (zset g4 434 6 (nI (k' + 1))) else some (1, g4) := by
          intro g4 C1 e4
          rw [c_code x e4.1, zb_s]
          by_cases q : zck b n k' = 1009
          · rw [if_pos (by rw [q]; rfl), if_pos q, c_stp x e4.1 (zck_lt x w1 (by rw [q]; decide)), zb_s, nI_1]
          · rw [if_neg (by rw [nL_eq (by omega) (by decide)]; exact q), if_neg q]
        rw [fX2_readAll_L2, if_neg hv4, b1, zb2_s, if_neg (by decide), zjoin_e]
        by_cases q0 : v = 0
        · rw [if_pos q0] at hL
          rw [if_pos (by rw [q0]; decide), hL]
          exact ⟨g2, b2, fin g2 _ b2⟩
        · rw [if_neg q0] at hL hC
          have hn0 : ¬ nI v ≤ 0 := by rw [nL_le (by omega) (by decide)]; omega
          obtain ⟨g4, c1, c2⟩ := c_emit b2 (by rw [List.length_append]; omega) 1009
          rw [if_neg hn0, show fX1_addCode 439 1009 g2 = some g4 from c1, zb_s, hL, ← List.append_assoc]
          exact ⟨g4, c2, fin g4 _ c2⟩
      have rls : ∀ g0 g m, zKR g0 n b N C d k g → ∃ g4, (zck b n k' = 1009 → zKR g0 n b N (C ++ L) d (k' + 1) g4 ∧ zb2 (B g) (fun r_5 g5 => if r_5 = 0 then some (0, g5) else if v = 0 then fX12_readAllOf_L9 G B (m + 1) g5 else zb (fX12_emits 13 0 g5) (fun g7 => fX12_readAllOf_L9 G B (m + 1) g7)) = zb2 (B g4) (fun r_5 g5 => if r_5 = 0 then some (0, g5) else zb (fX12_emits 13 0 g5) (fun g7 => fX12_readAllOf_L9 G B m g7))) ∧ (zck b n k' ≠ 1009 → zKR g0 n b N (C ++ L) d k' g4 ∧ zb2 (B g) (fun r_5 g5 => if r_5 = 0 then some (0, g5) else if v = 0 then fX12_readAllOf_L9 G B (m + 1) g5 else zb (fX12_emits 13 0 g5) (fun g7 => fX12_readAllOf_L9 G B (m + 1) g7)) = some (1, g4)) := by
        intro g0 g m e
        obtain ⟨g2, b1, b2⟩ := l3 g0 g e
        have b2 : zKR g0 n b N (C ++ l) d k' g2 := b2
        have fin : ∀ (g6 : zM) (C1 : List Nat), zKR g0 n b N C1 d k' g6 → ∃ g4, (zck b n k' = 1009 → zKR g0 n b N C1 d (k' + 1) g4 ∧ fX12_readAllOf_L9 G B (m + 1) g6 = zb2 (B g4) (fun r_5 g5 => if r_5 = 0 then some (0, g5) else zb (fX12_emits 13 0 g5) (fun g7 => fX12_readAllOf_L9 G B m g7))) ∧ (zck b n k' ≠ 1009 → zKR g0 n b N C1 d k' g4 ∧ fX12_readAllOf_L9 G B (m + 1) g6 = some (1, g4)) := by
          intro g6 C1 e6
          obtain ⟨g3, c1, c2, c3, c4, c5⟩ := r_passes x e6.1 s37
          refine ⟨g3, fun q => ⟨e6.fp c2 (c3 q), ?_⟩, fun q => ⟨e6.fp c2 (c4 q), ?_⟩⟩
          · rw [fX12_readAllOf_L9, c1, if_pos q, zb2_s, if_neg (by decide)]
          · rw [fX12_readAllOf_L9, c1, if_neg q, zb2_s, if_pos rfl]
        rw [b1, zb2_s, if_neg (by decide)]
        by_cases q0 : v = 0
        · rw [if_pos q0] at hL
          rw [if_pos q0, hL]
          exact fin g2 _ b2
        · rw [if_neg q0] at hL hC
          obtain ⟨g4, c1, c2⟩ := r_emit b2 (by rw [List.length_append]; omega) 1009
          rw [if_neg q0, show fX12_emits 13 0 g2 = some g4 from c1, zb_s, hL, ← List.append_assoc]
          exact fin g4 _ c2
      by_cases q : zck b n k' = 1009
      · have hk2 : k' < N := zck_lt x w1 (by rw [q]; decide)
        have hv1 : ¬ v + 1 = 0 := by omega
        obtain ⟨o, i1, i2, i3⟩ := ih (k' + 1) (v + 1) (C ++ L) (by omega) (by rw [if_neg hv1, List.length_append, hLl]; omega) hk2 (by omega)
        refine ⟨zpre L o, i1.pre ?_ (fun l3 h3 => ?_), fun g0 g m hm e => ?_, fun g0 g m hm e => ?_⟩
        · rw [hLl, if_neg hv1]
          split <;> omega
        · unfold zPv at hP h3 ⊢
          rw [if_neg hv1] at h3
          by_cases q0 : v = 0
          · rw [if_pos q0] at hP ⊢
            intro s
            rw [ztc_app _ _ _ _ (hP s)]
            exact h3 s
          · rw [if_neg q0] at hP ⊢
            intro s
            rw [ztc_app _ _ _ _ (hP s)]
            exact h3 s
        · obtain ⟨m, rfl⟩ : ∃ j, m = j + 1 := ⟨m - 1, by omega⟩
          obtain ⟨g4, a1, a2⟩ := cls g0 g m e
          rw [a2, if_pos q]
          exact (i2 g0 _ m (by omega) (a1.go hk2)).pre
        · obtain ⟨m, rfl⟩ : ∃ j, m = j + 1 := ⟨m - 1, by omega⟩
          obtain ⟨g4, a1, a2⟩ := rls g0 g m e
          obtain ⟨a3, a4⟩ := a1 q
          rw [a4]
          have := (i3 g0 _ m (by omega) a3).pre
          simp only [if_neg hv1] at this
          exact this
      · refine ⟨.ok (k', L), .ok w1 (by rw [hLl]; split <;> split at hC <;> omega) hP, fun g0 g m hm e => ?_, fun g0 g m hm e => ?_⟩
        · obtain ⟨m, rfl⟩ : ∃ j, m = j + 1 := ⟨m - 1, by omega⟩
          obtain ⟨g4, a1, a2⟩ := cls g0 g m e
          exact ⟨g4, a2.trans (if_neg q), a1⟩
        · obtain ⟨m, rfl⟩ : ∃ j, m = j + 1 := ⟨m - 1, by omega⟩
          obtain ⟨g4, a1, a2⟩ := rls g0 g m e
          exact ⟨g4, (a2 q).2, (a2 q).1⟩
theorem p_all {n N d k : Nat} {b : Nat → Nat} {C : List Nat} (x : zTx n b N) {E A : Int32 → zM → Option (Int32 × zM)} {G B : zM → Option (Int32 × zM)} (hA : ∀ k C, k ≤ N → C.length < k → zKs n b N k C d zPt (A (nI d)) B) (hk : k ≤ N) (hC : C.length < k) : zKs n b N k C d zPt (fX2_readAll E A (nI d)) (fX12_readAllOf G B) := by
  have h4 := x.b400
  have hN := x.le
  obtain ⟨o, a1, a2, a3⟩ := p_all_L x hA (N - k + 1) k 0 C (Nat.lt_succ_self _) (by rw [if_pos rfl]; exact hC) hk (by omega)
  exact ⟨o, a1, fun g0 g e => a2 g0 g zFU (by unfold zFU; omega) e, fun g0 g e => a3 g0 g zFU (by unfold zFU; omega) e⟩
theorem p_either_L {n N d : Nat} {b : Nat → Nat} (x : zTx n b N) {E A : Int32 → zM → Option (Int32 × zM)} {G B : zM → Option (Int32 × zM)} (hA : ∀ k C, k ≤ N → C.length < k → zKs n b N k C d zPt (fX2_readAll E A (nI d)) (fX12_readAllOf G B)) : ∀ f k v C, N - k < f → C.length + (if v = 0 then 0 else 1) < k → k ≤ N → v < k → ∃ o, zKg N (k - (if v = 0 then 0 else 1)) (zPv v) o ∧ (∀ g0 g m, f ≤ m → zKC g0 n b N C k g → zKoC g0 n b N C o (fX2_readEither_L2 E A (nI d) zKF m (nI v) g)) ∧ ∀ g0 g m, f ≤ m → zKR g0 n b N C d k g → zKoR g0 n b N C d o (zb2 ((fX12_readAllOf G B) g) (fun r_5 g5 => if r_5 = 0 then some (0, g5) else if v = 0 then fX12_readCond_L9 G B m g5 else zb (fX12_emits 14 0 g5) (fun g7 => fX12_readCond_L9 G B m g7))) := by
  have h4 := x.b400
  have hN := x.le
  intro f
  induction f with
  | zero => intro k v C hf; omega
  | succ f ih =>
    intro k v C hf hC hk hv
    have hv4 : ¬ (400 : Int32) ≤ nI v := by rw [nL_ge (by omega) (by decide)]; omega
    have hCk : C.length < k := by split at hC <;> omega
    obtain ⟨o, l1, l2, l3⟩ := hA k C hk hCk
    cases o with
    | error t =>
      refine ⟨.error t, .err, fun g0 g m hm e => ?_, fun g0 g m hm e => ?_⟩
      · obtain ⟨m, rfl⟩ : ∃ j, m = j + 1 := ⟨m - 1, by omega⟩
        obtain ⟨g1, b1, b2, b3⟩ := l2 g0 g e
        refine ⟨g1, ?_, b2, b3⟩
        rw [fX2_readEither_L2, if_neg hv4, b1, zb2_s, if_pos rfl]
      · obtain ⟨g1, b1, b2, b3⟩ := l3 g0 g e
        refine ⟨g1, ?_, b2, b3⟩
        rw [b1, zb2_s, if_pos rfl]
    | ok q =>
      obtain ⟨k', l⟩ := q
      obtain ⟨w1, w2, w3⟩ := l1 (k', l) rfl
      have w1 : k' ≤ N := w1
      have w2 : l.length + k ≤ k' := w2
      have w3 : zPt l := w3
      have hb := zcd_big x w1
      obtain ⟨L, hL⟩ : ∃ L, L = (if v = 0 then l else l ++ [1010]) := ⟨_, rfl⟩
      have hLl : L.length = l.length + (if v = 0 then 0 else 1) := by
        rw [hL]
        by_cases q0 : v = 0
        · rw [if_pos q0, if_pos q0]; rfl
        · rw [if_neg q0, if_neg q0, List.length_append]; rfl
      have hP : zPv v L := by
        unfold zPv
        rw [hL]
        by_cases q0 : v = 0
        · rw [if_pos q0, if_pos q0]; exact w3
        · rw [if_neg q0, if_neg q0]
          intro s
          rw [ztc_app _ _ _ _ (w3 (true :: s))]
          exact ztc_one rfl
      have cls : ∀ g0 g m, zKC g0 n b N C k g → ∃ g4, zKC g0 n b N (C ++ L) k' g4 ∧ fX2_readEither_L2 E A (nI d) zKF (m + 1) (nI v) g = if zck b n k' = 1010 then fX2_readEither_L2 E A (nI d) zKF m (nI (v + 1)) (zset g4 434 6 (nI (k' + 1))) else some (1, g4) := by
        intro g0 g m e
        obtain ⟨g2, b1, b2⟩ := l2 g0 g e
        have b2 : zKC g0 n b N (C ++ l) k' g2 := b2
        have fin : ∀ (g4 : zM) (C1 : List Nat), zKC g0 n b N C1 k' g4 → zb (fX9_code 434 g4) (fun r_5 => if r_5 = 1010 then zb (fX9_step 434 g4) (fun g7 => fX2_readEither_L2 E A (nI d) zKF m (nI v + 1) g7) else some (1, g4)) = if zck b n k' = 1010 then fX2_readEither_L2 E A (nI d) zKF m (nI (v + 1)) (zset g4 434 6 (nI (k' + 1))) else some (1, g4) := by
          intro g4 C1 e4
          rw [c_code x e4.1, zb_s]
          by_cases q : zck b n k' = 1010
          · rw [if_pos (by rw [q]; rfl), if_pos q, c_stp x e4.1 (zck_lt x w1 (by rw [q]; decide)), zb_s, nI_1]
          · rw [if_neg (by rw [nL_eq (by omega) (by decide)]; exact q), if_neg q]
        rw [fX2_readEither_L2, if_neg hv4, b1, zb2_s, if_neg (by decide), zjoin_e]
        by_cases q0 : v = 0
        · rw [if_pos q0] at hL
          rw [if_pos (by rw [q0]; decide), hL]
          exact ⟨g2, b2, fin g2 _ b2⟩
        · rw [if_neg q0] at hL hC
          have hn0 : ¬ nI v ≤ 0 := by rw [nL_le (by omega) (by decide)]; omega
          obtain ⟨g4, c1, c2⟩ := c_emit b2 (by rw [List.length_append]; omega) 1010
          rw [if_neg hn0, show fX1_addCode 439 1010 g2 = some g4 from c1, zb_s, hL, ← List.append_assoc]
          exact ⟨g4, c2, fin g4 _ c2⟩
      have rls : ∀ g0 g m, zKR g0 n b N C d k g → ∃ g4, (zck b n k' = 1010 → zKR g0 n b N (C ++ L) d (k' + 1) g4 ∧ zb2 ((fX12_readAllOf G B) g) (fun r_5 g5 => if r_5 = 0 then some (0, g5) else if v = 0 then fX12_readCond_L9 G B (m + 1) g5 else zb (fX12_emits 14 0 g5) (fun g7 => fX12_readCond_L9 G B (m + 1) g7)) = zb2 ((fX12_readAllOf G B) g4) (fun r_5 g5 => if r_5 = 0 then some (0, g5) else zb (fX12_emits 14 0 g5) (fun g7 => fX12_readCond_L9 G B m g7))) ∧ (zck b n k' ≠ 1010 → zKR g0 n b N (C ++ L) d k' g4 ∧ zb2 ((fX12_readAllOf G B) g) (fun r_5 g5 => if r_5 = 0 then some (0, g5) else if v = 0 then fX12_readCond_L9 G B (m + 1) g5 else zb (fX12_emits 14 0 g5) (fun g7 => fX12_readCond_L9 G B (m + 1) g7)) = some (1, g4)) := by
        intro g0 g m e
        obtain ⟨g2, b1, b2⟩ := l3 g0 g e
        have b2 : zKR g0 n b N (C ++ l) d k' g2 := b2
        have fin : ∀ (g6 : zM) (C1 : List Nat), zKR g0 n b N C1 d k' g6 → ∃ g4, (zck b n k' = 1010 → zKR g0 n b N C1 d (k' + 1) g4 ∧ fX12_readCond_L9 G B (m + 1) g6 = zb2 ((fX12_readAllOf G B) g4) (fun r_5 g5 => if r_5 = 0 then some (0, g5) else zb (fX12_emits 14 0 g5) (fun g7 => fX12_readCond_L9 G B m g7))) ∧ (zck b n k' ≠ 1010 → zKR g0 n b N C1 d k' g4 ∧ fX12_readCond_L9 G B (m + 1) g6 = some (1, g4)) := by
          intro g6 C1 e6
          obtain ⟨g3, c1, c2, c3, c4, c5⟩ := r_passes x e6.1 s38
          refine ⟨g3, fun q => ⟨e6.fp c2 (c3 q), ?_⟩, fun q => ⟨e6.fp c2 (c4 q), ?_⟩⟩
          · rw [fX12_readCond_L9, c1, if_pos q, zb2_s, if_neg (by decide)]
          · rw [fX12_readCond_L9, c1, if_neg q, zb2_s, if_pos rfl]
        rw [b1, zb2_s, if_neg (by decide)]
        by_cases q0 : v = 0
        · rw [if_pos q0] at hL
          rw [if_pos q0, hL]
          exact fin g2 _ b2
        · rw [if_neg q0] at hL hC
          obtain ⟨g4, c1, c2⟩ := r_emit b2 (by rw [List.length_append]; omega) 1010
          rw [if_neg q0, show fX12_emits 14 0 g2 = some g4 from c1, zb_s, hL, ← List.append_assoc]
          exact fin g4 _ c2
      by_cases q : zck b n k' = 1010
      · have hk2 : k' < N := zck_lt x w1 (by rw [q]; decide)
        have hv1 : ¬ v + 1 = 0 := by omega
        obtain ⟨o, i1, i2, i3⟩ := ih (k' + 1) (v + 1) (C ++ L) (by omega) (by rw [if_neg hv1, List.length_append, hLl]; omega) hk2 (by omega)
        refine ⟨zpre L o, i1.pre ?_ (fun l3 h3 => ?_), fun g0 g m hm e => ?_, fun g0 g m hm e => ?_⟩
        · rw [hLl, if_neg hv1]
          split <;> omega
        · unfold zPv at hP h3 ⊢
          rw [if_neg hv1] at h3
          by_cases q0 : v = 0
          · rw [if_pos q0] at hP ⊢
            intro s
            rw [ztc_app _ _ _ _ (hP s)]
            exact h3 s
          · rw [if_neg q0] at hP ⊢
            intro s
            rw [ztc_app _ _ _ _ (hP s)]
            exact h3 s
        · obtain ⟨m, rfl⟩ : ∃ j, m = j + 1 := ⟨m - 1, by omega⟩
          obtain ⟨g4, a1, a2⟩ := cls g0 g m e
          rw [a2, if_pos q]
          exact (i2 g0 _ m (by omega) (a1.go hk2)).pre
        · obtain ⟨m, rfl⟩ : ∃ j, m = j + 1 := ⟨m - 1, by omega⟩
          obtain ⟨g4, a1, a2⟩ := rls g0 g m e
          obtain ⟨a3, a4⟩ := a1 q
          rw [a4]
          have := (i3 g0 _ m (by omega) a3).pre
          simp only [if_neg hv1] at this
          exact this
      · refine ⟨.ok (k', L), .ok w1 (by rw [hLl]; split <;> split at hC <;> omega) hP, fun g0 g m hm e => ?_, fun g0 g m hm e => ?_⟩
        · obtain ⟨m, rfl⟩ : ∃ j, m = j + 1 := ⟨m - 1, by omega⟩
          obtain ⟨g4, a1, a2⟩ := cls g0 g m e
          exact ⟨g4, a2.trans (if_neg q), a1⟩
        · obtain ⟨m, rfl⟩ : ∃ j, m = j + 1 := ⟨m - 1, by omega⟩
          obtain ⟨g4, a1, a2⟩ := rls g0 g m e
          exact ⟨g4, (a2 q).2, (a2 q).1⟩
theorem p_either {n N d k : Nat} {b : Nat → Nat} {C : List Nat} (x : zTx n b N) {E A : Int32 → zM → Option (Int32 × zM)} {G B : zM → Option (Int32 × zM)} (hA : ∀ k C, k ≤ N → C.length < k → zKs n b N k C d zPt (fX2_readAll E A (nI d)) (fX12_readAllOf G B)) (hk : k ≤ N) (hC : C.length < k) : zKs n b N k C d zPt (fX2_readEither E A (nI d)) (fX12_readCond G B) := by
  have h4 := x.b400
  have hN := x.le
  obtain ⟨o, a1, a2, a3⟩ := p_either_L x hA (N - k + 1) k 0 C (Nat.lt_succ_self _) (by rw [if_pos rfl]; exact hC) hk (by omega)
  exact ⟨o, a1, fun g0 g e => a2 g0 g zFU (by unfold zFU; omega) e, fun g0 g e => a3 g0 g zFU (by unfold zFU; omega) e⟩
