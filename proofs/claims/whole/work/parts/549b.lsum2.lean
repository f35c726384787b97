/-! sums in a text of THE LAW -/
def zpre (l : List Nat) : Except Nat (Nat × List Nat) → Except Nat (Nat × List Nat)
  | .ok q => .ok (q.1, l ++ q.2)
  | .error t => .error t
theorem zKoC.pre {g0 : zM} {n N : Nat} {b : Nat → Nat} {C l : List Nat} {o : Except Nat (Nat × List Nat)} {y : Option (Int32 × zM)} (h : zKoC g0 n b N (C ++ l) o y) : zKoC g0 n b N C (zpre l o) y := by
  cases o with
  | error t => exact h
  | ok q =>
    obtain ⟨g1, h1, h2⟩ := h
    rw [List.append_assoc] at h2
    exact ⟨g1, h1, h2⟩
theorem zKoR.pre {g0 : zM} {n N d : Nat} {b : Nat → Nat} {C l : List Nat} {o : Except Nat (Nat × List Nat)} {y : Option (Int32 × zM)} (h : zKoR g0 n b N (C ++ l) d o y) : zKoR g0 n b N C d (zpre l o) y := by
  cases o with
  | error t => exact h
  | ok q =>
    obtain ⟨g1, h1, h2⟩ := h
    rw [List.append_assoc] at h2
    exact ⟨g1, h1, h2⟩
theorem zKg.pre {N k k2 : Nat} {l : List Nat} {P Q : List Nat → Prop} {o : Except Nat (Nat × List Nat)} (h : zKg N k2 P o) (h1 : l.length + k ≤ k2) (h2 : ∀ m, P m → Q (l ++ m)) : zKg N k Q (zpre l o) := by
  intro q hq
  cases o with
  | error t => exact nomatch hq
  | ok r =>
    obtain ⟨a1, a2, a3⟩ := h r rfl
    injection hq with hq
    subst hq
    refine ⟨a1, ?_, h2 _ a3⟩
    show (l ++ r.2).length + k ≤ r.1
    rw [List.length_append]
    omega
def zKF : zM → Option (Int32 × zM) := fun g15 => zb2 (fX9_fail 434 g15) (fun r_16 g16 => zbo r_16 (some (r_16, g16)))
theorem c_KF {g0 g : zM} {n N k : Nat} {b : Nat → Nat} {C : List Nat} (x : zTx n b N) (e : zKC g0 n b N C k g) : zKF g = some (0, zset g 434 7 (nI (zT b n k))) := by
  unfold zKF
  rw [c_fail x e.1, zb2_s, zbo_0]
theorem c_sum1 {g0 g : zM} {n N k v m : Nat} {b : Nat → Nat} {C : List Nat} (x : zTx n b N) (e : zKC g0 n b N C k g) (hC : C.length + (if v = 0 then 0 else 1) < k) (hv : v < k) : (zpt (zck b n k) → k < N ∧ ∃ g7, zKC g0 n b N (C ++ (if v = 0 then [zck b n k] else [zck b n k, 1143])) (k + 1) g7 ∧ fX2_readSum_L2 zKF zKF (m + 1) (nI v) g = if zck b n (k + 1) = 1143 then fX2_readSum_L2 zKF zKF m (nI (v + 1)) (zset g7 434 6 (nI (k + 1 + 1))) else some (1, g7)) ∧ (¬ zpt (zck b n k) → fX2_readSum_L2 zKF zKF (m + 1) (nI v) g = some (0, zset g 434 7 (nI (zT b n k)))) := by
  have hk := e.1.2.2
  have hN := x.le
  have h4 := x.b400
  have hb := zcd_big x hk
  have hv4 : ¬ (400 : Int32) ≤ nI v := by rw [nL_ge (by omega) (by decide)]; omega
  rw [fX2_readSum_L2, if_neg hv4, c_code x e.1, zb_s, zjoin_e]
  constructor
  · intro hp
    have hkN : k < N := zck_lt x hk (by unfold zpt at hp; omega)
    refine ⟨hkN, ?_⟩
    obtain ⟨g5, a1, a2⟩ := c_emit e (by omega) (zck b n k)
    have c7 : nI (zck b n k) ≤ 1007 := by rw [nL_le (by omega) (by decide)]; unfold zpt at hp; omega
    have fin : ∀ (g6 : zM) (C1 : List Nat), zKC g0 n b N C1 k g6 → zKC g0 n b N C1 (k + 1) (zset g6 434 6 (nI (k + 1))) ∧ zb (fX9_step 434 g6) (fun g7 => zb (fX9_code 434 g7) (fun r_8 => if r_8 = 1143 then zb (fX9_step 434 g7) (fun g10 => fX2_readSum_L2 zKF zKF m (nI v + 1) g10) else some (1, g7))) = if zck b n (k + 1) = 1143 then fX2_readSum_L2 zKF zKF m (nI (v + 1)) (zset (zset g6 434 6 (nI (k + 1))) 434 6 (nI (k + 1 + 1))) else some (1, zset g6 434 6 (nI (k + 1))) := by
      intro g6 C1 e6
      have e7 := e6.go (show k + 1 ≤ N from hkN)
      refine ⟨e7, ?_⟩
      have hb1 := zcd_big x (show k + 1 ≤ N from hkN)
      rw [c_stp x e6.1 hkN, zb_s, c_code x e7.1, zb_s]
      by_cases q : zck b n (k + 1) = 1143
      · rw [if_pos (by rw [q]; rfl), if_pos q, c_stp x e7.1 (zck_lt x hkN (by rw [q]; decide)), zb_s, nI_1]
      · rw [if_neg (by rw [nL_eq (by omega) (by decide)]; exact q), if_neg q]
    have body : zb (fX1_addCode 439 (nI (zck b n k)) g) (fun g5 => zjoin (fun g6 => zb (fX9_step 434 g6) (fun g7 => zb (fX9_code 434 g7) (fun r_8 => if r_8 = 1143 then zb (fX9_step 434 g7) (fun g10 => fX2_readSum_L2 zKF zKF m (nI v + 1) g10) else some (1, g7))) : zM → Option (Int32 × zM)) (fun k68 => if nI v ≤ 0 then k68 g5 else zb (fX1_addCode 439 1143 g5) (fun g12 => k68 g12))) = (if nI v ≤ 0 then zb (fX9_step 434 g5) (fun g7 => zb (fX9_code 434 g7) (fun r_8 => if r_8 = 1143 then zb (fX9_step 434 g7) (fun g10 => fX2_readSum_L2 zKF zKF m (nI v + 1) g10) else some (1, g7))) else zb (fX1_addCode 439 1143 g5) (fun g6 => zb (fX9_step 434 g6) (fun g7 => zb (fX9_code 434 g7) (fun r_8 => if r_8 = 1143 then zb (fX9_step 434 g7) (fun g10 => fX2_readSum_L2 zKF zKF m (nI v + 1) g10) else some (1, g7))))) := by
      rw [a1, zb_s, zjoin_e]
    have rest : ∃ g7, zKC g0 n b N (C ++ (if v = 0 then [zck b n k] else [zck b n k, 1143])) (k + 1) g7 ∧ (if nI v ≤ 0 then zb (fX9_step 434 g5) (fun g7 => zb (fX9_code 434 g7) (fun r_8 => if r_8 = 1143 then zb (fX9_step 434 g7) (fun g10 => fX2_readSum_L2 zKF zKF m (nI v + 1) g10) else some (1, g7))) else zb (fX1_addCode 439 1143 g5) (fun g6 => zb (fX9_step 434 g6) (fun g7 => zb (fX9_code 434 g7) (fun r_8 => if r_8 = 1143 then zb (fX9_step 434 g7) (fun g10 => fX2_readSum_L2 zKF zKF m (nI v + 1) g10) else some (1, g7))))) = if zck b n (k + 1) = 1143 then fX2_readSum_L2 zKF zKF m (nI (v + 1)) (zset g7 434 6 (nI (k + 1 + 1))) else some (1, g7) := by
      by_cases q0 : v = 0
      · obtain ⟨f1, f2⟩ := fin g5 _ a2
        refine ⟨_, ?_, (if_pos (by rw [q0]; decide)).trans f2⟩
        rw [if_pos q0]
        exact f1
      · rw [if_neg q0] at hC
        obtain ⟨g6, b1, b2⟩ := c_emit a2 (by rw [len_1]; omega) 1143
        obtain ⟨f1, f2⟩ := fin g6 _ b2
        have hn0 : ¬ nI v ≤ 0 := by rw [nL_le (by omega) (by decide)]; omega
        refine ⟨zset g6 434 6 (nI (k + 1)), ?_, ?_⟩
        · rw [if_neg q0]
          rw [List.append_assoc] at f1
          exact f1
        · rw [if_neg hn0, show fX1_addCode 439 1143 g5 = some g6 from b1, zb_s]
          exact f2
    obtain ⟨g7, r1, r2⟩ := rest
    refine ⟨g7, r1, ?_⟩
    by_cases q9 : zck b n k ≤ 999
    · rw [if_pos (by rw [nL_le (by omega) (by decide)]; exact q9), if_pos c7]
      exact body.trans r2
    · have q2 : ¬ nI (zck b n k) < 1002 := by rw [nL_lt (by omega) (by decide)]; unfold zpt at hp; omega
      rw [if_neg (by rw [nL_le (by omega) (by decide)]; exact q9), if_neg q2, if_pos c7]
      exact body.trans r2
  · intro hp
    unfold zpt at hp
    rw [if_neg (by rw [nL_le (by omega) (by decide)]; omega)]
    by_cases q : zck b n k < 1002
    · rw [if_pos (by rw [nL_lt (by omega) (by decide)]; exact q), c_KF x e]
    · rw [if_neg (by rw [nL_lt (by omega) (by decide)]; exact q), if_neg (by rw [nL_le (by omega) (by decide)]; omega), c_KF x e]
/-- the reference: a part, and what follows -/
def zRS (v m : Nat) (g : zM) : Option (Int32 × zM) := zb2 (fX12_readPart g) (fun r_5 g5 => if r_5 = 0 then some (0, g5) else if v = 0 then fX12_readSum_L9 m g5 else zb (fX12_emits 9 0 g5) (fun g7 => fX12_readSum_L9 m g7))
def zPs (v : Nat) (l : List Nat) : Prop := if v = 0 then ∀ s, ztc l s = some (false :: s) else ∀ s, ztc l (false :: s) = some (false :: s)
theorem r_sum1 {g0 g : zM} {n N d k v m : Nat} {b : Nat → Nat} {C : List Nat} (x : zTx n b N) (e : zKR g0 n b N C d k g) (hC : C.length + (if v = 0 then 0 else 1) < k) : (zpt (zck b n k) → ∃ g7, (zck b n (k + 1) = 1143 → zKR g0 n b N (C ++ (if v = 0 then [zck b n k] else [zck b n k, 1143])) d (k + 1 + 1) g7 ∧ zRS v (m + 1) g = zRS (v + 1) m g7) ∧ (zck b n (k + 1) ≠ 1143 → zKR g0 n b N (C ++ (if v = 0 then [zck b n k] else [zck b n k, 1143])) d (k + 1) g7 ∧ zRS v (m + 1) g = some (1, g7))) ∧ (¬ zpt (zck b n k) → ∃ g1, zRS v (m + 1) g = some (0, g1) ∧ g1 493 12 = nI (zT b n k) ∧ zKrf g0 g1) := by
  have hN := x.le
  have h4 := x.b400
  have hk := e.1.2.1
  obtain ⟨p1, p2⟩ := r_part x e (by split at hC <;> omega)
  constructor
  · intro hp
    obtain ⟨g5, a1, hkN, a2⟩ := p1 hp
    have fin : ∀ (g6 : zM) (C1 : List Nat), zKR g0 n b N C1 d (k + 1) g6 → ∃ g7, (zck b n (k + 1) = 1143 → zKR g0 n b N C1 d (k + 1 + 1) g7 ∧ fX12_readSum_L9 (m + 1) g6 = zRS (v + 1) m g7) ∧ (zck b n (k + 1) ≠ 1143 → zKR g0 n b N C1 d (k + 1) g7 ∧ fX12_readSum_L9 (m + 1) g6 = some (1, g7)) := by
      intro g6 C1 e6
      obtain ⟨g3, c1, c2, c3, c4, c5⟩ := r_sign x e6.1 (c := 43) (by decide) (by omega)
      refine ⟨g3, fun q => ⟨e6.fp c2 (c3 q), ?_⟩, fun q => ⟨e6.fp c2 (c4 q), ?_⟩⟩
      · rw [fX12_readSum_L9, show fX12_sign 43 g6 = _ from c1, if_pos q, zb2_s, if_neg (by decide)]
        rfl
      · rw [fX12_readSum_L9, show fX12_sign 43 g6 = _ from c1, if_neg q, zb2_s, if_pos rfl]
    obtain ⟨L, hL⟩ : ∃ L, L = (if v = 0 then [zck b n k] else [zck b n k, 1143]) := ⟨_, rfl⟩
    rw [← hL]
    unfold zRS
    rw [a1, zb2_s, if_neg (by decide)]
    by_cases q0 : v = 0
    · rw [if_pos q0] at hL
      rw [if_pos q0, hL]
      exact fin g5 _ a2
    · rw [if_neg q0] at hC hL
      obtain ⟨g6, b1, b2⟩ := r_emit a2 (by rw [len_1]; omega) 1143
      rw [if_neg q0, hL, show fX12_emits 9 0 g5 = some g6 from b1, zb_s]
      rw [List.append_assoc] at b2
      exact fin g6 _ b2
  · intro hp
    obtain ⟨g1, a1, a2, a3⟩ := p2 hp
    refine ⟨g1, ?_, a2, a3⟩
    unfold zRS
    rw [a1, zb2_s, if_pos rfl]
theorem p_sum_L {n N : Nat} {b : Nat → Nat} (x : zTx n b N) : ∀ d k v C, N - k ≤ d → C.length + (if v = 0 then 0 else 1) < k → k ≤ N → v < k → ∃ o, zKg N (k - (if v = 0 then 0 else 1)) (zPs v) o ∧ (∀ g0 g m, d < m → zKC g0 n b N C k g → zKoC g0 n b N C o (fX2_readSum_L2 zKF zKF m (nI v) g)) ∧ ∀ dd g0 g m, d < m → zKR g0 n b N C dd k g → zKoR g0 n b N C dd o (zRS v m g) := by
  intro d
  induction d with
  | zero =>
    intro k v C hd hC hk hv
    obtain rfl : k = N := by omega
    have hp : ¬ zpt (zck b n k) := by rw [zck_N x]; unfold zpt; omega
    refine ⟨.error (zT b n k), .err, fun g0 g m hm e => ?_, fun dd g0 g m hm e => ?_⟩
    · obtain ⟨m, rfl⟩ : ∃ j, m = j + 1 := ⟨m - 1, by omega⟩
      exact ⟨_, (c_sum1 x e hC hv).2 hp, zs_hit ⟨rfl, rfl⟩, e.er⟩
    · obtain ⟨m, rfl⟩ : ∃ j, m = j + 1 := ⟨m - 1, by omega⟩
      exact (r_sum1 x e hC).2 hp
  | succ d ih =>
    intro k v C hd hC hk hv
    by_cases hp : zpt (zck b n k)
    case neg =>
      refine ⟨.error (zT b n k), .err, fun g0 g m hm e => ?_, fun dd g0 g m hm e => ?_⟩
      · obtain ⟨m, rfl⟩ : ∃ j, m = j + 1 := ⟨m - 1, by omega⟩
        exact ⟨_, (c_sum1 x e hC hv).2 hp, zs_hit ⟨rfl, rfl⟩, e.er⟩
      · obtain ⟨m, rfl⟩ : ∃ j, m = j + 1 := ⟨m - 1, by omega⟩
        exact (r_sum1 x e hC).2 hp
    have hkN : k < N := zck_lt x hk (by unfold zpt at hp; omega)
    have one : ∀ s, ztc [zck b n k] s = some (false :: s) := fun s => ztc_one (ztc_pt hp s)
    have two : ∀ s, ztc [zck b n k, 1143] (false :: s) = some (false :: s) := fun s => by
      show ztc ([zck b n k] ++ [1143]) (false :: s) = _
      rw [ztc_app _ _ _ _ (one _)]
      exact ztc_one rfl
    have hP : zPs v (if v = 0 then [zck b n k] else [zck b n k, 1143]) := by
      unfold zPs
      by_cases q0 : v = 0
      · rw [if_pos q0, if_pos q0]; exact one
      · rw [if_neg q0, if_neg q0]; exact two
    have hl : (if v = 0 then [zck b n k] else [zck b n k, 1143]).length = (if v = 0 then 0 else 1) + 1 := by split <;> rfl
    by_cases q : zck b n (k + 1) = 1143
    · have hk2 : k + 1 < N := zck_lt x hkN (by rw [q]; decide)
      obtain ⟨o, i1, i2, i3⟩ := ih (k + 1 + 1) (v + 1) (C ++ (if v = 0 then [zck b n k] else [zck b n k, 1143])) (by omega) (by rw [if_neg (show ¬ v + 1 = 0 by omega), List.length_append, hl]; omega) hk2 (by omega)
      refine ⟨zpre (if v = 0 then [zck b n k] else [zck b n k, 1143]) o, i1.pre ?_ (fun l hl2 => ?_), fun g0 g m hm e => ?_, fun dd g0 g m hm e => ?_⟩
      · rw [hl, if_neg (show ¬ v + 1 = 0 by omega)]
        split <;> omega
      · unfold zPs at hP hl2 ⊢
        rw [if_neg (show ¬ v + 1 = 0 by omega)] at hl2
        by_cases q0 : v = 0
        · rw [if_pos q0] at hP ⊢
          intro s
          rw [ztc_app _ _ _ _ (hP s)]
          exact hl2 s
        · rw [if_neg q0] at hP ⊢
          intro s
          rw [ztc_app _ _ _ _ (hP s)]
          exact hl2 s
      · obtain ⟨m, rfl⟩ : ∃ j, m = j + 1 := ⟨m - 1, by omega⟩
        obtain ⟨_, g7, a1, a2⟩ := (c_sum1 (m := m) x e hC hv).1 hp
        rw [a2, if_pos q]
        exact (i2 g0 _ m (by omega) (a1.go hk2)).pre
      · obtain ⟨m, rfl⟩ : ∃ j, m = j + 1 := ⟨m - 1, by omega⟩
        obtain ⟨g7, a1, a2⟩ := (r_sum1 (m := m) x e hC).1 hp
        obtain ⟨a3, a4⟩ := a1 q
        rw [a4]
        exact (i3 dd g0 _ m (by omega) a3).pre
    · refine ⟨.ok (k + 1, if v = 0 then [zck b n k] else [zck b n k, 1143]), .ok hkN (by rw [hl]; omega) hP, fun g0 g m hm e => ?_, fun dd g0 g m hm e => ?_⟩
      · obtain ⟨m, rfl⟩ : ∃ j, m = j + 1 := ⟨m - 1, by omega⟩
        obtain ⟨_, g7, a1, a2⟩ := (c_sum1 (m := m) x e hC hv).1 hp
        exact ⟨g7, a2.trans (if_neg q), a1⟩
      · obtain ⟨m, rfl⟩ : ∃ j, m = j + 1 := ⟨m - 1, by omega⟩
        obtain ⟨g7, a1, a2⟩ := (r_sum1 (m := m) x e hC).1 hp
        exact ⟨g7, (a2 q).2, (a2 q).1⟩
/-- what class and reference read, from the thing k on, with the codes C drafted: alike -/
def zKs (n : Nat) (b : Nat → Nat) (N k : Nat) (C : List Nat) (d : Nat) (P : List Nat → Prop) (f fm : zM → Option (Int32 × zM)) : Prop := ∃ o, zKg N k P o ∧ (∀ g0 g, zKC g0 n b N C k g → zKoC g0 n b N C o (f g)) ∧ ∀ g0 g, zKR g0 n b N C d k g → zKoR g0 n b N C d o (fm g)
theorem p_sum {n N k d : Nat} {b : Nat → Nat} {C : List Nat} (x : zTx n b N) (hk : k ≤ N) (hC : C.length < k) : zKs n b N k C d (fun l => ∀ s, ztc l s = some (false :: s)) fX2_readSum fX12_readSum := by
  have h4 := x.b400
  have hN := x.le
  obtain ⟨o, a1, a2, a3⟩ := p_sum_L x (N - k) k 0 C (Nat.le_refl _) (by rw [if_pos rfl]; exact hC) hk (by omega)
  exact ⟨o, a1, fun g0 g e => a2 g0 g zFU (by unfold zFU; omega) e, fun g0 g e => a3 d g0 g zFU (by unfold zFU; omega) e⟩
