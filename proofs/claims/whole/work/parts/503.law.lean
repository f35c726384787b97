/-! THE LAW: what a condition comes to -/
def zsea (w : Int32) : Int32 := w / 13 - w / 13 / 4 * 4
def zfact (L : zL) (n : Nat) (w : Int32) (k : Nat) : Int32 := if k = 0 then zbi L.2.2.2.2.2.2 else if k = 1 then (if zsea w = 3 then 1 else 0) else if k = 2 then nI n else if k = 3 then L.2.2.2.1 else if k = 4 then (if n < 2 then 12 else nI (L.2.1 (n - 2))) else if k = 5 then w else if k = 6 then zsea w else L.2.2.2.2.1
def zval (F : Nat → Int32) (c : Nat) : Int32 := if c < 1000 then nI c else F (c - 1000)
def zjn (c : Nat) (l r : Int32) : Int32 := if c = 1009 then l &&& r else if c = 1143 then l + r else if c = 1160 then (if r ≤ l then 0 else 1) else if c = 1162 then (if l ≤ r then 0 else 1) else l ||| r
def zev1 (F : Nat → Int32) (c : Nat) (s : List Int32) : List Int32 :=
  if c ≤ 1007 then zval F c :: s
  else match s with
    | [] => []
    | a :: r =>
      if c = 1008 then (1 - a) :: r
      else match r with
        | [] => [a]
        | b :: q => zjn c b a :: q
def zev (F : Nat → Int32) : List Nat → List Int32 → List Int32
  | [], s => s
  | c :: r, s => zev F r (zev1 F c s)
def zTy : List Bool → List Int32 → Prop
  | [], [] => True
  | b :: t, x :: s => (b = true → x = 0 ∨ x = 1) ∧ zTy t s
  | _, _ => False
theorem zTy_len : ∀ {t : List Bool} {s : List Int32}, zTy t s → t.length = s.length
  | [], [], _ => rfl
  | _ :: _, _ :: _, h => congrArg (· + 1) (zTy_len h.2)
  | [], _ :: _, h => h.elim
  | _ :: _, [], h => h.elim
theorem z01_not {x : Int32} (h : x = 0 ∨ x = 1) : 1 - x = 0 ∨ 1 - x = 1 := by rcases h with rfl | rfl <;> decide
theorem z01_and {x y : Int32} (h : x = 0 ∨ x = 1) (h2 : y = 0 ∨ y = 1) : x &&& y = if x + y = 2 then 1 else 0 := by rcases h with rfl | rfl <;> rcases h2 with rfl | rfl <;> decide
theorem z01_or {x y : Int32} (h : x = 0 ∨ x = 1) (h2 : y = 0 ∨ y = 1) : x ||| y = if x + y ≤ 0 then 0 else 1 := by rcases h with rfl | rfl <;> rcases h2 with rfl | rfl <;> decide
theorem z01_if {c : Prop} [Decidable c] : (if c then (0 : Int32) else 1) = 0 ∨ (if c then (0 : Int32) else 1) = 1 := by by_cases h : c <;> simp [h]
theorem z01_fi {c : Prop} [Decidable c] : (if c then (1 : Int32) else 0) = 0 ∨ (if c then (1 : Int32) else 0) = 1 := by by_cases h : c <;> simp [h]
/-- the codes that a condition that is well made can hold at a stack -/
theorem ztc1_cases {c : Nat} {t t' : List Bool} (h : ztc1 c t = some t') : (c ≤ 1007 ∧ t' = decide (c = 1000 ∨ c = 1001) :: t) ∨ (c = 1008 ∧ ∃ r, t = true :: r ∧ t' = t) ∨ ((c = 1009 ∨ c = 1010) ∧ ∃ q, t = true :: true :: q ∧ t' = true :: q) ∨ (c = 1143 ∧ ∃ q, t = false :: false :: q ∧ t' = false :: q) ∨ ((c = 1160 ∨ c = 1162) ∧ ∃ q, t = false :: false :: q ∧ t' = true :: q) := by
  unfold ztc1 at h
  by_cases h1 : c ≤ 1007
  · rw [if_pos h1] at h
    exact Or.inl ⟨h1, (Option.some.inj h).symm⟩
  · rw [if_neg h1] at h
    right
    match t, h with
    | a :: r, h =>
      simp only at h
      by_cases h2 : c = 1008
      · rw [if_pos h2] at h
        cases a
        · simp at h
        · simp at h; exact Or.inl ⟨h2, r, rfl, h.symm⟩
      · rw [if_neg h2] at h
        right
        match r, h with
        | b :: q, h =>
          simp only at h
          by_cases h3 : c = 1009 ∨ c = 1010
          · rw [if_pos h3] at h
            cases a <;> cases b <;> simp at h
            exact Or.inl ⟨h3, q, rfl, h.symm⟩
          · rw [if_neg h3] at h
            right
            by_cases h4 : c = 1143
            · rw [if_pos h4] at h
              cases a <;> cases b <;> simp at h
              exact Or.inl ⟨h4, q, rfl, h.symm⟩
            · rw [if_neg h4] at h
              right
              by_cases h5 : c = 1160 ∨ c = 1162
              · rw [if_pos h5] at h
                cases a <;> cases b <;> simp at h
                exact ⟨h5, q, rfl, h.symm⟩
              · rw [if_neg h5] at h
                exact nomatch h
theorem zTy_2 {a b : Bool} {q : List Bool} {s : List Int32} (h : zTy (a :: b :: q) s) : ∃ x y r, s = x :: y :: r ∧ (a = true → x = 0 ∨ x = 1) ∧ (b = true → y = 0 ∨ y = 1) ∧ zTy q r := by
  match s, h with
  | x :: y :: r, h => exact ⟨x, y, r, rfl, h.1, h.2.1, h.2.2⟩
  | [_], h => exact h.2.elim
theorem zTy_1 {a : Bool} {q : List Bool} {s : List Int32} (h : zTy (a :: q) s) : ∃ x r, s = x :: r ∧ (a = true → x = 0 ∨ x = 1) ∧ zTy q r := by
  match s, h with
  | x :: r, h => exact ⟨x, r, rfl, h.1, h.2⟩
theorem zev1_ty {F : Nat → Int32} (h0 : F 0 = 0 ∨ F 0 = 1) (h1 : F 1 = 0 ∨ F 1 = 1) {c : Nat} {t t' : List Bool} {s : List Int32} (h : ztc1 c t = some t') (hs : zTy t s) : zTy t' (zev1 F c s) := by
  rcases ztc1_cases h with ⟨hc, rfl⟩ | ⟨rfl, r, rfl, rfl⟩ | ⟨hc, q, rfl, rfl⟩ | ⟨rfl, q, rfl, rfl⟩ | ⟨hc, q, rfl, rfl⟩
  · unfold zev1
    rw [if_pos hc]
    refine ⟨fun hb => ?_, hs⟩
    rcases of_decide_eq_true hb with rfl | rfl
    · exact h0
    · exact h1
  · obtain ⟨x, r', rfl, hx, hr⟩ := zTy_1 hs
    exact ⟨fun _ => z01_not (hx rfl), hr⟩
  · obtain ⟨x, y, r', rfl, hx, hy, hr⟩ := zTy_2 hs
    unfold zev1
    rw [if_neg (by omega)]
    simp only
    rw [if_neg (by omega)]
    refine ⟨fun _ => ?_, hr⟩
    unfold zjn
    rcases hc with rfl | rfl
    · rw [if_pos rfl, z01_and (hy rfl) (hx rfl)]; exact z01_fi
    · simp only [show ¬ 1010 = 1009 from by decide, show ¬ 1010 = 1143 from by decide, show ¬ 1010 = 1160 from by decide, show ¬ 1010 = 1162 from by decide, if_false]
      rw [z01_or (hy rfl) (hx rfl)]; exact z01_if
  · obtain ⟨x, y, r', rfl, hx, hy, hr⟩ := zTy_2 hs
    exact ⟨fun q => absurd q (by decide), hr⟩
  · obtain ⟨x, y, r', rfl, hx, hy, hr⟩ := zTy_2 hs
    unfold zev1
    rw [if_neg (by omega)]
    simp only
    rw [if_neg (by omega)]
    refine ⟨fun _ => ?_, hr⟩
    unfold zjn
    rcases hc with rfl | rfl
    · simp only [show ¬ 1160 = 1009 from by decide, show ¬ 1160 = 1143 from by decide, if_false, if_true]
      exact z01_if
    · simp only [show ¬ 1162 = 1009 from by decide, show ¬ 1162 = 1143 from by decide, show ¬ 1162 = 1160 from by decide, if_false, if_true]
      exact z01_if
/-- the stack in an array -/
def zSt (A : Nat → Int32) : List Int32 → Prop
  | [] => True
  | x :: s => A s.length = x ∧ zSt A s
theorem zSt_up {A A' : Nat → Int32} : ∀ {s : List Int32}, zSt A s → (∀ i, i < s.length → A' i = A i) → zSt A' s
  | [], _, _ => trivial
  | x :: s, h, f => ⟨by rw [f s.length (by simp)]; exact h.1, zSt_up h.2 (fun i hi => f i (by simp; omega))⟩
theorem zfact_0 {L : zL} {n : Nat} {w : Int32} : zfact L n w 0 = 0 ∨ zfact L n w 0 = 1 := by
  show zbi _ = 0 ∨ zbi _ = 1
  cases L.2.2.2.2.2.2 <;> decide
theorem zfact_1 {L : zL} {n : Nat} {w : Int32} : zfact L n w 1 = 0 ∨ zfact L n w 1 = 1 := by
  show (if zsea w = 3 then (1 : Int32) else 0) = 0 ∨ (if zsea w = 3 then (1 : Int32) else 0) = 1
  exact z01_fi
def ymet (F : Nat → Int32) (W : zLw) (i : Nat) : Bool := match zev F (zcl W.2.2.2.2.1 (W.2.2.2.1 i - zbg W i) (zbg W i)) [] with
  | [] => true
  | x :: _ => decide (x = 1)
/-- what FOLLOWS the first n LINES of L in week w -/
def zfol (W : zLw) (L : zL) (n : Nat) (w : Int32) : Option Nat := (zff (fun i => decide (W.2.1 i = L.2.1 (n - 1)) && ymet (zfact L n w) W i) W.1).map W.2.2.1
def zgr (W : zLw) (L : zL) (w : Int32) : Option Nat := if L.2.2.2.2.2.1 = false ∧ L.1 < 24 then zfol W L L.1 w else none
theorem zfol_lt {W : zLw} (hW : zWW W) {L : zL} {n : Nat} {w : Int32} {k : Nat} (h : zfol W L n w = some k) : k < 12 := by
  unfold zfol at h
  rw [Option.map_eq_some_iff] at h
  obtain ⟨i, h1, rfl⟩ := h
  exact (hW.2.2.1 i (zff_lt h1).1).2.1
theorem zgr_lt {W : zLw} (hW : zWW W) {L : zL} {w : Int32} {k : Nat} (h : zgr W L w = some k) : k < 12 ∧ L.1 < 24 ∧ L.2.2.2.2.2.1 = false := by
  unfold zgr at h
  by_cases q : L.2.2.2.2.2.1 = false ∧ L.1 < 24
  · rw [if_pos q] at h; exact ⟨zfol_lt hW h, q.2, q.1⟩
  · rw [if_neg q] at h; exact nomatch h
/-! the class -/
theorem c_learn {g : zM} {r : Nat} {L : zL} (e : zCM g r L) (hr : r ≠ 35 ∧ r + 1 ≠ 35) (hr' : r + 2 ≠ 35) (hL : L.1 ≤ 24) {n : Nat} (hn : n ≤ L.1) (w : Int32) : ∃ g1, fX1_learnFacts 29 r (nI n) w g = some g1 ∧ (∀ k, k < 8 → g1 35 k = zfact L n w k) ∧ ∀ c, c ≠ 35 → g1 c = g c := by
  have e0 := e
  obtain ⟨e1, e2, e3, e4, e5, e6, e7⟩ := e
  have key : ∀ (a b c : Int32), a = zfact L n w 0 → b = zfact L n w 1 → c = zfact L n w 4 → ∃ g1, some (zset (zset (zset (zset (zset (zset (zset (zset g 35 0 a) 35 1 b) 35 2 (nI n)) 35 3 (g r 3)) 35 4 c) 35 5 w) 35 6 (zsea w)) 35 7 (g r 4)) = some g1 ∧ (∀ k, k < 8 → g1 35 k = zfact L n w k) ∧ ∀ c, c ≠ 35 → g1 c = g c := by
    intro a b c ha hb hc
    refine ⟨_, rfl, fun k hk => ?_, fun c h => ?_⟩
    · have hk : k = 0 ∨ k = 1 ∨ k = 2 ∨ k = 3 ∨ k = 4 ∨ k = 5 ∨ k = 6 ∨ k = 7 := by omega
      rcases hk with rfl | rfl | rfl | rfl | rfl | rfl | rfl | rfl <;> simp (disch := omega) only [nL_lt, nL_gt, nL_le, nL_ge, nL_eq, nL_qe, nI_ltI, nI_leI, nI_eq, nL_add, nL_dda, nI_add, nL_sub, pk_sub, nL_mul, nL_clamp, nI_cl, zchk_n, zchk_l, zb_s, zb2_s, zb3_s, zb3_e, zput_e, zjoin_e, zs_hit, zs_miss, nle_t, nle_f, nlt_t, nlt_f, neq_t, neq_f, ↓reduceIte, and_self, and_true, true_and, and_false, false_and, not_true_eq_false, not_false_eq_true, Nat.add_zero] <;> first | assumption | exact e4 | exact e5 | rfl
    · simp (disch := omega) only [nL_lt, nL_gt, nL_le, nL_ge, nL_eq, nL_qe, nI_ltI, nI_leI, nI_eq, nL_add, nL_dda, nI_add, nL_sub, pk_sub, nL_mul, nL_clamp, nI_cl, zchk_n, zchk_l, zb_s, zb2_s, zb3_s, zb3_e, zput_e, zjoin_e, zs_hit, zs_miss, nle_t, nle_f, nlt_t, nlt_f, neq_t, neq_f, ↓reduceIte, and_self, and_true, true_and, and_false, false_and, not_true_eq_false, not_false_eq_true, Nat.add_zero, zs_cell]
  have ha : (if zbi L.2.2.2.2.2.2 = 0 then (0 : Int32) else 1) = zfact L n w 0 := by
    show _ = zbi _
    cases L.2.2.2.2.2.2 <;> decide
  have hb : (if zsea w = 3 then (1 : Int32) else 0) = zfact L n w 1 := rfl
  have kk : 2 ≤ n → ∀ g' : zM, (∀ c, c ≠ 35 → g' c = g c) → fX3_kindAt r (nI (n - 2)) g' = some (nI (L.2.1 (n - 2))) := fun h2 g' hg => c_kindAt (e0.fr (hg _ hr.1) (hg _ hr.2) (hg _ hr')) (by omega) hL
  unfold fX1_learnFacts fX11_seasonOf
  simp only [zb_s, zjoin_ite]
  have hs : w / 13 - w / 13 / 4 * 4 = zsea w := rfl
  simp only [hs, e7]
  by_cases hn2 : n < 2
  · simp (disch := omega) only [nL_lt, nL_gt, nL_le, nL_ge, nL_eq, nL_qe, nI_ltI, nI_leI, nI_eq, nL_add, nL_dda, nI_add, nL_sub, pk_sub, nL_mul, nL_clamp, nI_cl, zchk_n, zchk_l, zb_s, zb2_s, zb3_s, zb3_e, zput_e, zjoin_e, zs_hit, zs_miss, nle_t, nle_f, nlt_t, nlt_f, neq_t, neq_f, ↓reduceIte, and_self, and_true, true_and, and_false, false_and, not_true_eq_false, not_false_eq_true, Nat.add_zero]
    exact key _ _ _ ha hb (by show _ = (if n < 2 then (12 : Int32) else _); rw [if_pos hn2])
  · simp (disch := omega) only [nL_lt, nL_gt, nL_le, nL_ge, nL_eq, nL_qe, nI_ltI, nI_leI, nI_eq, nL_add, nL_dda, nI_add, nL_sub, pk_sub, nL_mul, nL_clamp, nI_cl, zchk_n, zchk_l, zb_s, zb2_s, zb3_s, zb3_e, zput_e, zjoin_e, zs_hit, zs_miss, nle_t, nle_f, nlt_t, nlt_f, neq_t, neq_f, ↓reduceIte, and_self, and_true, true_and, and_false, false_and, not_true_eq_false, not_false_eq_true, Nat.add_zero]
    rw [kk (by omega) _ (fun c hc => by simp (disch := omega) only [nL_lt, nL_gt, nL_le, nL_ge, nL_eq, nL_qe, nI_ltI, nI_leI, nI_eq, nL_add, nL_dda, nI_add, nL_sub, pk_sub, nL_mul, nL_clamp, nI_cl, zchk_n, zchk_l, zb_s, zb2_s, zb3_s, zb3_e, zput_e, zjoin_e, zs_hit, zs_miss, nle_t, nle_f, nlt_t, nlt_f, neq_t, neq_f, ↓reduceIte, and_self, and_true, true_and, and_false, false_and, not_true_eq_false, not_false_eq_true, Nat.add_zero, zs_cell])]
    simp (disch := omega) only [nL_lt, nL_gt, nL_le, nL_ge, nL_eq, nL_qe, nI_ltI, nI_leI, nI_eq, nL_add, nL_dda, nI_add, nL_sub, pk_sub, nL_mul, nL_clamp, nI_cl, zchk_n, zchk_l, zb_s, zb2_s, zb3_s, zb3_e, zput_e, zjoin_e, zs_hit, zs_miss, nle_t, nle_f, nlt_t, nlt_f, neq_t, neq_f, ↓reduceIte, and_self, and_true, true_and, and_false, false_and, not_true_eq_false, not_false_eq_true, Nat.add_zero]
    exact key _ _ _ ha hb (by show _ = (if n < 2 then (12 : Int32) else _); rw [if_neg hn2])

/-- a code of a condition, in the class -/
theorem c_step {g : zM} {W : zLw} (hW : zWW W) (e : zCL g 29 W) {F : Nat → Int32} (hF : ∀ k, k < 8 → g 35 k = F k) {v i : Nat} (hv : v < W.1) (hi : i < W.2.2.2.1 v) {s : List Int32} (hl : s.length ≤ i) (hst : zSt (g 34) s) {t t' : List Bool} (ht : zTy t s) (hc : ztc1 (W.2.2.2.2.1 i) t = some t') (K : Int32 → zM → Option (Int32 × zM)) (n : Nat) :
    ∃ g', fX1_isMet_L22 29 (nI v) K (n + 1) (nI s.length) (nI i) g = fX1_isMet_L22 29 (nI v) K n (nI (zev1 F (W.2.2.2.2.1 i) s).length) (nI (i + 1)) g' ∧ zSt (g' 34) (zev1 F (W.2.2.2.2.1 i) s) ∧ (zev1 F (W.2.2.2.2.1 i) s).length ≤ i + 1 ∧ ∀ c, c ≠ 34 → g' c = g c := by
  obtain ⟨e1, e2, e3, e4, e5⟩ := e
  have hv12 := hW.1
  have hC := hW.2.1
  have hok := (hW.2.2.1 v hv).2.2
  have hiC : i < W.2.2.2.2.2.1 := Nat.lt_of_lt_of_le hi hok.2.1
  have c1 : g 33 i = nI (W.2.2.2.2.1 i) := e3 i hiC
  have c2 : g 32 v = nI (W.2.2.2.1 v) := (e2 v hv).2.2
  have c3 : W.2.2.2.1 v ≤ 400 := by have := hok.2.1; omega
  generalize hcd : W.2.2.2.2.1 i = c at *
  rw [fX1_isMet_L22]
  simp only [Nat.reduceAdd]
  rcases ztc1_cases hc with ⟨hd, rfl⟩ | ⟨rfl, r, rfl, rfl⟩ | hd
  · have hz : zev1 F c s = zval F c :: s := by unfold zev1; rw [if_pos hd]
    rw [hz]
    by_cases h2 : c < 1000
    · simp (disch := omega) only [nL_lt, nL_gt, nL_le, nL_ge, nL_eq, nL_qe, nI_ltI, nI_leI, nI_eq, nL_add, nL_dda, nI_add, nL_sub, pk_sub, nL_mul, nL_clamp, nI_cl, zchk_n, zchk_l, zb_s, zb2_s, zb3_s, zb3_e, zput_e, zjoin_e, zs_hit, zs_miss, nle_t, nle_f, nlt_t, nlt_f, neq_t, neq_f, ↓reduceIte, and_self, and_true, true_and, and_false, false_and, not_true_eq_false, not_false_eq_true, Nat.add_zero, c2, e4, c1]
      refine ⟨_, rfl, ⟨?_, zSt_up hst (fun j hj => ?_)⟩, by simp; omega, fun c h => ?_⟩
      · simp (disch := omega) only [nL_lt, nL_gt, nL_le, nL_ge, nL_eq, nL_qe, nI_ltI, nI_leI, nI_eq, nL_add, nL_dda, nI_add, nL_sub, pk_sub, nL_mul, nL_clamp, nI_cl, zchk_n, zchk_l, zb_s, zb2_s, zb3_s, zb3_e, zput_e, zjoin_e, zs_hit, zs_miss, nle_t, nle_f, nlt_t, nlt_f, neq_t, neq_f, ↓reduceIte, and_self, and_true, true_and, and_false, false_and, not_true_eq_false, not_false_eq_true, Nat.add_zero]; unfold zval; rw [if_pos h2]
      · simp (disch := omega) only [nL_lt, nL_gt, nL_le, nL_ge, nL_eq, nL_qe, nI_ltI, nI_leI, nI_eq, nL_add, nL_dda, nI_add, nL_sub, pk_sub, nL_mul, nL_clamp, nI_cl, zchk_n, zchk_l, zb_s, zb2_s, zb3_s, zb3_e, zput_e, zjoin_e, zs_hit, zs_miss, nle_t, nle_f, nlt_t, nlt_f, neq_t, neq_f, ↓reduceIte, and_self, and_true, true_and, and_false, false_and, not_true_eq_false, not_false_eq_true, Nat.add_zero]
      · simp (disch := omega) only [nL_lt, nL_gt, nL_le, nL_ge, nL_eq, nL_qe, nI_ltI, nI_leI, nI_eq, nL_add, nL_dda, nI_add, nL_sub, pk_sub, nL_mul, nL_clamp, nI_cl, zchk_n, zchk_l, zb_s, zb2_s, zb3_s, zb3_e, zput_e, zjoin_e, zs_hit, zs_miss, nle_t, nle_f, nlt_t, nlt_f, neq_t, neq_f, ↓reduceIte, and_self, and_true, true_and, and_false, false_and, not_true_eq_false, not_false_eq_true, Nat.add_zero, zs_cell]
    · simp (disch := omega) only [nL_lt, nL_gt, nL_le, nL_ge, nL_eq, nL_qe, nI_ltI, nI_leI, nI_eq, nL_add, nL_dda, nI_add, nL_sub, pk_sub, nL_mul, nL_clamp, nI_cl, zchk_n, zchk_l, zb_s, zb2_s, zb3_s, zb3_e, zput_e, zjoin_e, zs_hit, zs_miss, nle_t, nle_f, nlt_t, nlt_f, neq_t, neq_f, ↓reduceIte, and_self, and_true, true_and, and_false, false_and, not_true_eq_false, not_false_eq_true, Nat.add_zero, c2, e4, c1]
      refine ⟨_, rfl, ⟨?_, zSt_up hst (fun j hj => ?_)⟩, by simp; omega, fun c h => ?_⟩
      · simp (disch := omega) only [nL_lt, nL_gt, nL_le, nL_ge, nL_eq, nL_qe, nI_ltI, nI_leI, nI_eq, nL_add, nL_dda, nI_add, nL_sub, pk_sub, nL_mul, nL_clamp, nI_cl, zchk_n, zchk_l, zb_s, zb2_s, zb3_s, zb3_e, zput_e, zjoin_e, zs_hit, zs_miss, nle_t, nle_f, nlt_t, nlt_f, neq_t, neq_f, ↓reduceIte, and_self, and_true, true_and, and_false, false_and, not_true_eq_false, not_false_eq_true, Nat.add_zero]; unfold zval; rw [if_neg h2, hF _ (by omega)]
      · simp (disch := omega) only [nL_lt, nL_gt, nL_le, nL_ge, nL_eq, nL_qe, nI_ltI, nI_leI, nI_eq, nL_add, nL_dda, nI_add, nL_sub, pk_sub, nL_mul, nL_clamp, nI_cl, zchk_n, zchk_l, zb_s, zb2_s, zb3_s, zb3_e, zput_e, zjoin_e, zs_hit, zs_miss, nle_t, nle_f, nlt_t, nlt_f, neq_t, neq_f, ↓reduceIte, and_self, and_true, true_and, and_false, false_and, not_true_eq_false, not_false_eq_true, Nat.add_zero]
      · simp (disch := omega) only [nL_lt, nL_gt, nL_le, nL_ge, nL_eq, nL_qe, nI_ltI, nI_leI, nI_eq, nL_add, nL_dda, nI_add, nL_sub, pk_sub, nL_mul, nL_clamp, nI_cl, zchk_n, zchk_l, zb_s, zb2_s, zb3_s, zb3_e, zput_e, zjoin_e, zs_hit, zs_miss, nle_t, nle_f, nlt_t, nlt_f, neq_t, neq_f, ↓reduceIte, and_self, and_true, true_and, and_false, false_and, not_true_eq_false, not_false_eq_true, Nat.add_zero, zs_cell]
  · obtain ⟨x, r', rfl, hx, hr⟩ := zTy_1 ht
    have hlen : (x :: r').length = r'.length + 1 := rfl
    have h34 : g 34 r'.length = x := hst.1
    rw [hlen] at hl ⊢
    simp (disch := omega) only [nL_lt, nL_gt, nL_le, nL_ge, nL_eq, nL_qe, nI_ltI, nI_leI, nI_eq, nL_add, nL_dda, nI_add, nL_sub, pk_sub, nL_mul, nL_clamp, nI_cl, zchk_n, zchk_l, zb_s, zb2_s, zb3_s, zb3_e, zput_e, zjoin_e, zs_hit, zs_miss, nle_t, nle_f, nlt_t, nlt_f, neq_t, neq_f, ↓reduceIte, and_self, and_true, true_and, and_false, false_and, not_true_eq_false, not_false_eq_true, Nat.add_zero, c2, e4, c1]
    simp only [Nat.add_sub_cancel, h34]
    refine ⟨_, rfl, ⟨?_, zSt_up hst.2 (fun j hj => ?_)⟩, by show r'.length + 1 ≤ _; omega, fun c h => ?_⟩
    · simp (disch := omega) only [nL_lt, nL_gt, nL_le, nL_ge, nL_eq, nL_qe, nI_ltI, nI_leI, nI_eq, nL_add, nL_dda, nI_add, nL_sub, pk_sub, nL_mul, nL_clamp, nI_cl, zchk_n, zchk_l, zb_s, zb2_s, zb3_s, zb3_e, zput_e, zjoin_e, zs_hit, zs_miss, nle_t, nle_f, nlt_t, nlt_f, neq_t, neq_f, ↓reduceIte, and_self, and_true, true_and, and_false, false_and, not_true_eq_false, not_false_eq_true, Nat.add_zero]
    · simp (disch := omega) only [nL_lt, nL_gt, nL_le, nL_ge, nL_eq, nL_qe, nI_ltI, nI_leI, nI_eq, nL_add, nL_dda, nI_add, nL_sub, pk_sub, nL_mul, nL_clamp, nI_cl, zchk_n, zchk_l, zb_s, zb2_s, zb3_s, zb3_e, zput_e, zjoin_e, zs_hit, zs_miss, nle_t, nle_f, nlt_t, nlt_f, neq_t, neq_f, ↓reduceIte, and_self, and_true, true_and, and_false, false_and, not_true_eq_false, not_false_eq_true, Nat.add_zero]
    · simp (disch := omega) only [nL_lt, nL_gt, nL_le, nL_ge, nL_eq, nL_qe, nI_ltI, nI_leI, nI_eq, nL_add, nL_dda, nI_add, nL_sub, pk_sub, nL_mul, nL_clamp, nI_cl, zchk_n, zchk_l, zb_s, zb2_s, zb3_s, zb3_e, zput_e, zjoin_e, zs_hit, zs_miss, nle_t, nle_f, nlt_t, nlt_f, neq_t, neq_f, ↓reduceIte, and_self, and_true, true_and, and_false, false_and, not_true_eq_false, not_false_eq_true, Nat.add_zero, zs_cell]
  · have h2 : ∃ q, zTy q (s.drop 2) ∧ ∃ x y, s = x :: y :: s.drop 2 ∧ (c = 1009 ∨ c = 1010 ∨ c = 1143 ∨ c = 1160 ∨ c = 1162) := by
      rcases hd with ⟨hd, q, rfl, rfl⟩ | ⟨rfl, q, rfl, rfl⟩ | ⟨hd, q, rfl, rfl⟩ <;> obtain ⟨x, y, r', rfl, -, -, hr⟩ := zTy_2 ht <;> exact ⟨q, hr, x, y, rfl, by omega⟩
    obtain ⟨-, -, x, y, hs, hd⟩ := h2
    generalize s.drop 2 = r' at hs
    subst hs
    have hlen : (x :: y :: r').length = r'.length + 1 + 1 := rfl
    have hz : zev1 F c (x :: y :: r') = zjn c y x :: r' := by
      unfold zev1
      rw [if_neg (by omega)]
      simp only
      rw [if_neg (by omega)]
    have hx : g 34 (r'.length + 1) = x := hst.1
    have hy : g 34 r'.length = y := hst.2.1
    have hj : fX1_join (nI c) y x g = some (zjn c y x) := by
      unfold fX1_join zjn
      rcases hd with rfl | rfl | rfl | rfl | rfl <;> simp (disch := omega) only [nL_lt, nL_gt, nL_le, nL_ge, nL_eq, nL_qe, nI_ltI, nI_leI, nI_eq, nL_add, nL_dda, nI_add, nL_sub, pk_sub, nL_mul, nL_clamp, nI_cl, zchk_n, zchk_l, zb_s, zb2_s, zb3_s, zb3_e, zput_e, zjoin_e, zs_hit, zs_miss, nle_t, nle_f, nlt_t, nlt_f, neq_t, neq_f, ↓reduceIte, and_self, and_true, true_and, and_false, false_and, not_true_eq_false, not_false_eq_true, Nat.add_zero] <;> first | rfl | (by_cases q1 : x ≤ y <;> by_cases q2 : y ≤ x <;> simp only [q1, q2, if_true, if_false])
    rw [hlen] at hl ⊢
    rw [hz]
    simp (disch := omega) only [nL_lt, nL_gt, nL_le, nL_ge, nL_eq, nL_qe, nI_ltI, nI_leI, nI_eq, nL_add, nL_dda, nI_add, nL_sub, pk_sub, nL_mul, nL_clamp, nI_cl, zchk_n, zchk_l, zb_s, zb2_s, zb3_s, zb3_e, zput_e, zjoin_e, zs_hit, zs_miss, nle_t, nle_f, nlt_t, nlt_f, neq_t, neq_f, ↓reduceIte, and_self, and_true, true_and, and_false, false_and, not_true_eq_false, not_false_eq_true, Nat.add_zero, c2, e4, c1, nI_m1p]
    simp only [Nat.add_sub_cancel, hx, hy, hj]
    simp (disch := omega) only [nL_lt, nL_gt, nL_le, nL_ge, nL_eq, nL_qe, nI_ltI, nI_leI, nI_eq, nL_add, nL_dda, nI_add, nL_sub, pk_sub, nL_mul, nL_clamp, nI_cl, zchk_n, zchk_l, zb_s, zb2_s, zb3_s, zb3_e, zput_e, zjoin_e, zs_hit, zs_miss, nle_t, nle_f, nlt_t, nlt_f, neq_t, neq_f, ↓reduceIte, and_self, and_true, true_and, and_false, false_and, not_true_eq_false, not_false_eq_true, Nat.add_zero]
    refine ⟨_, rfl, ⟨?_, zSt_up hst.2.2 (fun j hj => ?_)⟩, by show r'.length + 1 ≤ _; omega, fun c h => ?_⟩
    · simp (disch := omega) only [nL_lt, nL_gt, nL_le, nL_ge, nL_eq, nL_qe, nI_ltI, nI_leI, nI_eq, nL_add, nL_dda, nI_add, nL_sub, pk_sub, nL_mul, nL_clamp, nI_cl, zchk_n, zchk_l, zb_s, zb2_s, zb3_s, zb3_e, zput_e, zjoin_e, zs_hit, zs_miss, nle_t, nle_f, nlt_t, nlt_f, neq_t, neq_f, ↓reduceIte, and_self, and_true, true_and, and_false, false_and, not_true_eq_false, not_false_eq_true, Nat.add_zero]
    · simp (disch := omega) only [nL_lt, nL_gt, nL_le, nL_ge, nL_eq, nL_qe, nI_ltI, nI_leI, nI_eq, nL_add, nL_dda, nI_add, nL_sub, pk_sub, nL_mul, nL_clamp, nI_cl, zchk_n, zchk_l, zb_s, zb2_s, zb3_s, zb3_e, zput_e, zjoin_e, zs_hit, zs_miss, nle_t, nle_f, nlt_t, nlt_f, neq_t, neq_f, ↓reduceIte, and_self, and_true, true_and, and_false, false_and, not_true_eq_false, not_false_eq_true, Nat.add_zero]
    · simp (disch := omega) only [nL_lt, nL_gt, nL_le, nL_ge, nL_eq, nL_qe, nI_ltI, nI_leI, nI_eq, nL_add, nL_dda, nI_add, nL_sub, pk_sub, nL_mul, nL_clamp, nI_cl, zchk_n, zchk_l, zb_s, zb2_s, zb3_s, zb3_e, zput_e, zjoin_e, zs_hit, zs_miss, nle_t, nle_f, nlt_t, nlt_f, neq_t, neq_f, ↓reduceIte, and_self, and_true, true_and, and_false, false_and, not_true_eq_false, not_false_eq_true, Nat.add_zero, zs_cell]
theorem zcl_cons {f : Nat → Nat} {e i : Nat} (h : i < e) : zcl f (e - i) i = f i :: zcl f (e - (i + 1)) (i + 1) := by
  obtain ⟨d, hd⟩ : ∃ d, e - i = d + 1 := ⟨e - i - 1, by omega⟩
  rw [hd, show e - (i + 1) = d from by omega]
  rfl
/-- the end of a condition: what lies on the stack -/
def zmt (s : List Int32) : Bool := match s with
  | [] => true
  | x :: _ => decide (x = 1)
theorem ztc_fin {F : Nat → Int32} (h0 : F 0 = 0 ∨ F 0 = 1) (h1 : F 1 = 0 ∨ F 1 = 1) : ∀ {l : List Nat} {t t' : List Bool} {s : List Int32}, ztc l t = some t' → zTy t s → zTy t' (zev F l s)
  | [], t, t', s, h, hs => by cases h; exact hs
  | c :: r, t, t', s, h, hs => by
    unfold ztc at h
    cases q : ztc1 c t with
    | none => rw [q] at h; exact nomatch h
    | some t1 => rw [q] at h; exact ztc_fin (l := r) h0 h1 h (zev1_ty h0 h1 q hs)
/-- the loop over a condition's codes, in the class -/
theorem c_metL {W : zLw} (hW : zWW W) {F : Nat → Int32} (h0 : F 0 = 0 ∨ F 0 = 1) (h1 : F 1 = 0 ∨ F 1 = 1) {v : Nat} (hv : v < W.1) (K : Int32 → zM → Option (Int32 × zM)) (tf : List Bool) : ∀ (d i n : Nat) (s : List Int32) (t : List Bool) (g : zM), i + d = W.2.2.2.1 v → d < n → zCL g 29 W → (∀ k, k < 8 → g 35 k = F k) → s.length ≤ i → zSt (g 34) s → zTy t s → ztc (zcl W.2.2.2.2.1 d i) t = some tf →
    ∃ g', fX1_isMet_L22 29 (nI v) K n (nI s.length) (nI i) g = K (nI (zev F (zcl W.2.2.2.2.1 d i) s).length) g' ∧ zSt (g' 34) (zev F (zcl W.2.2.2.2.1 d i) s) ∧ ∀ c, c ≠ 34 → g' c = g c := by
  intro d
  have hok := (hW.2.2.1 v hv).2.2
  have hC := hW.2.1
  have hS := hW.1
  have hE := hok.2.1
  induction d with
  | zero =>
    intro i n s t g hi hn e hF hl hst ht hc
    obtain ⟨m, rfl⟩ : ∃ m, n = m + 1 := ⟨n - 1, by omega⟩
    have c2 : g 32 v = nI (W.2.2.2.1 v) := (e.2.1 v hv).2.2
    refine ⟨g, ?_, hst, fun _ _ => rfl⟩
    rw [fX1_isMet_L22]
    simp (disch := omega) only [nL_lt, nL_gt, nL_le, nL_ge, nL_eq, nL_qe, nI_ltI, nI_leI, nI_eq, nL_add, nL_dda, nI_add, nL_sub, pk_sub, nL_mul, nL_clamp, nI_cl, zchk_n, zchk_l, zb_s, zb2_s, zb3_s, zb3_e, zput_e, zjoin_e, zs_hit, zs_miss, nle_t, nle_f, nlt_t, nlt_f, neq_t, neq_f, ↓reduceIte, and_self, and_true, true_and, and_false, false_and, not_true_eq_false, not_false_eq_true, Nat.add_zero, Nat.reduceAdd, c2]
    rfl
  | succ d ih =>
    intro i n s t g hi hn e hF hl hst ht hc
    obtain ⟨m, rfl⟩ : ∃ m, n = m + 1 := ⟨n - 1, by omega⟩
    have hc' : ztc (W.2.2.2.2.1 i :: zcl W.2.2.2.2.1 d (i + 1)) t = some tf := hc
    unfold ztc at hc'
    cases q : ztc1 (W.2.2.2.2.1 i) t with
    | none => rw [q] at hc'; exact nomatch hc'
    | some t1 =>
      rw [q] at hc'
      obtain ⟨g1, a1, a2, a3, a4⟩ := c_step hW e hF hv (by omega) hl hst ht q K m
      obtain ⟨g2, b1, b2, b3⟩ := ih (i + 1) m _ t1 g1 (by omega) (by omega) (e.fr (fun c _ _ => a4 c (by omega))) (fun k hk => by rw [a4 35 (by omega)]; exact hF k hk) a3 a2 (zev1_ty h0 h1 q ht) hc'
      exact ⟨g2, a1.trans b1, b2, fun c h => (b3 c h).trans (a4 c h)⟩
theorem zmet_eq (F : Nat → Int32) (W : zLw) (i : Nat) : ymet F W i = zmt (zev F (zcl W.2.2.2.2.1 (W.2.2.2.1 i - zbg W i) (zbg W i)) []) := rfl
theorem c_isMet {g : zM} {W : zLw} (hW : zWW W) (e : zCL g 29 W) {F : Nat → Int32} (h0 : F 0 = 0 ∨ F 0 = 1) (h1 : F 1 = 0 ∨ F 1 = 1) (hF : ∀ k, k < 8 → g 35 k = F k) {v : Nat} (hv : v < W.1) : ∃ g', fX1_isMet 29 (nI v) g = some (zbi (ymet F W v), g') ∧ ∀ c, c ≠ 34 → g' c = g c := by
  have hok := (hW.2.2.1 v hv).2.2
  have hC := hW.2.1
  have hS := hW.1
  have hE := hok.2.1
  have key : ∃ g', fX1_isMet_L22 29 (nI v) (fun v2_27 g27 => if v2_27 = 0 then some (1, g27) else zchk (v2_27 - 1) 400 (if (g27 (29 + 5) (v2_27 - 1).toNatClampNeg) = 0 then some (0, g27) else some (1, g27))) zFU (nI 0) (nI (zbg W v)) g = some (zbi (ymet F W v), g') ∧ ∀ c, c ≠ 34 → g' c = g c := by
    rw [zmet_eq]
    by_cases hb : zbg W v < W.2.2.2.1 v
    · obtain ⟨g', a1, a2, a3⟩ := c_metL hW h0 h1 hv (fun v2_27 g27 => if v2_27 = 0 then some (1, g27) else zchk (v2_27 - 1) 400 (if (g27 (29 + 5) (v2_27 - 1).toNatClampNeg) = 0 then some (0, g27) else some (1, g27))) [true] (W.2.2.2.1 v - zbg W v) (zbg W v) zFU [] [] g (by omega) (by unfold zFU; omega) e hF (Nat.zero_le _) trivial trivial (hok.2.2 hb)
      have ty := ztc_fin h0 h1 (hok.2.2 hb) (s := []) trivial
      refine ⟨g', ?_, a3⟩
      refine a1.trans ?_
      generalize zev F (zcl W.2.2.2.2.1 (W.2.2.2.1 v - zbg W v) (zbg W v)) [] = st at *
      obtain ⟨x, r, rfl, hx, hr⟩ := zTy_1 ty
      match r, hr with
      | [], _ =>
        have hx' : g' 34 0 = x := a2.1
        simp (disch := omega) only [nL_lt, nL_gt, nL_le, nL_ge, nL_eq, nL_qe, nI_ltI, nI_leI, nI_eq, nL_add, nL_dda, nI_add, nL_sub, pk_sub, nL_mul, nL_clamp, nI_cl, zchk_n, zchk_l, zb_s, zb2_s, zb3_s, zb3_e, zput_e, zjoin_e, zs_hit, zs_miss, nle_t, nle_f, nlt_t, nlt_f, neq_t, neq_f, ↓reduceIte, and_self, and_true, true_and, and_false, false_and, not_true_eq_false, not_false_eq_true, Nat.add_zero, List.length_cons, List.length_nil, Nat.reduceAdd, Nat.reduceSub, hx']
        rcases hx rfl with rfl | rfl <;> rfl
    · have hbe : zbg W v = W.2.2.2.1 v := by have := hok.1; omega
      refine ⟨g, ?_, fun _ _ => rfl⟩
      have c2 : g 32 v = nI (W.2.2.2.1 v) := (e.2.1 v hv).2.2
      show fX1_isMet_L22 29 (nI v) _ (99999 + 1) _ _ _ = _
      rw [fX1_isMet_L22, hbe, Nat.sub_self]
      simp (disch := omega) only [nL_lt, nL_gt, nL_le, nL_ge, nL_eq, nL_qe, nI_ltI, nI_leI, nI_eq, nL_add, nL_dda, nI_add, nL_sub, pk_sub, nL_mul, nL_clamp, nI_cl, zchk_n, zchk_l, zb_s, zb2_s, zb3_s, zb3_e, zput_e, zjoin_e, zs_hit, zs_miss, nle_t, nle_f, nlt_t, nlt_f, neq_t, neq_f, ↓reduceIte, and_self, and_true, true_and, and_false, false_and, not_true_eq_false, not_false_eq_true, Nat.add_zero, Nat.reduceAdd, c2]
      rfl
  unfold fX1_isMet
  by_cases hv0 : v = 0
  · subst hv0
    simp (disch := omega) only [nL_lt, nL_gt, nL_le, nL_ge, nL_eq, nL_qe, nI_ltI, nI_leI, nI_eq, nL_add, nL_dda, nI_add, nL_sub, pk_sub, nL_mul, nL_clamp, nI_cl, zchk_n, zchk_l, zb_s, zb2_s, zb3_s, zb3_e, zput_e, zjoin_e, zs_hit, zs_miss, nle_t, nle_f, nlt_t, nlt_f, neq_t, neq_f, ↓reduceIte, and_self, and_true, true_and, and_false, false_and, not_true_eq_false, not_false_eq_true, Nat.add_zero]
    have : zbg W 0 = 0 := rfl
    rw [this] at key
    exact key
  · have : zbg W v = W.2.2.2.1 (v - 1) := if_neg hv0
    rw [this] at key
    have c2 : g (29 + 3) (v - 1) = nI (W.2.2.2.1 (v - 1)) := (e.2.1 (v - 1) (by omega)).2.2
    simp (disch := omega) only [nL_lt, nL_gt, nL_le, nL_ge, nL_eq, nL_qe, nI_ltI, nI_leI, nI_eq, nL_add, nL_dda, nI_add, nL_sub, pk_sub, nL_mul, nL_clamp, nI_cl, zchk_n, zchk_l, zb_s, zb2_s, zb3_s, zb3_e, zput_e, zjoin_e, zs_hit, zs_miss, nle_t, nle_f, nlt_t, nlt_f, neq_t, neq_f, ↓reduceIte, and_self, and_true, true_and, and_false, false_and, not_true_eq_false, not_false_eq_true, Nat.add_zero, c2]
    exact key
theorem c_follows {g : zM} {W : zLw} (hW : zWW W) (e : zCL g 29 W) {r : Nat} {L : zL} (eL : zCM g r L) (hr : r + 2 < 29 ∨ 36 ≤ r) (hL : zLW L) {n : Nat} (h1 : 1 ≤ n) (hn : n ≤ L.1) (w : Int32) : ∃ g', fX1_follows 29 r (nI n) w g = some (zoi (zfol W L n w), g') ∧ ∀ c, c ≠ 34 → c ≠ 35 → g' c = g c := by
  have h24 := hL.2.1
  obtain ⟨g1, a1, a2, a3⟩ := c_learn eL (by omega) (by omega) h24 hn w
  unfold fX1_follows
  rw [nL_sub h1, c_kindAt eL (by omega) h24]
  simp only [zb_s, a1]
  have hS := hW.1
  have hk := hL.2.2 (n - 1) (by omega)
  unfold zfol
  generalize hlast : L.2.1 (n - 1) = last at *
  refine zL_Q0 (fun n i (s : zM) => fX1_follows_L19 29 (nI last) (fun v5_8 g8 => zchk v5_8 12 (some (g8 (29 + 2) v5_8.toNatClampNeg, g8))) n (nI i) s) (fun i s => (∀ c, c ≠ 34 → s c = g1 c) ∧ ∀ j, j < i → (decide (W.2.1 j = last) && ymet (zfact L n w) W j) = false) W.1 (fun r => ∃ g', r = some (zoi ((zff (fun i => decide (W.2.1 i = last) && ymet (zfact L n w) W i) W.1).map W.2.2.1), g') ∧ ∀ c, c ≠ 34 → c ≠ 35 → g' c = g c) g1 (by omega) ⟨fun _ _ => rfl, fun j hj => absurd hj (by omega)⟩ (fun m i s hi h => ?_) (fun m s h => ?_)
  · obtain ⟨b1, b2⟩ := h
    have e' : zCL s 29 W := e.fr (fun c _ _ => by rw [b1 c (by omega), a3 c (by omega)])
    have c0 : s 29 7 = nI W.1 := e'.1
    have c1 : s 30 i = nI (W.2.1 i) := (e'.2.1 i hi).1
    have k1 := (hW.2.2.1 i hi).1
    obtain ⟨s', d1, d2⟩ := c_isMet hW e' zfact_0 zfact_1 (fun k hk => by rw [b1 35 (by omega)]; exact a2 k hk) hi
    have c2 : s' 31 i = nI (W.2.2.1 i) := by rw [d2 31 (by omega)]; exact (e'.2.1 i hi).2.1
    simp only [fX1_follows_L19, Nat.reduceAdd, c0]
    simp (disch := omega) only [nL_lt, nL_gt, nL_le, nL_ge, nL_eq, nL_qe, nI_ltI, nI_leI, nI_eq, nL_add, nL_dda, nI_add, nL_sub, pk_sub, nL_mul, nL_clamp, nI_cl, zchk_n, zchk_l, zb_s, zb2_s, zb3_s, zb3_e, zput_e, zjoin_e, zs_hit, zs_miss, nle_t, nle_f, nlt_t, nlt_f, neq_t, neq_f, ↓reduceIte, and_self, and_true, true_and, and_false, false_and, not_true_eq_false, not_false_eq_true, Nat.add_zero, c1]
    have next : (decide (W.2.1 i = last) && ymet (zfact L n w) W i) = false → ∀ j, j < i + 1 → (decide (W.2.1 j = last) && ymet (zfact L n w) W j) = false := fun q j hj => by
      rcases Nat.lt_succ_iff_lt_or_eq.mp hj with q2 | q2
      · exact b2 j q2
      · rw [q2]; exact q
    by_cases q1 : W.2.1 i = last
    · simp only [if_pos q1, d1, zb2_s]
      cases q2 : ymet (zfact L n w) W i
      · right
        exact ⟨s', ⟨fun c h => (d2 c h).trans (b1 c h), next (by rw [q2]; simp)⟩, by simp [zbi]⟩
      · left
        refine ⟨s', ?_, fun c h1 h2 => ?_⟩
        · rw [zff_some hi b2 (by rw [q2, q1]; simp)]
          simp only [zbi_t, zi10, if_false, Option.map_some, zoi]
          simp (disch := omega) only [nL_lt, nL_gt, nL_le, nL_ge, nL_eq, nL_qe, nI_ltI, nI_leI, nI_eq, nL_add, nL_dda, nI_add, nL_sub, pk_sub, nL_mul, nL_clamp, nI_cl, zchk_n, zchk_l, zb_s, zb2_s, zb3_s, zb3_e, zput_e, zjoin_e, zs_hit, zs_miss, nle_t, nle_f, nlt_t, nlt_f, neq_t, neq_f, ↓reduceIte, and_self, and_true, true_and, and_false, false_and, not_true_eq_false, not_false_eq_true, Nat.add_zero, c2]
        · rw [d2 c h1, b1 c h1, a3 c h2]
    · simp only [if_neg q1]
      right
      exact ⟨s, ⟨b1, next (by simp [q1])⟩, rfl⟩
  · obtain ⟨b1, b2⟩ := h
    have c0 : s 29 7 = nI W.1 := by rw [b1 29 (by omega), a3 29 (by omega)]; exact e.1
    simp only [fX1_follows_L19, c0]
    simp (disch := omega) only [nL_lt, nL_gt, nL_le, nL_ge, nL_eq, nL_qe, nI_ltI, nI_leI, nI_eq, nL_add, nL_dda, nI_add, nL_sub, pk_sub, nL_mul, nL_clamp, nI_cl, zchk_n, zchk_l, zb_s, zb2_s, zb3_s, zb3_e, zput_e, zjoin_e, zs_hit, zs_miss, nle_t, nle_f, nlt_t, nlt_f, neq_t, neq_f, ↓reduceIte, and_self, and_true, true_and, and_false, false_and, not_true_eq_false, not_false_eq_true, Nat.add_zero]
    refine ⟨s, ?_, fun c h1 h2 => by rw [b1 c h1, a3 c h2]⟩
    rw [zff_none b2]
    rfl
theorem c_growth {g : zM} {W : zLw} (hW : zWW W) (e : zCL g 29 W) {r : Nat} {L : zL} (eL : zCM g r L) (hr : r + 2 < 29 ∨ 36 ≤ r) (hL : zLW L) (w : Int32) : ∃ g', fX1_growth 29 r w g = some (zoi (zgr W L w), g') ∧ ∀ c, c ≠ 34 → c ≠ 35 → g' c = g c := by
  have h24 := hL.2.1
  unfold fX1_growth zgr
  rw [eL.1, eL.2.2.2.2.2.1]
  cases L.2.2.2.2.2.1
  · by_cases q : L.1 < 24
    · obtain ⟨g', a1, a2⟩ := c_follows hW e eL hr hL hL.1 (Nat.le_refl _) w
      refine ⟨g', ?_, a2⟩
      simp only [zbi_f, if_true, q, and_self, a1, zb2_s]
      simp (disch := omega) only [nL_lt, nL_gt, nL_le, nL_ge, nL_eq, nL_qe, nI_ltI, nI_leI, nI_eq, nL_add, nL_dda, nI_add, nL_sub, pk_sub, nL_mul, nL_clamp, nI_cl, zchk_n, zchk_l, zb_s, zb2_s, zb3_s, zb3_e, zput_e, zjoin_e, zs_hit, zs_miss, nle_t, nle_f, nlt_t, nlt_f, neq_t, neq_f, ↓reduceIte, and_self, and_true, true_and, and_false, false_and, not_true_eq_false, not_false_eq_true, Nat.add_zero]
    · refine ⟨g, ?_, fun _ _ _ => rfl⟩
      simp only [zbi_f, if_true, q, and_false]
      simp (disch := omega) only [nL_lt, nL_gt, nL_le, nL_ge, nL_eq, nL_qe, nI_ltI, nI_leI, nI_eq, nL_add, nL_dda, nI_add, nL_sub, pk_sub, nL_mul, nL_clamp, nI_cl, zchk_n, zchk_l, zb_s, zb2_s, zb3_s, zb3_e, zput_e, zjoin_e, zs_hit, zs_miss, nle_t, nle_f, nlt_t, nlt_f, neq_t, neq_f, ↓reduceIte, and_self, and_true, true_and, and_false, false_and, not_true_eq_false, not_false_eq_true, Nat.add_zero]
      rfl
  · exact ⟨g, by simp [zbi, zoi], fun _ _ _ => rfl⟩
/-! the reference -/
/-- the reference's row: the LINES of L, of which n are looked at, in week w -/
def zRR (g : zM) (L : zL) (n : Nat) (w : Int32) : Prop := g 493 19 = nI n ∧ (∀ i, i < L.1 → g 502 i = nI (L.2.1 i)) ∧ g 493 20 = L.2.2.2.1 ∧ g 493 21 = L.2.2.2.2.1 ∧ g 493 22 = w ∧ g 493 23 = zbi L.2.2.2.2.2.1 ∧ g 493 24 = zbi L.2.2.2.2.2.2
theorem zRR.fr {g g1 : zM} {L : zL} {n : Nat} {w : Int32} (e : zRR g L n w) (f0 : g1 493 = g 493) (f1 : g1 502 = g 502) : zRR g1 L n w := by
  unfold zRR at e ⊢
  rw [f0, f1]
  exact e
theorem r_factOf {g : zM} {L : zL} {n : Nat} {w : Int32} (e : zRR g L n w) (hL : L.1 ≤ 24) (hn : n ≤ L.1) {c : Nat} (hc : c ≤ 1007) : fX12_factOf (nI (zen c)) (nI (zem c)) g = some (zval (zfact L n w) c) := by
  obtain ⟨e1, e2, e3, e4, e5, e6, e7⟩ := e
  have sea : fX12_seasonOf w g = some (zsea w) := rfl
  unfold fX12_factOf zval
  by_cases h : c < 1000
  · have z1 : zen c = 8 := by unfold zen; rw [if_pos h]
    have z2 : zem c = c := by unfold zem; rw [if_pos h]
    rw [z1, z2]
    simp (disch := omega) only [nL_lt, nL_gt, nL_le, nL_ge, nL_eq, nL_qe, nI_ltI, nI_leI, nI_eq, nL_add, nL_dda, nI_add, nL_sub, pk_sub, nL_mul, nL_clamp, nI_cl, zchk_n, zchk_l, zb_s, zb2_s, zb3_s, zb3_e, zput_e, zjoin_e, zs_hit, zs_miss, nle_t, nle_f, nlt_t, nlt_f, neq_t, neq_f, ↓reduceIte, and_self, and_true, true_and, and_false, false_and, not_true_eq_false, not_false_eq_true, Nat.add_zero]
  · have hc : c = 1000 ∨ c = 1001 ∨ c = 1002 ∨ c = 1003 ∨ c = 1004 ∨ c = 1005 ∨ c = 1006 ∨ c = 1007 := by omega
    rcases hc with rfl | rfl | rfl | rfl | rfl | rfl | rfl | rfl
    · rw [show zen 1000 = 6 from rfl]
      simp (disch := omega) only [nL_lt, nL_gt, nL_le, nL_ge, nL_eq, nL_qe, nI_ltI, nI_leI, nI_eq, nL_add, nL_dda, nI_add, nL_sub, pk_sub, nL_mul, nL_clamp, nI_cl, zchk_n, zchk_l, zb_s, zb2_s, zb3_s, zb3_e, zput_e, zjoin_e, zs_hit, zs_miss, nle_t, nle_f, nlt_t, nlt_f, neq_t, neq_f, ↓reduceIte, and_self, and_true, true_and, and_false, false_and, not_true_eq_false, not_false_eq_true, Nat.add_zero, Nat.reduceSub, e7]
      unfold zfact
      cases L.2.2.2.2.2.2 <;> simp [zbi]
    · rw [show zen 1001 = 7 from rfl]
      simp (disch := omega) only [nL_lt, nL_gt, nL_le, nL_ge, nL_eq, nL_qe, nI_ltI, nI_leI, nI_eq, nL_add, nL_dda, nI_add, nL_sub, pk_sub, nL_mul, nL_clamp, nI_cl, zchk_n, zchk_l, zb_s, zb2_s, zb3_s, zb3_e, zput_e, zjoin_e, zs_hit, zs_miss, nle_t, nle_f, nlt_t, nlt_f, neq_t, neq_f, ↓reduceIte, and_self, and_true, true_and, and_false, false_and, not_true_eq_false, not_false_eq_true, Nat.add_zero, Nat.reduceSub, e5, sea]
      unfold zfact
      by_cases q : zsea w = 3 <;> simp [q]
    · rw [show zen 1002 = 0 from rfl]
      simp (disch := omega) only [nL_lt, nL_gt, nL_le, nL_ge, nL_eq, nL_qe, nI_ltI, nI_leI, nI_eq, nL_add, nL_dda, nI_add, nL_sub, pk_sub, nL_mul, nL_clamp, nI_cl, zchk_n, zchk_l, zb_s, zb2_s, zb3_s, zb3_e, zput_e, zjoin_e, zs_hit, zs_miss, nle_t, nle_f, nlt_t, nlt_f, neq_t, neq_f, ↓reduceIte, and_self, and_true, true_and, and_false, false_and, not_true_eq_false, not_false_eq_true, Nat.add_zero, Nat.reduceSub, e1]
      rfl
    · rw [show zen 1003 = 1 from rfl]
      simp (disch := omega) only [nL_lt, nL_gt, nL_le, nL_ge, nL_eq, nL_qe, nI_ltI, nI_leI, nI_eq, nL_add, nL_dda, nI_add, nL_sub, pk_sub, nL_mul, nL_clamp, nI_cl, zchk_n, zchk_l, zb_s, zb2_s, zb3_s, zb3_e, zput_e, zjoin_e, zs_hit, zs_miss, nle_t, nle_f, nlt_t, nlt_f, neq_t, neq_f, ↓reduceIte, and_self, and_true, true_and, and_false, false_and, not_true_eq_false, not_false_eq_true, Nat.add_zero, Nat.reduceSub, e3]
      rfl
    · rw [show zen 1004 = 2 from rfl]
      simp (disch := omega) only [nL_lt, nL_gt, nL_le, nL_ge, nL_eq, nL_qe, nI_ltI, nI_leI, nI_eq, nL_add, nL_dda, nI_add, nL_sub, pk_sub, nL_mul, nL_clamp, nI_cl, zchk_n, zchk_l, zb_s, zb2_s, zb3_s, zb3_e, zput_e, zjoin_e, zs_hit, zs_miss, nle_t, nle_f, nlt_t, nlt_f, neq_t, neq_f, ↓reduceIte, and_self, and_true, true_and, and_false, false_and, not_true_eq_false, not_false_eq_true, Nat.add_zero, Nat.reduceSub, e1]
      unfold zfact
      by_cases q : n < 2
      · simp (disch := omega) only [nL_lt, nL_gt, nL_le, nL_ge, nL_eq, nL_qe, nI_ltI, nI_leI, nI_eq, nL_add, nL_dda, nI_add, nL_sub, pk_sub, nL_mul, nL_clamp, nI_cl, zchk_n, zchk_l, zb_s, zb2_s, zb3_s, zb3_e, zput_e, zjoin_e, zs_hit, zs_miss, nle_t, nle_f, nlt_t, nlt_f, neq_t, neq_f, ↓reduceIte, and_self, and_true, true_and, and_false, false_and, not_true_eq_false, not_false_eq_true, Nat.add_zero]
      · simp (disch := omega) only [nL_lt, nL_gt, nL_le, nL_ge, nL_eq, nL_qe, nI_ltI, nI_leI, nI_eq, nL_add, nL_dda, nI_add, nL_sub, pk_sub, nL_mul, nL_clamp, nI_cl, zchk_n, zchk_l, zb_s, zb2_s, zb3_s, zb3_e, zput_e, zjoin_e, zs_hit, zs_miss, nle_t, nle_f, nlt_t, nlt_f, neq_t, neq_f, ↓reduceIte, and_self, and_true, true_and, and_false, false_and, not_true_eq_false, not_false_eq_true, Nat.add_zero, e2]
    · rw [show zen 1005 = 3 from rfl]
      simp (disch := omega) only [nL_lt, nL_gt, nL_le, nL_ge, nL_eq, nL_qe, nI_ltI, nI_leI, nI_eq, nL_add, nL_dda, nI_add, nL_sub, pk_sub, nL_mul, nL_clamp, nI_cl, zchk_n, zchk_l, zb_s, zb2_s, zb3_s, zb3_e, zput_e, zjoin_e, zs_hit, zs_miss, nle_t, nle_f, nlt_t, nlt_f, neq_t, neq_f, ↓reduceIte, and_self, and_true, true_and, and_false, false_and, not_true_eq_false, not_false_eq_true, Nat.add_zero, Nat.reduceSub, e5]
      rfl
    · rw [show zen 1006 = 4 from rfl]
      simp (disch := omega) only [nL_lt, nL_gt, nL_le, nL_ge, nL_eq, nL_qe, nI_ltI, nI_leI, nI_eq, nL_add, nL_dda, nI_add, nL_sub, pk_sub, nL_mul, nL_clamp, nI_cl, zchk_n, zchk_l, zb_s, zb2_s, zb3_s, zb3_e, zput_e, zjoin_e, zs_hit, zs_miss, nle_t, nle_f, nlt_t, nlt_f, neq_t, neq_f, ↓reduceIte, and_self, and_true, true_and, and_false, false_and, not_true_eq_false, not_false_eq_true, Nat.add_zero, Nat.reduceSub, e5, sea]
      rfl
    · rw [show zen 1007 = 5 from rfl]
      simp (disch := omega) only [nL_lt, nL_gt, nL_le, nL_ge, nL_eq, nL_qe, nI_ltI, nI_leI, nI_eq, nL_add, nL_dda, nI_add, nL_sub, pk_sub, nL_mul, nL_clamp, nI_cl, zchk_n, zchk_l, zb_s, zb2_s, zb3_s, zb3_e, zput_e, zjoin_e, zs_hit, zs_miss, nle_t, nle_f, nlt_t, nlt_f, neq_t, neq_f, ↓reduceIte, and_self, and_true, true_and, and_false, false_and, not_true_eq_false, not_false_eq_true, Nat.add_zero, Nat.reduceSub, e4]
      rfl
