/-! calls that ask: the frame of their proofs, and what they count -/
def zRa (l : List Nat) (r : Except Nat Int32) (x : Option (Int32 × zM)) (g : zM) : Prop := ∃ b g1, x = some (b, g1) ∧ zFR g g1 ∧ match r with
  | .ok a => g1 493 0 = 0 ∧ b = a
  | .error c => c ∈ l ∧ g1 493 0 = nI (l.idxOf c + 1)
def zAsk (l : List Nat) (S : zS) (f : zM → Option (Except Nat Int32 × zM)) (fm : zM → Option (Int32 × zM)) : Prop := ∃ r : Except Nat Int32, (∀ g, zCI S g → ∃ g1, f g = some (r, g1) ∧ zFC g g1) ∧ ∀ g, zRI S g → zRa l r (fm g) g
theorem zRa_err {l : List Nat} {c : Nat} {x : Option (Int32 × zM)} {g : zM} {b t : Int32} (hc : c ∈ l) (ht : t = nI (l.idxOf c + 1)) (hx : x = some (b, zset (zset g 493 0 0) 493 0 t)) : zRa l (.error c) x g := ⟨b, _, hx, zFR.thr.trans zFR.thr, hc, by rw [← ht]; simp (disch := omega) only [nL_lt, nL_gt, nL_le, nL_ge, nL_eq, nL_qe, nI_ltI, nI_leI, nI_eq, nL_add, nL_dda, nI_add, nL_sub, pk_sub, nL_mul, nL_clamp, nI_cl, zchk_n, zchk_l, zb_s, zb2_s, zb3_s, zb3_e, zput_e, zjoin_e, zs_hit, zs_miss, nle_t, nle_f, nlt_t, nlt_f, neq_t, neq_f, ↓reduceIte, and_self, and_true, true_and, and_false, false_and, not_true_eq_false, not_false_eq_true, Nat.add_zero]⟩
theorem zRa_ok {l : List Nat} {a : Int32} {x : Option (Int32 × zM)} {g g1 : zM} (hx : x = some (a, g1)) (hf : zFQ (zset g 493 0 0) g1) : zRa l (.ok a) x g := ⟨a, g1, hx, zFR.thr.trans hf.fr, by rw [hf.2 0 (by omega)]; simp (disch := omega) only [nL_lt, nL_gt, nL_le, nL_ge, nL_eq, nL_qe, nI_ltI, nI_leI, nI_eq, nL_add, nL_dda, nI_add, nL_sub, pk_sub, nL_mul, nL_clamp, nI_cl, zchk_n, zchk_l, zb_s, zb2_s, zb3_s, zb3_e, zput_e, zjoin_e, zs_hit, zs_miss, nle_t, nle_f, nlt_t, nlt_f, neq_t, neq_f, ↓reduceIte, and_self, and_true, true_and, and_false, false_and, not_true_eq_false, not_false_eq_true, Nat.add_zero], rfl⟩
theorem zRI.thr {S : zS} {g : zM} (e : zRI S g) (hS : zSW S) (t : Int32) : zRI S (zset g 493 0 t) := e.fr hS zFR.thr
theorem zsz {S : zS} (hS : zSW S) : (zSB S).1 < 2147483648 := by have := hS.eight; omega
theorem zpz {S : zS} (hS : zSW S) : (zSV S).2.2.2.1 < 2147483648 := by have := hS.proms; omega
theorem zRa_err2 {l : List Nat} {c : Nat} {x : Option (Int32 × zM)} {g : zM} {b t : Int32} (hx : x = some (b, zset (zset g 493 0 0) 493 0 t)) (hc : c ∈ l ∧ t = nI (l.idxOf c + 1)) : zRa l (.error c) x g := zRa_err hc.1 hc.2 hx
/-! PROMISES -/
def zpr (L : zL) (f : Int32) : Nat → Bool
  | 0 => false
  | i + 1 => zpr L f i || decide (nI (L.2.1 i) = f)
def zbd (L : zL) (f s : Int32) : Nat → Bool
  | 0 => false
  | i + 1 => zbd L f s i || (zpr L f i && decide (nI (L.2.1 i) = s))
theorem zbd_mono {L : zL} {f s : Int32} {i : Nat} (h : zbd L f s i = true) : ∀ d, zbd L f s (i + d) = true
  | 0 => h
  | d + 1 => by show (zbd L f s (i + d) || _) = true; rw [zbd_mono h d]; rfl
theorem zbd_up {L : zL} {f s : Int32} {i n : Nat} (h : zbd L f s i = true) (hi : i ≤ n) : zbd L f s n = true := by
  obtain ⟨d, rfl⟩ : ∃ d, n = i + d := ⟨n - i, by omega⟩
  exact zbd_mono h d
theorem c_binds {g : zM} {h : Nat} {L : zL} (e : zCM g h L) (hL : L.1 ≤ 24) (f s : Int32) : fX3_binds h f s g = some (zbi (zbd L f s L.1)) := by
  unfold fX3_binds
  refine zL_Q0 (fun n i (st : Int32) => fX3_binds_L5 h f s g n st (nI i)) (fun i st => st = zbi (zpr L f i) ∧ zbd L f s i = false) L.1 (fun r => r = some (zbi (zbd L f s L.1))) 0 (by omega) ⟨rfl, rfl⟩ (fun m i st hi hh => ?_) (fun m st hh => ?_)
  · obtain ⟨rfl, b2⟩ := hh
    have ek := e.2.1 i hi
    simp only [fX3_binds_L5, e.1]
    simp (disch := omega) only [nL_lt, nL_gt, nL_le, nL_ge, nL_eq, nL_qe, nI_ltI, nI_leI, nI_eq, nL_add, nL_dda, nI_add, nL_sub, pk_sub, nL_mul, nL_clamp, nI_cl, zchk_n, zchk_l, zb_s, zb2_s, zb3_s, zb3_e, zput_e, zjoin_e, zs_hit, zs_miss, nle_t, nle_f, nlt_t, nlt_f, neq_t, neq_f, ↓reduceIte, and_self, and_true, true_and, and_false, false_and, not_true_eq_false, not_false_eq_true, Nat.add_zero, ek]
    cases q : zpr L f i
    · right
      refine ⟨zbi (zpr L f (i + 1)), ⟨rfl, by show (zbd L f s i || _) = false; rw [b2, q]; rfl⟩, ?_⟩
      have : zpr L f (i + 1) = decide (nI (L.2.1 i) = f) := by show (zpr L f i || _) = _; rw [q]; rfl
      rw [this]
      by_cases q2 : nI (L.2.1 i) = f <;> simp [q2, zbi]
    · by_cases q2 : nI (L.2.1 i) = s
      · left
        have : zbd L f s (i + 1) = true := by show (zbd L f s i || (zpr L f i && _)) = true; rw [q]; simp [q2]
        rw [zbd_up this hi]
        simp [q2, zbi]
      · right
        refine ⟨zbi (zpr L f (i + 1)), ⟨rfl, by show (zbd L f s i || _) = false; rw [b2, q]; simp [q2]⟩, ?_⟩
        have : zpr L f (i + 1) = true := by show (zpr L f i || _) = _; rw [q]; rfl
        rw [this]
        simp [q2, zbi]
  · obtain ⟨rfl, b2⟩ := hh
    simp only [fX3_binds_L5, e.1]
    simp (disch := omega) only [nL_lt, nL_gt, nL_le, nL_ge, nL_eq, nL_qe, nI_ltI, nI_leI, nI_eq, nL_add, nL_dda, nI_add, nL_sub, pk_sub, nL_mul, nL_clamp, nI_cl, zchk_n, zchk_l, zb_s, zb2_s, zb3_s, zb3_e, zput_e, zjoin_e, zs_hit, zs_miss, nle_t, nle_f, nlt_t, nlt_f, neq_t, neq_f, ↓reduceIte, and_self, and_true, true_and, and_false, false_and, not_true_eq_false, not_false_eq_true, Nat.add_zero]
    rw [b2]
    rfl
theorem r_ofPromise {g : zM} {V : zWd} (e : ∀ p, p < V.2.2.2.1 → g 494 (20 + 2 * p) = V.2.2.2.2.1 p ∧ g 494 (20 + 2 * p + 1) = V.2.2.2.2.2.1 p) {p : Nat} (hp : p < V.2.2.2.1) (h8 : V.2.2.2.1 ≤ 8) : fX12_ofPromise (nI p) 0 g = some (V.2.2.2.2.1 p) ∧ fX12_ofPromise (nI p) 1 g = some (V.2.2.2.2.2.1 p) := by
  unfold fX12_ofPromise
  constructor
  · simp (disch := omega) only [nL_lt, nL_gt, nL_le, nL_ge, nL_eq, nL_qe, nI_ltI, nI_leI, nI_eq, nL_add, nL_dda, nI_add, nL_sub, pk_sub, nL_mul, nL_clamp, nI_cl, zchk_n, zchk_l, zb_s, zb2_s, zb3_s, zb3_e, zput_e, zjoin_e, zs_hit, zs_miss, nle_t, nle_f, nlt_t, nlt_f, neq_t, neq_f, ↓reduceIte, and_self, and_true, true_and, and_false, false_and, not_true_eq_false, not_false_eq_true, Nat.add_zero]
    rw [(e p hp).1]
  · simp (disch := omega) only [nL_lt, nL_gt, nL_le, nL_ge, nL_eq, nL_qe, nI_ltI, nI_leI, nI_eq, nL_add, nL_dda, nI_add, nL_sub, pk_sub, nL_mul, nL_clamp, nI_cl, zchk_n, zchk_l, zb_s, zb2_s, zb3_s, zb3_e, zput_e, zjoin_e, zs_hit, zs_miss, nle_t, nle_f, nlt_t, nlt_f, neq_t, neq_f, ↓reduceIte, and_self, and_true, true_and, and_false, false_and, not_true_eq_false, not_false_eq_true, Nat.add_zero, zi10]
    rw [(e p hp).2]
theorem r_isBound {g : zM} {V : zWd} (e : ∀ p, p < V.2.2.2.1 → g 494 (20 + 2 * p) = V.2.2.2.2.1 p ∧ g 494 (20 + 2 * p + 1) = V.2.2.2.2.2.1 p) (h8 : V.2.2.2.1 ≤ 8) {L : zL} {w : Int32} (eR : zRR g L L.1 w) (hL : L.1 ≤ 24) {p : Nat} (hp : p < V.2.2.2.1) : fX12_isBound (nI p) g = some (zbi (zbd L (V.2.2.2.2.1 p) (V.2.2.2.2.2.1 p) L.1)) := by
  obtain ⟨p1, p2⟩ := r_ofPromise e hp h8
  generalize V.2.2.2.2.1 p = f at *
  generalize V.2.2.2.2.2.1 p = s at *
  unfold fX12_isBound
  refine zL_Q0 (fun n i (st : Int32 × Int32) => fX12_isBound_L7 (nI p) g n st.1 st.2 (nI i)) (fun i st => st.2 = zbi (zbd L f s i) ∧ (zbd L f s i = false → st.1 = zbi (zpr L f i))) L.1 (fun r => r = some (zbi (zbd L f s L.1))) (0, 0) (by omega) ⟨rfl, fun _ => rfl⟩ (fun m i st hi hh => ?_) (fun m st hh => ?_)
  · obtain ⟨a, b⟩ := st
    obtain ⟨rfl, b2⟩ := hh
    have ek := eR.2.1 i hi
    simp only [fX12_isBound_L7, eR.1]
    cases q0 : zbd L f s i
    · right
      obtain rfl := b2 q0
      have u1 : zbd L f s (i + 1) = (zpr L f i && decide (nI (L.2.1 i) = s)) := by show (zbd L f s i || _) = _; rw [q0]; rfl
      have u2 : zpr L f (i + 1) = (zpr L f i || decide (nI (L.2.1 i) = f)) := rfl
      refine ⟨(zbi (zpr L f (i + 1)), zbi (zbd L f s (i + 1))), ⟨rfl, fun _ => rfl⟩, ?_⟩
      rw [u1, u2]
      simp (disch := omega) only [nL_lt, nL_gt, nL_le, nL_ge, nL_eq, nL_qe, nI_ltI, nI_leI, nI_eq, nL_add, nL_dda, nI_add, nL_sub, pk_sub, nL_mul, nL_clamp, nI_cl, zchk_n, zchk_l, zb_s, zb2_s, zb3_s, zb3_e, zput_e, zjoin_e, zs_hit, zs_miss, nle_t, nle_f, nlt_t, nlt_f, neq_t, neq_f, ↓reduceIte, and_self, and_true, true_and, and_false, false_and, not_true_eq_false, not_false_eq_true, Nat.add_zero, ek, p1, p2, zbi_f]
      cases q : zpr L f i
      · by_cases q2 : nI (L.2.1 i) = f <;> simp [q2, zbi]
      · by_cases q2 : nI (L.2.1 i) = s <;> simp [q2, zbi]
    · left
      rw [zbd_up q0 (Nat.le_of_lt hi)]
      simp (disch := omega) only [nL_lt, nL_gt, nL_le, nL_ge, nL_eq, nL_qe, nI_ltI, nI_leI, nI_eq, nL_add, nL_dda, nI_add, nL_sub, pk_sub, nL_mul, nL_clamp, nI_cl, zchk_n, zchk_l, zb_s, zb2_s, zb3_s, zb3_e, zput_e, zjoin_e, zs_hit, zs_miss, nle_t, nle_f, nlt_t, nlt_f, neq_t, neq_f, ↓reduceIte, and_self, and_true, true_and, and_false, false_and, not_true_eq_false, not_false_eq_true, Nat.add_zero, zbi_t, zi10, zbo_1]
  · obtain ⟨a, b⟩ := st
    obtain ⟨rfl, b2⟩ := hh
    simp only [fX12_isBound_L7, eR.1]
    simp (disch := omega) only [nL_lt, nL_gt, nL_le, nL_ge, nL_eq, nL_qe, nI_ltI, nI_leI, nI_eq, nL_add, nL_dda, nI_add, nL_sub, pk_sub, nL_mul, nL_clamp, nI_cl, zchk_n, zchk_l, zb_s, zb2_s, zb3_s, zb3_e, zput_e, zjoin_e, zs_hit, zs_miss, nle_t, nle_f, nlt_t, nlt_f, neq_t, neq_f, ↓reduceIte, and_self, and_true, true_and, and_false, false_and, not_true_eq_false, not_false_eq_true, Nat.add_zero, zbo_b]
/-- the PROMISES by which L is BOUND, as bits -/
def zbnd (V : zWd) (L : zL) : Int32 := zfo (fun p a => if zbd L (V.2.2.2.2.1 p) (V.2.2.2.2.2.1 p) L.1 = true then a ||| ((1 : Int32) <<< (nI p &&& 31)) else a) V.2.2.2.1 0 0
theorem c_binding {g : zM} {h : Nat} {V : zWd} (e1 : g h 5 = nI V.2.2.2.1) (e : ∀ p, p < V.2.2.2.1 → g (h + 35) p = V.2.2.2.2.1 p ∧ g (h + 36) p = V.2.2.2.2.2.1 p) (h8 : V.2.2.2.1 ≤ 8) {r : Nat} {L : zL} (eL : zCM g r L) (hL : L.1 ≤ 24) : fX10_binding h r g = some (zbnd V L) := by
  unfold fX10_binding zbnd
  refine zL_F0 (fun n i a => fX10_binding_L4 h r g n a (nI i)) (fun p a => if zbd L (V.2.2.2.2.1 p) (V.2.2.2.2.2.1 p) L.1 = true then a ||| ((1 : Int32) <<< (nI p &&& 31)) else a) V.2.2.2.1 some 0 (by omega) (fun n i a hi => ?_) (fun n a => ?_)
  · simp only [fX10_binding_L4, e1]
    simp (disch := omega) only [nL_lt, nL_gt, nL_le, nL_ge, nL_eq, nL_qe, nI_ltI, nI_leI, nI_eq, nL_add, nL_dda, nI_add, nL_sub, pk_sub, nL_mul, nL_clamp, nI_cl, zchk_n, zchk_l, zb_s, zb2_s, zb3_s, zb3_e, zput_e, zjoin_e, zs_hit, zs_miss, nle_t, nle_f, nlt_t, nlt_f, neq_t, neq_f, ↓reduceIte, and_self, and_true, true_and, and_false, false_and, not_true_eq_false, not_false_eq_true, Nat.add_zero]
    rw [(e i hi).1, (e i hi).2, c_binds eL hL, zb_s]
    cases zbd L (V.2.2.2.2.1 i) (V.2.2.2.2.2.1 i) L.1 <;> simp [zbi]
  · simp only [fX10_binding_L4, e1]
    simp (disch := omega) only [nL_lt, nL_gt, nL_le, nL_ge, nL_eq, nL_qe, nI_ltI, nI_leI, nI_eq, nL_add, nL_dda, nI_add, nL_sub, pk_sub, nL_mul, nL_clamp, nI_cl, zchk_n, zchk_l, zb_s, zb2_s, zb3_s, zb3_e, zput_e, zjoin_e, zs_hit, zs_miss, nle_t, nle_f, nlt_t, nlt_f, neq_t, neq_f, ↓reduceIte, and_self, and_true, true_and, and_false, false_and, not_true_eq_false, not_false_eq_true, Nat.add_zero]
theorem r_boundNow {g : zM} {V : zWd} (e1 : g 494 1 = nI V.2.2.2.1) (e : ∀ p, p < V.2.2.2.1 → g 494 (20 + 2 * p) = V.2.2.2.2.1 p ∧ g 494 (20 + 2 * p + 1) = V.2.2.2.2.2.1 p) (h8 : V.2.2.2.1 ≤ 8) {L : zL} {w : Int32} (eR : zRR g L L.1 w) (hL : L.1 ≤ 24) : fX12_boundNow g = some (zbnd V L) := by
  unfold fX12_boundNow zbnd
  have ep : fX12_promises g = some (nI V.2.2.2.1) := by unfold fX12_promises; simp (disch := omega) only [nL_lt, nL_gt, nL_le, nL_ge, nL_eq, nL_qe, nI_ltI, nI_leI, nI_eq, nL_add, nL_dda, nI_add, nL_sub, pk_sub, nL_mul, nL_clamp, nI_cl, zchk_n, zchk_l, zb_s, zb2_s, zb3_s, zb3_e, zput_e, zjoin_e, zs_hit, zs_miss, nle_t, nle_f, nlt_t, nlt_f, neq_t, neq_f, ↓reduceIte, and_self, and_true, true_and, and_false, false_and, not_true_eq_false, not_false_eq_true, Nat.add_zero, e1]
  refine zL_F0 (fun n i a => fX12_boundNow_L4 g n a (nI i)) (fun p a => if zbd L (V.2.2.2.2.1 p) (V.2.2.2.2.2.1 p) L.1 = true then a ||| ((1 : Int32) <<< (nI p &&& 31)) else a) V.2.2.2.1 some 0 (by omega) (fun n i a hi => ?_) (fun n a => ?_)
  · simp only [fX12_boundNow_L4, ep, zb_s]
    simp (disch := omega) only [nL_lt, nL_gt, nL_le, nL_ge, nL_eq, nL_qe, nI_ltI, nI_leI, nI_eq, nL_add, nL_dda, nI_add, nL_sub, pk_sub, nL_mul, nL_clamp, nI_cl, zchk_n, zchk_l, zb_s, zb2_s, zb3_s, zb3_e, zput_e, zjoin_e, zs_hit, zs_miss, nle_t, nle_f, nlt_t, nlt_f, neq_t, neq_f, ↓reduceIte, and_self, and_true, true_and, and_false, false_and, not_true_eq_false, not_false_eq_true, Nat.add_zero]
    rw [r_isBound e h8 eR hL hi, zb_s]
    cases zbd L (V.2.2.2.2.1 i) (V.2.2.2.2.2.1 i) L.1 <;> simp [zbi]
  · simp only [fX12_boundNow_L4, ep, zb_s]
    simp (disch := omega) only [nL_lt, nL_gt, nL_le, nL_ge, nL_eq, nL_qe, nI_ltI, nI_leI, nI_eq, nL_add, nL_dda, nI_add, nL_sub, pk_sub, nL_mul, nL_clamp, nI_cl, zchk_n, zchk_l, zb_s, zb2_s, zb3_s, zb3_e, zput_e, zjoin_e, zs_hit, zs_miss, nle_t, nle_f, nlt_t, nlt_f, neq_t, neq_f, ↓reduceIte, and_self, and_true, true_and, and_false, false_and, not_true_eq_false, not_false_eq_true, Nat.add_zero]
/-! bits that are set one behind another -/
def zkn (x y : Int32) : Int32 := x ||| ((1 : Int32) <<< (y &&& 31))
/-- the bits of all i < N with p -/
def zbs (p : Nat → Bool) (N : Nat) : Int32 := zfo (fun i a => if p i = true then a ||| ((1 : Int32) <<< (nI i &&& 31)) else a) N 0 0
/-- the KINDS of a LETTER as bits -/
def zks (L : zL) : Int32 := zfo (fun i a => a ||| ((1 : Int32) <<< (nI (L.2.1 i) &&& 31))) L.1 0 0
theorem c_kindSet {g : zM} {h : Nat} {L : zL} (e : zCM g h L) (hL : L.1 ≤ 24) : fX3_kindSet h g = some (zks L) := by
  unfold fX3_kindSet zks
  refine zL_F0 (fun n i a => fX3_kindSet_L4 h g n a (nI i)) (fun i a => a ||| ((1 : Int32) <<< (nI (L.2.1 i) &&& 31))) L.1 some 0 (by omega) (fun n i a hi => ?_) (fun n a => ?_)
  · simp only [fX3_kindSet_L4, e.1]
    simp (disch := omega) only [nL_lt, nL_gt, nL_le, nL_ge, nL_eq, nL_qe, nI_ltI, nI_leI, nI_eq, nL_add, nL_dda, nI_add, nL_sub, pk_sub, nL_mul, nL_clamp, nI_cl, zchk_n, zchk_l, zb_s, zb2_s, zb3_s, zb3_e, zput_e, zjoin_e, zs_hit, zs_miss, nle_t, nle_f, nlt_t, nlt_f, neq_t, neq_f, ↓reduceIte, and_self, and_true, true_and, and_false, false_and, not_true_eq_false, not_false_eq_true, Nat.add_zero]
    rw [e.2.1 i hi]
  · simp only [fX3_kindSet_L4, e.1]
    simp (disch := omega) only [nL_lt, nL_gt, nL_le, nL_ge, nL_eq, nL_qe, nI_ltI, nI_leI, nI_eq, nL_add, nL_dda, nI_add, nL_sub, pk_sub, nL_mul, nL_clamp, nI_cl, zchk_n, zchk_l, zb_s, zb2_s, zb3_s, zb3_e, zput_e, zjoin_e, zs_hit, zs_miss, nle_t, nle_f, nlt_t, nlt_f, neq_t, neq_f, ↓reduceIte, and_self, and_true, true_and, and_false, false_and, not_true_eq_false, not_false_eq_true, Nat.add_zero]
def zbc (v : Int32) : Int32 := (fJ6_bitCount_0f7a4 v (fun _ _ => 0)).getD 0
theorem zbc_eq (v : Int32) (g : zM) : fJ6_bitCount_0f7a4 v g = some (zbc v) := rfl
/-! the calls -/
theorem m_words {S : zS} (hS : zSW S) (v : Int32) : zAsk [1] S (fX11_words v) (fX12_words v) := by
  rcases zix v (n := 12) (by omega) with h | ⟨k, hk, rfl⟩
  · refine ⟨.error 1, fun g e => ⟨g, ?_, .refl⟩, fun g e => zRa_err2 (t := 1) (b := 0) ?_ (by decide)⟩
    · unfold fX11_words; rw [c_needKind_no h, zb3_e]
    · unfold fX12_words; simp only [zb_s, zb2_s, zb3_s, zb3_e, zjoin_e, zput_e, r_thr0, r_thr1, zi10, zi01, if_true, if_false, r_noKind_no h]
  · refine ⟨.ok ((zSV S).2.2.1 k), fun g e => ⟨g, ?_, .refl⟩, fun g e => zRa_ok (g1 := zset g 493 0 0) ?_ .refl⟩
    · unfold fX11_words fX10_wordsFor; rw [c_needKind hk, zb3_s]
      simp (disch := omega) only [nL_lt, nL_gt, nL_le, nL_ge, nL_eq, nL_qe, nI_ltI, nI_leI, nI_eq, nL_add, nL_dda, nI_add, nL_sub, pk_sub, nL_mul, nL_clamp, nI_cl, zchk_n, zchk_l, zb_s, zb2_s, zb3_s, zb3_e, zput_e, zjoin_e, zs_hit, zs_miss, nle_t, nle_f, nlt_t, nlt_f, neq_t, neq_f, ↓reduceIte, and_self, and_true, true_and, and_false, false_and, not_true_eq_false, not_false_eq_true, Nat.add_zero]
      rw [e.2.2.2.1.2.2.1 k hk]
    · unfold fX12_words; simp only [zb_s, zb2_s, zb3_s, zb3_e, zjoin_e, zput_e, r_thr0, r_thr1, zi10, zi01, if_true, if_false, r_noKind hk]
      simp (disch := omega) only [nL_lt, nL_gt, nL_le, nL_ge, nL_eq, nL_qe, nI_ltI, nI_leI, nI_eq, nL_add, nL_dda, nI_add, nL_sub, pk_sub, nL_mul, nL_clamp, nI_cl, zchk_n, zchk_l, zb_s, zb2_s, zb3_s, zb3_e, zput_e, zjoin_e, zs_hit, zs_miss, nle_t, nle_f, nlt_t, nlt_f, neq_t, neq_f, ↓reduceIte, and_self, and_true, true_and, and_false, false_and, not_true_eq_false, not_false_eq_true, Nat.add_zero]
      rw [e.2.2.2.1.2.2.1 k hk]
theorem m_promise {S : zS} (hS : zSW S) (v : Int32) (b : Bool) : zAsk [1] S (fX11_promise v (zbi b)) (fX12_promise v (zbi b)) := by
  have h8 := hS.proms
  rcases zix v (zpz hS) with h | ⟨k, hk, rfl⟩
  · refine ⟨.error 1, fun g e => ⟨g, ?_, .refl⟩, fun g e => zRa_err2 (t := 1) (b := 0) ?_ (by decide)⟩
    · unfold fX11_promise; rw [c_needPromise_no e h, zb3_e]
    · unfold fX12_promise; simp only [zb_s, zb2_s, zb3_s, zb3_e, zjoin_e, zput_e, r_thr0, r_thr1, zi10, zi01, if_true, if_false, r_noPromise_no hS (e.thr hS 0) h]
  · refine ⟨.ok (if b = true then (zSV S).2.2.2.2.2.1 k else (zSV S).2.2.2.2.1 k), fun g e => ⟨g, ?_, .refl⟩, fun g e => zRa_ok (g1 := zset g 493 0 0) ?_ .refl⟩
    · unfold fX11_promise fX10_promised
      rw [c_needPromise hS e hk, zb3_s, e.proms]
      cases b <;> simp (disch := omega) only [nL_lt, nL_gt, nL_le, nL_ge, nL_eq, nL_qe, nI_ltI, nI_leI, nI_eq, nL_add, nL_dda, nI_add, nL_sub, pk_sub, nL_mul, nL_clamp, nI_cl, zchk_n, zchk_l, zb_s, zb2_s, zb3_s, zb3_e, zput_e, zjoin_e, zs_hit, zs_miss, nle_t, nle_f, nlt_t, nlt_f, neq_t, neq_f, ↓reduceIte, and_self, and_true, true_and, and_false, false_and, not_true_eq_false, not_false_eq_true, Nat.add_zero, zbi_t, zbi_f, zi10, Bool.false_eq_true]
      · rw [(e.2.2.2.1.2.2.2.2.1 k hk).1]
      · rw [(e.2.2.2.1.2.2.2.2.1 k hk).2]
    · have e' := e.thr hS 0
      obtain ⟨p1, p2⟩ := r_ofPromise e'.2.2.2.1.2.2.2.2.1 hk h8
      unfold fX12_promise
      cases b <;> simp only [zb_s, zb2_s, zb3_s, zb3_e, zjoin_e, zput_e, r_thr0, r_thr1, zi10, zi01, if_true, if_false, r_noPromise hS e' hk, zbi_t, zbi_f, p1, p2, Bool.false_eq_true]
theorem m_season {S : zS} (v : Int32) : zAsk [2] S (fX11_season v) (fX12_season v) := by
  rcases zix v (n := 10000) (by omega) with h | ⟨k, hk, rfl⟩
  · refine ⟨.error 2, fun g e => ⟨g, ?_, .refl⟩, fun g e => zRa_err2 (t := 1) (b := 0) ?_ (by decide)⟩
    · unfold fX11_season
      by_cases h0 : v < 0
      · rw [if_pos h0]
      · have h2 : ¬ v ≤ 9999 := fun q => zbad_nlt h h0 (by
          rw [Int32.lt_iff_toInt_lt]
          rw [Int32.le_iff_toInt_le] at q
          rw [nI_toInt (by omega)]
          have : (9999 : Int32).toInt = 9999 := by decide
          omega)
        rw [if_neg h0, if_neg h2]
    · unfold fX12_season; simp only [zb_s, zb2_s, zb3_s, zb3_e, zjoin_e, zput_e, r_thr0, r_thr1, zi10, zi01, if_true, if_false, show fX12_in v 0 9999 (zset g 493 0 0) = some 0 from r_in_no (n := 9999) h (by omega)]
  · refine ⟨.ok (zsea (nI k)), fun g e => ⟨g, ?_, .refl⟩, fun g e => zRa_ok (g1 := zset g 493 0 0) ?_ .refl⟩
    · unfold fX11_season
      simp (disch := omega) only [nL_lt, nL_gt, nL_le, nL_ge, nL_eq, nL_qe, nI_ltI, nI_leI, nI_eq, nL_add, nL_dda, nI_add, nL_sub, pk_sub, nL_mul, nL_clamp, nI_cl, zchk_n, zchk_l, zb_s, zb2_s, zb3_s, zb3_e, zput_e, zjoin_e, zs_hit, zs_miss, nle_t, nle_f, nlt_t, nlt_f, neq_t, neq_f, ↓reduceIte, and_self, and_true, true_and, and_false, false_and, not_true_eq_false, not_false_eq_true, Nat.add_zero]
      rfl
    · unfold fX12_season; simp only [zb_s, zb2_s, zb3_s, zb3_e, zjoin_e, zput_e, r_thr0, r_thr1, zi10, zi01, if_true, if_false, show fX12_in (nI k) 0 9999 (zset g 493 0 0) = some 1 from r_in (lo := 0) (hi := 9999) (by omega) (by omega) (by omega)]
      rfl
theorem m_letter {S : zS} (hS : zSW S) (v w : Int32) : zAsk [1, 5] S (fX11_letter v w) (fX12_letter v w) := by
  rcases zix v (zsz hS) with h | ⟨l, hl, rfl⟩
  · refine ⟨.error 1, fun g e => ⟨g, ?_, .refl⟩, fun g e => zRa_err2 (t := 1) (b := 0) ?_ (by decide)⟩
    · unfold fX11_letter; rw [c_mailOf_no e h, zb3_e]
    · unfold fX12_letter; simp only [zb_s, zb2_s, zb3_s, zb3_e, zjoin_e, zput_e, r_thr0, r_thr1, zi10, zi01, if_true, if_false, r_noLetter_no hS (e.thr hS 0) h]
  have hL := hS.letter hl
  rcases zix w (n := 8) (by omega) with h | ⟨k, hk, rfl⟩
  · refine ⟨.error 5, fun g e => ⟨g, ?_, .refl⟩, fun g e => zRa_err2 (t := 2) (b := 0) ?_ (by decide)⟩
    · unfold fX11_letter
      rw [c_mailOf hS e hl, zb3_s]
      have ne : ∀ k, k < 8 → ¬ w = nI k := by
        intro k hk q
        subst q
        rcases h with h | h
        · exact nI_pos (by omega) h
        · exact nI_ge hk (by omega) h
      rw [if_neg (show ¬ w = 0 from ne 0 (by omega)), if_neg (show ¬ w = 1 from ne 1 (by omega)), if_neg (show ¬ w = 2 from ne 2 (by omega)), if_neg (show ¬ w = 3 from ne 3 (by omega)), if_neg (show ¬ w = 4 from ne 4 (by omega)), if_neg (show ¬ w = 5 from ne 5 (by omega)), if_neg (show ¬ w = 6 from ne 6 (by omega)), if_neg (show ¬ w = 7 from ne 7 (by omega))]
    · unfold fX12_letter; simp only [zb_s, zb2_s, zb3_s, zb3_e, zjoin_e, zput_e, r_thr0, r_thr1, zi10, zi01, if_true, if_false, r_noLetter hS (e.thr hS 0) hl, show fX12_in w 0 7 (zset g 493 0 0) = some 0 from r_in_no (n := 7) h (by omega)]
  · have eR : ∀ g, zRI S g → ∃ g1, fX12_letter (nI l) (nI k) g = (if k = 5 then zb (fX12_wordsNow g1) (fun r_12 => some (r_12, g1)) else if k = 6 then zb (fX12_last g1) (fun r_14 => some (r_14, g1)) else if k = 7 then zb2 (fX12_canGrow g1) (fun r_16 g16 => if r_16 = 0 then some ((-1), g16) else zb2 (fX12_follows g16) (fun r_18 g18 => some (r_18, g18))) else some (g 494 (36 + 53 * l + k), g1)) ∧ zRR g1 ((zSB S).2.1 l) ((zSB S).2.1 l).1 (zSB S).2.2.1 ∧ zFQ (zset g 493 0 0) g1 := by
      intro g e
      obtain ⟨g1, a1, a2, a3⟩ := r_looksAt hS (e.thr hS 0) hl
      refine ⟨g1, ?_, a2, a3⟩
      unfold fX12_letter
      simp only [zb_s, zb2_s, zb3_s, zb3_e, zjoin_e, zput_e, r_thr0, r_thr1, zi10, zi01, if_true, if_false, r_noLetter hS (e.thr hS 0) hl, show fX12_in (nI k) 0 7 (zset g 493 0 0) = some 1 from r_in (lo := 0) (hi := 7) (by omega) (by omega) (by omega), a1]
      rw [r_of hS (e.fr hS (zFR.thr.trans a3.fr)) hl (by omega), zb_s, a3.1 494 (by omega) (by omega) (by omega), zs_cell (by omega)]
      simp (disch := omega) only [nL_lt, nL_gt, nL_le, nL_ge, nL_eq, nL_qe, nI_ltI, nI_leI, nI_eq, nL_add, nL_dda, nI_add, nL_sub, pk_sub, nL_mul, nL_clamp, nI_cl, zchk_n, zchk_l, zb_s, zb2_s, zb3_s, zb3_e, zput_e, zjoin_e, zs_hit, zs_miss, nle_t, nle_f, nlt_t, nlt_f, neq_t, neq_f, ↓reduceIte, and_self, and_true, true_and, and_false, false_and, not_true_eq_false, not_false_eq_true, Nat.add_zero]
    have hk : k = 0 ∨ k = 1 ∨ k = 2 ∨ k = 3 ∨ k = 4 ∨ k = 5 ∨ k = 6 ∨ k = 7 := by omega
    rcases hk with rfl | rfl | rfl | rfl | rfl | rfl | rfl | rfl
    · refine ⟨.ok (nI ((zSB S).2.1 l).1), fun g e => ⟨g, ?_, .refl⟩, fun g e => ?_⟩
      · unfold fX11_letter; rw [c_mailOf hS e hl, zb3_s]; simp (disch := omega) only [nL_lt, nL_gt, nL_le, nL_ge, nL_eq, nL_qe, nI_ltI, nI_leI, nI_eq, nL_add, nL_dda, nI_add, nL_sub, pk_sub, nL_mul, nL_clamp, nI_cl, zchk_n, zchk_l, zb_s, zb2_s, zb3_s, zb3_e, zput_e, zjoin_e, zs_hit, zs_miss, nle_t, nle_f, nlt_t, nlt_f, neq_t, neq_f, ↓reduceIte, and_self, and_true, true_and, and_false, false_and, not_true_eq_false, not_false_eq_true, Nat.add_zero]; rw [(e.mail hl).1]
      · obtain ⟨g1, a1, a2, a3⟩ := eR g e
        exact zRa_ok (a1.trans (by simp (disch := omega) only [nL_lt, nL_gt, nL_le, nL_ge, nL_eq, nL_qe, nI_ltI, nI_leI, nI_eq, nL_add, nL_dda, nI_add, nL_sub, pk_sub, nL_mul, nL_clamp, nI_cl, zchk_n, zchk_l, zb_s, zb2_s, zb3_s, zb3_e, zput_e, zjoin_e, zs_hit, zs_miss, nle_t, nle_f, nlt_t, nlt_f, neq_t, neq_f, ↓reduceIte, and_self, and_true, true_and, and_false, false_and, not_true_eq_false, not_false_eq_true, Nat.add_zero]; rw [← (e.letter hl).1])) a3
    · refine ⟨.ok ((zSB S).2.1 l).2.2.2.1, fun g e => ⟨g, ?_, .refl⟩, fun g e => ?_⟩
      · unfold fX11_letter; rw [c_mailOf hS e hl, zb3_s]; simp (disch := omega) only [nL_lt, nL_gt, nL_le, nL_ge, nL_eq, nL_qe, nI_ltI, nI_leI, nI_eq, nL_add, nL_dda, nI_add, nL_sub, pk_sub, nL_mul, nL_clamp, nI_cl, zchk_n, zchk_l, zb_s, zb2_s, zb3_s, zb3_e, zput_e, zjoin_e, zs_hit, zs_miss, nle_t, nle_f, nlt_t, nlt_f, neq_t, neq_f, ↓reduceIte, and_self, and_true, true_and, and_false, false_and, not_true_eq_false, not_false_eq_true, Nat.add_zero]; rw [(e.mail hl).2.2.2.1]
      · obtain ⟨g1, a1, a2, a3⟩ := eR g e
        exact zRa_ok (a1.trans (by simp (disch := omega) only [nL_lt, nL_gt, nL_le, nL_ge, nL_eq, nL_qe, nI_ltI, nI_leI, nI_eq, nL_add, nL_dda, nI_add, nL_sub, pk_sub, nL_mul, nL_clamp, nI_cl, zchk_n, zchk_l, zb_s, zb2_s, zb3_s, zb3_e, zput_e, zjoin_e, zs_hit, zs_miss, nle_t, nle_f, nlt_t, nlt_f, neq_t, neq_f, ↓reduceIte, and_self, and_true, true_and, and_false, false_and, not_true_eq_false, not_false_eq_true, Nat.add_zero]; rw [← (e.letter hl).2.2.2.1])) a3
    · refine ⟨.ok ((zSB S).2.1 l).2.2.2.2.1, fun g e => ⟨g, ?_, .refl⟩, fun g e => ?_⟩
      · unfold fX11_letter; rw [c_mailOf hS e hl, zb3_s]; simp (disch := omega) only [nL_lt, nL_gt, nL_le, nL_ge, nL_eq, nL_qe, nI_ltI, nI_leI, nI_eq, nL_add, nL_dda, nI_add, nL_sub, pk_sub, nL_mul, nL_clamp, nI_cl, zchk_n, zchk_l, zb_s, zb2_s, zb3_s, zb3_e, zput_e, zjoin_e, zs_hit, zs_miss, nle_t, nle_f, nlt_t, nlt_f, neq_t, neq_f, ↓reduceIte, and_self, and_true, true_and, and_false, false_and, not_true_eq_false, not_false_eq_true, Nat.add_zero]; rw [(e.mail hl).2.2.2.2.1]
      · obtain ⟨g1, a1, a2, a3⟩ := eR g e
        exact zRa_ok (a1.trans (by simp (disch := omega) only [nL_lt, nL_gt, nL_le, nL_ge, nL_eq, nL_qe, nI_ltI, nI_leI, nI_eq, nL_add, nL_dda, nI_add, nL_sub, pk_sub, nL_mul, nL_clamp, nI_cl, zchk_n, zchk_l, zb_s, zb2_s, zb3_s, zb3_e, zput_e, zjoin_e, zs_hit, zs_miss, nle_t, nle_f, nlt_t, nlt_f, neq_t, neq_f, ↓reduceIte, and_self, and_true, true_and, and_false, false_and, not_true_eq_false, not_false_eq_true, Nat.add_zero]; rw [← (e.letter hl).2.2.2.2.1])) a3
    · refine ⟨.ok (zbi ((zSB S).2.1 l).2.2.2.2.2.1), fun g e => ⟨g, ?_, .refl⟩, fun g e => ?_⟩
      · unfold fX11_letter; rw [c_mailOf hS e hl, zb3_s]; simp (disch := omega) only [nL_lt, nL_gt, nL_le, nL_ge, nL_eq, nL_qe, nI_ltI, nI_leI, nI_eq, nL_add, nL_dda, nI_add, nL_sub, pk_sub, nL_mul, nL_clamp, nI_cl, zchk_n, zchk_l, zb_s, zb2_s, zb3_s, zb3_e, zput_e, zjoin_e, zs_hit, zs_miss, nle_t, nle_f, nlt_t, nlt_f, neq_t, neq_f, ↓reduceIte, and_self, and_true, true_and, and_false, false_and, not_true_eq_false, not_false_eq_true, Nat.add_zero]; rw [(e.mail hl).2.2.2.2.2.1]
        cases ((zSB S).2.1 l).2.2.2.2.2.1 <;> rfl
      · obtain ⟨g1, a1, a2, a3⟩ := eR g e
        exact zRa_ok (a1.trans (by simp (disch := omega) only [nL_lt, nL_gt, nL_le, nL_ge, nL_eq, nL_qe, nI_ltI, nI_leI, nI_eq, nL_add, nL_dda, nI_add, nL_sub, pk_sub, nL_mul, nL_clamp, nI_cl, zchk_n, zchk_l, zb_s, zb2_s, zb3_s, zb3_e, zput_e, zjoin_e, zs_hit, zs_miss, nle_t, nle_f, nlt_t, nlt_f, neq_t, neq_f, ↓reduceIte, and_self, and_true, true_and, and_false, false_and, not_true_eq_false, not_false_eq_true, Nat.add_zero]; rw [← (e.letter hl).2.2.2.2.2.1])) a3
    · refine ⟨.ok (zbi ((zSB S).2.1 l).2.2.2.2.2.2), fun g e => ⟨g, ?_, .refl⟩, fun g e => ?_⟩
      · unfold fX11_letter; rw [c_mailOf hS e hl, zb3_s]; simp (disch := omega) only [nL_lt, nL_gt, nL_le, nL_ge, nL_eq, nL_qe, nI_ltI, nI_leI, nI_eq, nL_add, nL_dda, nI_add, nL_sub, pk_sub, nL_mul, nL_clamp, nI_cl, zchk_n, zchk_l, zb_s, zb2_s, zb3_s, zb3_e, zput_e, zjoin_e, zs_hit, zs_miss, nle_t, nle_f, nlt_t, nlt_f, neq_t, neq_f, ↓reduceIte, and_self, and_true, true_and, and_false, false_and, not_true_eq_false, not_false_eq_true, Nat.add_zero]; rw [(e.mail hl).2.2.2.2.2.2]
        cases ((zSB S).2.1 l).2.2.2.2.2.2 <;> rfl
      · obtain ⟨g1, a1, a2, a3⟩ := eR g e
        exact zRa_ok (a1.trans (by simp (disch := omega) only [nL_lt, nL_gt, nL_le, nL_ge, nL_eq, nL_qe, nI_ltI, nI_leI, nI_eq, nL_add, nL_dda, nI_add, nL_sub, pk_sub, nL_mul, nL_clamp, nI_cl, zchk_n, zchk_l, zb_s, zb2_s, zb3_s, zb3_e, zput_e, zjoin_e, zs_hit, zs_miss, nle_t, nle_f, nlt_t, nlt_f, neq_t, neq_f, ↓reduceIte, and_self, and_true, true_and, and_false, false_and, not_true_eq_false, not_false_eq_true, Nat.add_zero]; rw [← (e.letter hl).2.2.2.2.2.2])) a3
    · refine ⟨.ok (yws (zSV S).2.2.1 ((zSB S).2.1 l)), fun g e => ⟨g, ?_, .refl⟩, fun g e => ?_⟩
      · unfold fX11_letter; rw [c_mailOf hS e hl, zb3_s]; simp (disch := omega) only [nL_lt, nL_gt, nL_le, nL_ge, nL_eq, nL_qe, nI_ltI, nI_leI, nI_eq, nL_add, nL_dda, nI_add, nL_sub, pk_sub, nL_mul, nL_clamp, nI_cl, zchk_n, zchk_l, zb_s, zb2_s, zb3_s, zb3_e, zput_e, zjoin_e, zs_hit, zs_miss, nle_t, nle_f, nlt_t, nlt_f, neq_t, neq_f, ↓reduceIte, and_self, and_true, true_and, and_false, false_and, not_true_eq_false, not_false_eq_true, Nat.add_zero]; rw [c_wordsIn (h := 2) e.2.2.2.1.2.2.1 (e.mail hl) hL]; rfl
      · obtain ⟨g1, a1, a2, a3⟩ := eR g e
        have e' := e.fr hS (zFR.thr.trans a3.fr)
        exact zRa_ok (a1.trans (by simp (disch := omega) only [nL_lt, nL_gt, nL_le, nL_ge, nL_eq, nL_qe, nI_ltI, nI_leI, nI_eq, nL_add, nL_dda, nI_add, nL_sub, pk_sub, nL_mul, nL_clamp, nI_cl, zchk_n, zchk_l, zb_s, zb2_s, zb3_s, zb3_e, zput_e, zjoin_e, zs_hit, zs_miss, nle_t, nle_f, nlt_t, nlt_f, neq_t, neq_f, ↓reduceIte, and_self, and_true, true_and, and_false, false_and, not_true_eq_false, not_false_eq_true, Nat.add_zero]; rw [r_wordsNow e'.2.2.2.1.2.2.1 a2 hL]; rfl)) a3
    · refine ⟨.ok (nI (zlk ((zSB S).2.1 l))), fun g e => ⟨g, ?_, .refl⟩, fun g e => ?_⟩
      · unfold fX11_letter; rw [c_mailOf hS e hl, zb3_s]; simp (disch := omega) only [nL_lt, nL_gt, nL_le, nL_ge, nL_eq, nL_qe, nI_ltI, nI_leI, nI_eq, nL_add, nL_dda, nI_add, nL_sub, pk_sub, nL_mul, nL_clamp, nI_cl, zchk_n, zchk_l, zb_s, zb2_s, zb3_s, zb3_e, zput_e, zjoin_e, zs_hit, zs_miss, nle_t, nle_f, nlt_t, nlt_f, neq_t, neq_f, ↓reduceIte, and_self, and_true, true_and, and_false, false_and, not_true_eq_false, not_false_eq_true, Nat.add_zero]; rw [c_lastKind (e.mail hl) hL]; rfl
      · obtain ⟨g1, a1, a2, a3⟩ := eR g e
        exact zRa_ok (a1.trans (by simp (disch := omega) only [nL_lt, nL_gt, nL_le, nL_ge, nL_eq, nL_qe, nI_ltI, nI_leI, nI_eq, nL_add, nL_dda, nI_add, nL_sub, pk_sub, nL_mul, nL_clamp, nI_cl, zchk_n, zchk_l, zb_s, zb2_s, zb3_s, zb3_e, zput_e, zjoin_e, zs_hit, zs_miss, nle_t, nle_f, nlt_t, nlt_f, neq_t, neq_f, ↓reduceIte, and_self, and_true, true_and, and_false, false_and, not_true_eq_false, not_false_eq_true, Nat.add_zero]; rw [r_last a2 hL]; rfl)) a3
    · refine ⟨.ok (zoi (zgr (zSL S) ((zSB S).2.1 l) (zSB S).2.2.1)), fun g e => ?_, fun g e => ?_⟩
      · have h8 := hS.eight
        obtain ⟨g1, a1, a2⟩ := c_growth hS.law e.law (e.mail hl) (by omega) hL (g 3 2)
        refine ⟨g1, ?_, fun c h1 h2 _ => a2 c h1 h2, by rw [a2 481 (by omega) (by omega)], by rw [a2 482 (by omega) (by omega)]⟩
        unfold fX11_letter; rw [c_mailOf hS e hl, zb3_s]; simp (disch := omega) only [nL_lt, nL_gt, nL_le, nL_ge, nL_eq, nL_qe, nI_ltI, nI_leI, nI_eq, nL_add, nL_dda, nI_add, nL_sub, pk_sub, nL_mul, nL_clamp, nI_cl, zchk_n, zchk_l, zb_s, zb2_s, zb3_s, zb3_e, zput_e, zjoin_e, zs_hit, zs_miss, nle_t, nle_f, nlt_t, nlt_f, neq_t, neq_f, ↓reduceIte, and_self, and_true, true_and, and_false, false_and, not_true_eq_false, not_false_eq_true, Nat.add_zero, a1]; rw [e.week]
      · obtain ⟨g1, a1, a2, a3⟩ := eR g e
        have e' := e.fr hS (zFR.thr.trans a3.fr)
        obtain ⟨g2, b1, b2⟩ := r_canGrow hS.law e'.law hL a2
        have a2' := a2.fr (b2 493 (by omega)) (b2 502 (by omega))
        cases q : zgr (zSL S) ((zSB S).2.1 l) (zSB S).2.2.1 with
        | none =>
          rw [q] at b1
          exact zRa_ok (a1.trans (by simp (disch := omega) only [nL_lt, nL_gt, nL_le, nL_ge, nL_eq, nL_qe, nI_ltI, nI_leI, nI_eq, nL_add, nL_dda, nI_add, nL_sub, pk_sub, nL_mul, nL_clamp, nI_cl, zchk_n, zchk_l, zb_s, zb2_s, zb3_s, zb3_e, zput_e, zjoin_e, zs_hit, zs_miss, nle_t, nle_f, nlt_t, nlt_f, neq_t, neq_f, ↓reduceIte, and_self, and_true, true_and, and_false, false_and, not_true_eq_false, not_false_eq_true, Nat.add_zero, b1, Option.isSome_none, zbi_f]; rfl)) (a3.trans (.of b2))
        | some k =>
          rw [q] at b1
          obtain ⟨k1, k2, k3⟩ := zgr_lt hS.law q
          have hz : zfol (zSL S) ((zSB S).2.1 l) ((zSB S).2.1 l).1 (zSB S).2.2.1 = some k := by
            unfold zgr at q
            rw [if_pos ⟨k3, k2⟩] at q
            exact q
          obtain ⟨g3, d1, d2⟩ := r_follows hS.law (e'.fq hS (.of b2)).law hL a2' hL.1 (Nat.le_refl _)
          rw [hz] at d1
          exact zRa_ok (a1.trans (by simp (disch := omega) only [nL_lt, nL_gt, nL_le, nL_ge, nL_eq, nL_qe, nI_ltI, nI_leI, nI_eq, nL_add, nL_dda, nI_add, nL_sub, pk_sub, nL_mul, nL_clamp, nI_cl, zchk_n, zchk_l, zb_s, zb2_s, zb3_s, zb3_e, zput_e, zjoin_e, zs_hit, zs_miss, nle_t, nle_f, nlt_t, nlt_f, neq_t, neq_f, ↓reduceIte, and_self, and_true, true_and, and_false, false_and, not_true_eq_false, not_false_eq_true, Nat.add_zero, b1, Option.isSome_some, zbi_t, d1, zi10])) ((a3.trans (.of b2)).trans (.of d2))
