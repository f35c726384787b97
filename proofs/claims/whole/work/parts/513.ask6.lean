/-! more calls that look AHEAD -/
theorem c_holds {g : zM} {h : Nat} {L : zL} (e : zCM g h L) (hL : zLW L) {k : Nat} (hk : k < 12) : fX3_holds h (nI k) g = some (zbi (zhk L k L.1)) := by
  unfold fX3_holds
  rw [c_kindSet e hL.2.1, zb_s, b_test (by omega), b_zks hL hk]
  cases zhk L k L.1 <;> simp [zbi]
theorem r_holdsKind {g : zM} {L : zL} {w : Int32} (e : zRR g L L.1 w) (hL : zLW L) {k : Nat} (hk : k < 12) : fX12_holdsKind (nI k) g = some (zbi (zhk L k L.1)) := by
  have h24 := hL.2.1
  unfold fX12_holdsKind
  refine zL_Q0 (fun n i st => fX12_holdsKind_L4 (nI k) g n st (nI i)) (fun i st => st = zbi (zhk L k i)) L.1 (fun x => x = some (zbi (zhk L k L.1))) 0 (by omega) rfl (fun n i st hi hh => ?_) (fun n st hh => ?_)
  · subst hh
    have := hL.2.2 i hi
    have ek := e.2.1 i hi
    right
    refine ⟨zbi (zhk L k (i + 1)), rfl, ?_⟩
    simp only [fX12_holdsKind_L4, e.1]
    simp (disch := omega) only [nL_lt, nL_gt, nL_le, nL_ge, nL_eq, nL_qe, nI_ltI, nI_leI, nI_eq, nL_add, nL_dda, nI_add, nL_sub, pk_sub, nL_mul, nL_clamp, nI_cl, zchk_n, zchk_l, zb_s, zb2_s, zb3_s, zb3_e, zput_e, zjoin_e, zs_hit, zs_miss, nle_t, nle_f, nlt_t, nlt_f, neq_t, neq_f, ↓reduceIte, and_self, and_true, true_and, and_false, false_and, not_true_eq_false, not_false_eq_true, Nat.add_zero, ek]
    show _ = fX12_holdsKind_L4 (nI k) g n (zbi (zhk L k i || decide (L.2.1 i = k))) (nI (i + 1))
    cases zhk L k i <;> by_cases q : L.2.1 i = k <;> simp [zbi, q]
  · subst hh
    simp only [fX12_holdsKind_L4, e.1]
    simp (disch := omega) only [nL_lt, nL_gt, nL_le, nL_ge, nL_eq, nL_qe, nI_ltI, nI_leI, nI_eq, nL_add, nL_dda, nI_add, nL_sub, pk_sub, nL_mul, nL_clamp, nI_cl, zchk_n, zchk_l, zb_s, zb2_s, zb3_s, zb3_e, zput_e, zjoin_e, zs_hit, zs_miss, nle_t, nle_f, nlt_t, nlt_f, neq_t, neq_f, ↓reduceIte, and_self, and_true, true_and, and_false, false_and, not_true_eq_false, not_false_eq_true, Nat.add_zero, zbo_b]
/-- whether L says, or holds, kind k -/
def zsy (b : Bool) (k : Nat) (L : zL) : Bool := if b = true then zhk L k L.1 else decide (zlk L = k)
theorem r_saysBy {S : zS} {g0 g : zM} (hS : zSW S) (e : zRI S g0) (h0 : zFQ g0 g) {l k : Nat} (hl : l < (zSB S).1) (hk : k < 12) (b : Bool) : ∃ g1, fX12_saysBy (nI l) (nI k) (zbi b) g = some (zoi (zff (fun n => zsy b k (zat S l n).1) 41), g1) ∧ zFQ g0 g1 := by
  obtain ⟨g1, a1, a2⟩ := r_look0 hS (e.fq hS h0) h0 hl
  obtain ⟨g2, b1, b2⟩ := r_until (g0 := g0) hS e hl a2 (fun n v s => fX12_saysBy_L8 (nI k) (zbi b) n v s) (fun n => zsy b k (zat S l n).1) nI (-1) (fun n i s hs hi => by
    obtain ⟨s2, f1, f2⟩ := r_week hS e hl hs
    refine ⟨s2, s, f2, hs.2, ?_⟩
    have hw := zat_W hS hl i
    have hk' := zlk_lt hw
    simp only [fX12_saysBy_L8]
    unfold zsy
    cases b
    · simp (disch := omega) only [nL_lt, nL_gt, nL_le, nL_ge, nL_eq, nL_qe, nI_ltI, nI_leI, nI_eq, nL_add, nL_dda, nI_add, nL_sub, pk_sub, nL_mul, nL_clamp, nI_cl, zchk_n, zchk_l, zb_s, zb2_s, zb3_s, zb3_e, zput_e, zjoin_e, zs_hit, zs_miss, nle_t, nle_f, nlt_t, nlt_f, neq_t, neq_f, ↓reduceIte, and_self, and_true, true_and, and_false, false_and, not_true_eq_false, not_false_eq_true, Nat.add_zero, zbi_f, r_lastA hS hl hs, f1, Bool.false_eq_true]
      by_cases q : zlk (zat S l i).1 = k <;> simp [q]
    · simp (disch := omega) only [nL_lt, nL_gt, nL_le, nL_ge, nL_eq, nL_qe, nI_ltI, nI_leI, nI_eq, nL_add, nL_dda, nI_add, nL_sub, pk_sub, nL_mul, nL_clamp, nI_cl, zchk_n, zchk_l, zb_s, zb2_s, zb3_s, zb3_e, zput_e, zjoin_e, zs_hit, zs_miss, nle_t, nle_f, nlt_t, nlt_f, neq_t, neq_f, ↓reduceIte, and_self, and_true, true_and, and_false, false_and, not_true_eq_false, not_false_eq_true, Nat.add_zero, zbi_t, zi10, r_holdsKind hs.1 hw hk, f1]
      cases zhk (zat S l i).1 k (zat S l i).1.1 <;> simp [zbi]) (fun n s => by
    simp only [fX12_saysBy_L8]
    simp (disch := omega) only [nL_lt, nL_gt, nL_le, nL_ge, nL_eq, nL_qe, nI_ltI, nI_leI, nI_eq, nL_add, nL_dda, nI_add, nL_sub, pk_sub, nL_mul, nL_clamp, nI_cl, zchk_n, zchk_l, zb_s, zb2_s, zb3_s, zb3_e, zput_e, zjoin_e, zs_hit, zs_miss, nle_t, nle_f, nlt_t, nlt_f, neq_t, neq_f, ↓reduceIte, and_self, and_true, true_and, and_false, false_and, not_true_eq_false, not_false_eq_true, Nat.add_zero])
  refine ⟨g2, ?_, b2⟩
  unfold fX12_saysBy
  rw [a1, zb_s, b1, zmatch_oi]
theorem m_says {S : zS} (hS : zSW S) (v k : Int32) (b : Bool) : zAsk [1] S (fX11_says v k (zbi b)) (fX12_says v k (zbi b)) := by
  rcases zix v (zsz hS) with h | ⟨l, hl, rfl⟩
  · refine ⟨.error 1, fun g e => ⟨g, ?_, .refl⟩, fun g e => zRa_err2 (t := 1) (b := 0) ?_ (by decide)⟩
    · unfold fX11_says; rw [c_mailOf_no e h, zb3_e]
    · unfold fX12_says; simp only [zb_s, zb2_s, zb3_s, zb3_e, zjoin_e, zput_e, r_thr0, r_thr1, zi10, zi01, if_true, if_false, r_noLetter_no hS (e.thr hS 0) h]
  rcases zix k (n := 12) (by omega) with h | ⟨k, hk, rfl⟩
  · refine ⟨.error 1, fun g e => ⟨g, ?_, .refl⟩, fun g e => zRa_err2 (t := 1) (b := 0) ?_ (by decide)⟩
    · unfold fX11_says; rw [c_mailOf hS e hl, zb3_s, c_needKind_no h, zb3_e]
    · unfold fX12_says; simp only [zb_s, zb2_s, zb3_s, zb3_e, zjoin_e, zput_e, r_thr0, r_thr1, zi10, zi01, if_true, if_false, r_noLetter hS (e.thr hS 0) hl, r_noKind_no h]
  refine ⟨.ok (zoi (zff (fun n => zsy b k (zat S l n).1) 41)), fun g e => ?_, fun g e => ?_⟩
  · obtain ⟨g1, a1, a2⟩ := c_look0 hS e (fun _ _ _ _ => rfl) hl
    obtain ⟨g2, b1, b2⟩ := c_until hS e hl a2 (fun n v s => fX11_says_L33 (nI k) (zbi b) n v s) (fun n => zsy b k (zat S l n).1) (fun i => .ok (nI i)) (.ok (-1)) (fun n i s hs hi => by
      obtain ⟨s2, f1, f2⟩ := c_week hS e hl hs
      refine ⟨s2, f2, ?_⟩
      have hw := zat_W hS hl i
      have hk' := zlk_lt hw
      simp only [fX11_says_L33]
      unfold zsy
      cases b
      · simp (disch := omega) only [nL_lt, nL_gt, nL_le, nL_ge, nL_eq, nL_qe, nI_ltI, nI_leI, nI_eq, nL_add, nL_dda, nI_add, nL_sub, pk_sub, nL_mul, nL_clamp, nI_cl, zchk_n, zchk_l, zb_s, zb2_s, zb3_s, zb3_e, zput_e, zjoin_e, zs_hit, zs_miss, nle_t, nle_f, nlt_t, nlt_f, neq_t, neq_f, ↓reduceIte, and_self, and_true, true_and, and_false, false_and, not_true_eq_false, not_false_eq_true, Nat.add_zero, zbi_f, c_lastA hS hl hs, f1, Bool.false_eq_true, zjoin_ite]
        by_cases q : zlk (zat S l i).1 = k <;> simp [q]
      · simp (disch := omega) only [nL_lt, nL_gt, nL_le, nL_ge, nL_eq, nL_qe, nI_ltI, nI_leI, nI_eq, nL_add, nL_dda, nI_add, nL_sub, pk_sub, nL_mul, nL_clamp, nI_cl, zchk_n, zchk_l, zb_s, zb2_s, zb3_s, zb3_e, zput_e, zjoin_e, zs_hit, zs_miss, nle_t, nle_f, nlt_t, nlt_f, neq_t, neq_f, ↓reduceIte, and_self, and_true, true_and, and_false, false_and, not_true_eq_false, not_false_eq_true, Nat.add_zero, zbi_t, zi10, c_holds hs.mail hw hk, f1]
        cases zhk (zat S l i).1 k (zat S l i).1.1 <;> simp [zbi]) (fun n s => by
      simp only [fX11_says_L33]
      simp (disch := omega) only [nL_lt, nL_gt, nL_le, nL_ge, nL_eq, nL_qe, nI_ltI, nI_leI, nI_eq, nL_add, nL_dda, nI_add, nL_sub, pk_sub, nL_mul, nL_clamp, nI_cl, zchk_n, zchk_l, zb_s, zb2_s, zb3_s, zb3_e, zput_e, zjoin_e, zs_hit, zs_miss, nle_t, nle_f, nlt_t, nlt_f, neq_t, neq_f, ↓reduceIte, and_self, and_true, true_and, and_false, false_and, not_true_eq_false, not_false_eq_true, Nat.add_zero])
    refine ⟨g2, ?_, b2⟩
    unfold fX11_says
    rw [c_mailOf hS e hl, zb3_s, c_needKind hk, zb3_s, e.week, a1, zb_s, b1, zmatch_ok]
  · have e0 := e.thr hS 0
    obtain ⟨g1, a1, a2⟩ := r_saysBy hS e0 .refl hl hk b
    refine zRa_ok (g1 := g1) ?_ a2
    unfold fX12_says
    simp only [zb_s, zb2_s, zb3_s, zb3_e, zjoin_e, zput_e, r_thr0, r_thr1, zi10, zi01, if_true, if_false, r_noLetter hS e0 hl, r_noKind hk, a1]
theorem c_firstBinding {S : zS} {g0 g : zM} (hS : zSW S) (e0 : zCI S g0) (e : zCI S g) (h0 : zFS 446 g0 g) {l p : Nat} (hl : l < (zSB S).1) (hp : p < (zSV S).2.2.2.1) : ∃ g1, fX11_firstBinding (4 + 1 + 3 * l) (nI p) g = some (zoi (zff (fun n => zbd (zat S l n).1 ((zSV S).2.2.2.2.1 p) ((zSV S).2.2.2.2.2.1 p) (zat S l n).1.1) 41), g1) ∧ zFC g g1 := by
  have h8 := hS.proms
  obtain ⟨g1, a1, a2⟩ := c_look0 hS e (fun _ _ _ _ => rfl) hl
  obtain ⟨g2, b1, b2⟩ := c_until hS e hl a2 (fun n v s => fX11_firstBinding_L20 (nI p) n v s) (fun n => zbd (zat S l n).1 ((zSV S).2.2.2.2.1 p) ((zSV S).2.2.2.2.2.1 p) (zat S l n).1.1) nI (-1) (fun n i s hs hi => by
    obtain ⟨s2, f1, f2⟩ := c_week hS e hl hs
    refine ⟨s2, f2, ?_⟩
    simp only [fX11_firstBinding_L20]
    simp (disch := omega) only [nL_lt, nL_gt, nL_le, nL_ge, nL_eq, nL_qe, nI_ltI, nI_leI, nI_eq, nL_add, nL_dda, nI_add, nL_sub, pk_sub, nL_mul, nL_clamp, nI_cl, zchk_n, zchk_l, zb_s, zb2_s, zb3_s, zb3_e, zput_e, zjoin_e, zs_hit, zs_miss, nle_t, nle_f, nlt_t, nlt_f, neq_t, neq_f, ↓reduceIte, and_self, and_true, true_and, and_false, false_and, not_true_eq_false, not_false_eq_true, Nat.add_zero, c_boundA hS e hl hs, f1, b_test]
    rw [b_zbnd h8 hp]
    cases zbd (zat S l i).1 ((zSV S).2.2.2.2.1 p) ((zSV S).2.2.2.2.2.1 p) (zat S l i).1.1 <;> simp) (fun n s => by
    simp only [fX11_firstBinding_L20]
    simp (disch := omega) only [nL_lt, nL_gt, nL_le, nL_ge, nL_eq, nL_qe, nI_ltI, nI_leI, nI_eq, nL_add, nL_dda, nI_add, nL_sub, pk_sub, nL_mul, nL_clamp, nI_cl, zchk_n, zchk_l, zb_s, zb2_s, zb3_s, zb3_e, zput_e, zjoin_e, zs_hit, zs_miss, nle_t, nle_f, nlt_t, nlt_f, neq_t, neq_f, ↓reduceIte, and_self, and_true, true_and, and_false, false_and, not_true_eq_false, not_false_eq_true, Nat.add_zero])
  refine ⟨g2, ?_, b2⟩
  unfold fX11_firstBinding
  rw [e.week, a1, zb_s, b1, zmatch_oi]
theorem r_whenOf2 {S : zS} {g0 g : zM} (hS : zSW S) (e : zRI S g0) (h0 : zFQ g0 g) {l p : Nat} (hl : l < (zSB S).1) (hp : p < (zSV S).2.2.2.1) : ∃ g1, fX12_whenOf (nI l) (nI p) g = some (zoi (zff (fun n => zbd (zat S l n).1 ((zSV S).2.2.2.2.1 p) ((zSV S).2.2.2.2.2.1 p) (zat S l n).1.1) 41), g1) ∧ zFQ g0 g1 := by
  have h8 := hS.proms
  obtain ⟨g1, a1, a2⟩ := r_look0 hS (e.fq hS h0) h0 hl
  obtain ⟨g2, b1, b2⟩ := r_until (g0 := g0) hS e hl a2 (fun n v s => fX12_whenOf_L7 (nI p) n v s) (fun n => zbd (zat S l n).1 ((zSV S).2.2.2.2.1 p) ((zSV S).2.2.2.2.2.1 p) (zat S l n).1.1) nI (-1) (fun n i s hs hi => by
    obtain ⟨s2, f1, f2⟩ := r_week hS e hl hs
    refine ⟨s2, s, f2, hs.2, ?_⟩
    have hw := zat_W hS hl i
    have es := hs.ri hS e
    simp only [fX12_whenOf_L7]
    simp (disch := omega) only [nL_lt, nL_gt, nL_le, nL_ge, nL_eq, nL_qe, nI_ltI, nI_leI, nI_eq, nL_add, nL_dda, nI_add, nL_sub, pk_sub, nL_mul, nL_clamp, nI_cl, zchk_n, zchk_l, zb_s, zb2_s, zb3_s, zb3_e, zput_e, zjoin_e, zs_hit, zs_miss, nle_t, nle_f, nlt_t, nlt_f, neq_t, neq_f, ↓reduceIte, and_self, and_true, true_and, and_false, false_and, not_true_eq_false, not_false_eq_true, Nat.add_zero, r_isBound es.2.2.2.1.2.2.2.2.1 h8 hs.1 hw.2.1 hp, f1]
    cases zbd (zat S l i).1 ((zSV S).2.2.2.2.1 p) ((zSV S).2.2.2.2.2.1 p) (zat S l i).1.1 <;> simp [zbi]) (fun n s => by
    simp only [fX12_whenOf_L7]
    simp (disch := omega) only [nL_lt, nL_gt, nL_le, nL_ge, nL_eq, nL_qe, nI_ltI, nI_leI, nI_eq, nL_add, nL_dda, nI_add, nL_sub, pk_sub, nL_mul, nL_clamp, nI_cl, zchk_n, zchk_l, zb_s, zb2_s, zb3_s, zb3_e, zput_e, zjoin_e, zs_hit, zs_miss, nle_t, nle_f, nlt_t, nlt_f, neq_t, neq_f, ↓reduceIte, and_self, and_true, true_and, and_false, false_and, not_true_eq_false, not_false_eq_true, Nat.add_zero])
  refine ⟨g2, ?_, b2⟩
  unfold fX12_whenOf
  rw [a1, zb_s, b1, zmatch_oi]
theorem zFS.refl {h : Nat} {g : zM} : zFS h g g := fun _ _ _ _ => rfl
theorem m_when {S : zS} (hS : zSW S) (v p : Int32) : zAsk [1] S (fX11_when v p) (fX12_when v p) := by
  rcases zix v (zsz hS) with h | ⟨l, hl, rfl⟩
  · refine ⟨.error 1, fun g e => ⟨g, ?_, .refl⟩, fun g e => zRa_err2 (t := 1) (b := 0) ?_ (by decide)⟩
    · unfold fX11_when; rw [c_mailOf_no e h, zb3_e]
    · unfold fX12_when; simp only [zb_s, zb2_s, zb3_s, zb3_e, zjoin_e, zput_e, r_thr0, r_thr1, zi10, zi01, if_true, if_false, r_noLetter_no hS (e.thr hS 0) h]
  rcases zix p (zpz hS) with h | ⟨p, hp, rfl⟩
  · refine ⟨.error 1, fun g e => ⟨g, ?_, .refl⟩, fun g e => zRa_err2 (t := 1) (b := 0) ?_ (by decide)⟩
    · unfold fX11_when; rw [c_mailOf hS e hl, zb3_s, c_needPromise_no e h, zb3_e]
    · unfold fX12_when; simp only [zb_s, zb2_s, zb3_s, zb3_e, zjoin_e, zput_e, r_thr0, r_thr1, zi10, zi01, if_true, if_false, r_noLetter hS (e.thr hS 0) hl, r_noPromise_no hS (e.thr hS 0) h]
  refine ⟨.ok (zoi (zff (fun n => zbd (zat S l n).1 ((zSV S).2.2.2.2.1 p) ((zSV S).2.2.2.2.2.1 p) (zat S l n).1.1) 41)), fun g e => ?_, fun g e => ?_⟩
  · obtain ⟨g1, a1, a2⟩ := c_firstBinding hS e e .refl hl hp
    refine ⟨g1, ?_, a2⟩
    unfold fX11_when
    rw [c_mailOf hS e hl, zb3_s, c_needPromise hS e hp, zb3_s, a1, zb2_s]
  · have e0 := e.thr hS 0
    obtain ⟨g1, a1, a2⟩ := r_whenOf2 hS e0 .refl hl hp
    refine zRa_ok (g1 := g1) ?_ a2
    unfold fX12_when
    simp only [zb_s, zb2_s, zb3_s, zb3_e, zjoin_e, zput_e, r_thr0, r_thr1, zi10, zi01, if_true, if_false, r_noLetter hS e0 hl, r_noPromise hS e0 hp, a1]
/-- the first of the least: (least, who) -/
def zle1 (f : Nat → Option Nat) : Nat → Nat × Option Nat
  | 0 => (41, none)
  | i + 1 => match f i with
    | none => zle1 f i
    | some n => if n < (zle1 f i).1 then (n, some i) else zle1 f i
theorem zle1_le (f : Nat → Option Nat) : ∀ i, (zle1 f i).1 ≤ 41 ∧ ∀ k, (zle1 f i).2 = some k → k < i
  | 0 => ⟨Nat.le_refl _, fun k h => nomatch h⟩
  | i + 1 => by
    have ih := zle1_le f i
    unfold zle1
    cases f i with
    | none => exact ⟨ih.1, fun k h => by have := ih.2 k h; omega⟩
    | some n =>
      simp only
      split
      · exact ⟨by simp only; omega, fun k h => by cases h; omega⟩
      · exact ⟨ih.1, fun k h => by have := ih.2 k h; omega⟩
theorem m_soonest {S : zS} (hS : zSW S) (p : Int32) : zAsk [1] S (fX11_soonest p) (fX12_soonest p) := by
  have h8 := hS.eight
  rcases zix p (zpz hS) with h | ⟨p, hp, rfl⟩
  · refine ⟨.error 1, fun g e => ⟨g, ?_, .refl⟩, fun g e => zRa_err2 (t := 1) (b := 0) ?_ (by decide)⟩
    · unfold fX11_soonest; rw [c_needPromise_no e h, zb3_e]
    · unfold fX12_soonest; simp only [zb_s, zb2_s, zb3_s, zb3_e, zjoin_e, zput_e, r_thr0, r_thr1, zi10, zi01, if_true, if_false, r_noPromise_no hS (e.thr hS 0) h]
  have hb : ∃ f : Nat → Option Nat, ∀ l, f l = zff (fun n => zbd (zat S l n).1 ((zSV S).2.2.2.2.1 p) ((zSV S).2.2.2.2.2.1 p) (zat S l n).1.1) 41 := ⟨_, fun _ => rfl⟩
  obtain ⟨f, hf⟩ := hb
  have hf41 : ∀ l n, f l = some n → n < 41 := fun l n q => by rw [hf] at q; exact (zff_lt q).1
  refine ⟨.ok (zoi (zle1 f (zSB S).1).2), fun g e => ?_, fun g e => ?_⟩
  · unfold fX11_soonest
    rw [c_needPromise hS e hp, zb3_s]
    refine zL_Q0 (fun n i (st : (Int32 × Int32) × zM) => fX11_soonest_L13 (nI p) n st.1.1 st.1.2 (nI i) st.2) (fun i st => st.1 = (nI (zle1 f i).1, zoi (zle1 f i).2) ∧ zFC g st.2) (zSB S).1 (fun x => ∃ g1, x = some (.ok (zoi (zle1 f (zSB S).1).2), g1) ∧ zFC g g1) ((41, -1), g) (by omega) ⟨rfl, .refl⟩ (fun n i st hi hh => ?_) (fun n st hh => ?_)
    · obtain ⟨st, s⟩ := st
      obtain ⟨rfl, b2⟩ := hh
      have b2 : zFC g s := b2
      have es : zCI S s := e.fr hS b2
      obtain ⟨s1, a1, a2⟩ := c_firstBinding hS es es .refl hi hp
      rw [← hf i] at a1
      have hle := (zle1_le f i).1
      right
      refine ⟨((nI (zle1 f (i + 1)).1, zoi (zle1 f (i + 1)).2), s1), ⟨rfl, b2.trans a2⟩, ?_⟩
      simp only [fX11_soonest_L13, es.size]
      simp (disch := omega) only [nL_lt, nL_gt, nL_le, nL_ge, nL_eq, nL_qe, nI_ltI, nI_leI, nI_eq, nL_add, nL_dda, nI_add, nL_sub, pk_sub, nL_mul, nL_clamp, nI_cl, zchk_n, zchk_l, zb_s, zb2_s, zb3_s, zb3_e, zput_e, zjoin_e, zs_hit, zs_miss, nle_t, nle_f, nlt_t, nlt_f, neq_t, neq_f, ↓reduceIte, and_self, and_true, true_and, and_false, false_and, not_true_eq_false, not_false_eq_true, Nat.add_zero, a1]
      cases q : f i with
      | none =>
        have : zle1 f (i + 1) = zle1 f i := by show (match f i with | none => zle1 f i | some n => _) = _; rw [q]
        rw [this]
        simp (disch := omega) only [nL_lt, nL_gt, nL_le, nL_ge, nL_eq, nL_qe, nI_ltI, nI_leI, nI_eq, nL_add, nL_dda, nI_add, nL_sub, pk_sub, nL_mul, nL_clamp, nI_cl, zchk_n, zchk_l, zb_s, zb2_s, zb3_s, zb3_e, zput_e, zjoin_e, zs_hit, zs_miss, nle_t, nle_f, nlt_t, nlt_f, neq_t, neq_f, ↓reduceIte, and_self, and_true, true_and, and_false, false_and, not_true_eq_false, not_false_eq_true, Nat.add_zero, zoi_none]
      | some n =>
        have hn := hf41 i n q
        have : zle1 f (i + 1) = if n < (zle1 f i).1 then (n, some i) else zle1 f i := by show (match f i with | none => zle1 f i | some n => _) = _; rw [q]
        rw [this]
        by_cases q2 : n < (zle1 f i).1
        · simp (disch := omega) only [nL_lt, nL_gt, nL_le, nL_ge, nL_eq, nL_qe, nI_ltI, nI_leI, nI_eq, nL_add, nL_dda, nI_add, nL_sub, pk_sub, nL_mul, nL_clamp, nI_cl, zchk_n, zchk_l, zb_s, zb2_s, zb3_s, zb3_e, zput_e, zjoin_e, zs_hit, zs_miss, nle_t, nle_f, nlt_t, nlt_f, neq_t, neq_f, ↓reduceIte, and_self, and_true, true_and, and_false, false_and, not_true_eq_false, not_false_eq_true, Nat.add_zero, zoi_some, nI_m1]
        · simp (disch := omega) only [nL_lt, nL_gt, nL_le, nL_ge, nL_eq, nL_qe, nI_ltI, nI_leI, nI_eq, nL_add, nL_dda, nI_add, nL_sub, pk_sub, nL_mul, nL_clamp, nI_cl, zchk_n, zchk_l, zb_s, zb2_s, zb3_s, zb3_e, zput_e, zjoin_e, zs_hit, zs_miss, nle_t, nle_f, nlt_t, nlt_f, neq_t, neq_f, ↓reduceIte, and_self, and_true, true_and, and_false, false_and, not_true_eq_false, not_false_eq_true, Nat.add_zero, zoi_some, nI_m1]
    · obtain ⟨st, s⟩ := st
      obtain ⟨rfl, b2⟩ := hh
      have b2 : zFC g s := b2
      have es : zCI S s := e.fr hS b2
      refine ⟨s, ?_, b2⟩
      simp only [fX11_soonest_L13, es.size]
      simp (disch := omega) only [nL_lt, nL_gt, nL_le, nL_ge, nL_eq, nL_qe, nI_ltI, nI_leI, nI_eq, nL_add, nL_dda, nI_add, nL_sub, pk_sub, nL_mul, nL_clamp, nI_cl, zchk_n, zchk_l, zb_s, zb2_s, zb3_s, zb3_e, zput_e, zjoin_e, zs_hit, zs_miss, nle_t, nle_f, nlt_t, nlt_f, neq_t, neq_f, ↓reduceIte, and_self, and_true, true_and, and_false, false_and, not_true_eq_false, not_false_eq_true, Nat.add_zero]
  · have e0 := e.thr hS 0
    have main : ∃ g1, fX12_soonest_L28 (nI p) zFU (-1) 41 0 (zset g 493 0 0) = some (zoi (zle1 f (zSB S).1).2, g1) ∧ zFQ (zset g 493 0 0) g1 := by
      refine zL_Q0 (fun n i (st : (Int32 × Int32) × zM) => fX12_soonest_L28 (nI p) n st.1.1 st.1.2 (nI i) st.2) (fun i st => st.1 = (zoi (zle1 f i).2, nI (zle1 f i).1) ∧ zFQ (zset g 493 0 0) st.2) (zSB S).1 (fun x => ∃ g1, x = some (zoi (zle1 f (zSB S).1).2, g1) ∧ zFQ (zset g 493 0 0) g1) ((-1, 41), zset g 493 0 0) (by omega) ⟨rfl, .refl⟩ (fun n i st hi hh => ?_) (fun n st hh => ?_)
      · obtain ⟨st, s⟩ := st
        obtain ⟨rfl, b2⟩ := hh
        have b2 : zFQ (zset g 493 0 0) s := b2
        obtain ⟨s1, a1, a2⟩ := r_whenOf2 hS e0 b2 hi hp
        rw [← hf i] at a1
        have hle := (zle1_le f i).1
        right
        refine ⟨((zoi (zle1 f (i + 1)).2, nI (zle1 f (i + 1)).1), s1), ⟨rfl, a2⟩, ?_⟩
        simp only [fX12_soonest_L28, r_letters (e0.fq hS b2)]
        simp (disch := omega) only [nL_lt, nL_gt, nL_le, nL_ge, nL_eq, nL_qe, nI_ltI, nI_leI, nI_eq, nL_add, nL_dda, nI_add, nL_sub, pk_sub, nL_mul, nL_clamp, nI_cl, zchk_n, zchk_l, zb_s, zb2_s, zb3_s, zb3_e, zput_e, zjoin_e, zs_hit, zs_miss, nle_t, nle_f, nlt_t, nlt_f, neq_t, neq_f, ↓reduceIte, and_self, and_true, true_and, and_false, false_and, not_true_eq_false, not_false_eq_true, Nat.add_zero, a1]
        cases q : f i with
        | none =>
          have : zle1 f (i + 1) = zle1 f i := by show (match f i with | none => zle1 f i | some n => _) = _; rw [q]
          rw [this]
          simp (disch := omega) only [nL_lt, nL_gt, nL_le, nL_ge, nL_eq, nL_qe, nI_ltI, nI_leI, nI_eq, nL_add, nL_dda, nI_add, nL_sub, pk_sub, nL_mul, nL_clamp, nI_cl, zchk_n, zchk_l, zb_s, zb2_s, zb3_s, zb3_e, zput_e, zjoin_e, zs_hit, zs_miss, nle_t, nle_f, nlt_t, nlt_f, neq_t, neq_f, ↓reduceIte, and_self, and_true, true_and, and_false, false_and, not_true_eq_false, not_false_eq_true, Nat.add_zero, zoi_none, show ((-1 : Int32) < 0) = True from by decide]
        | some n =>
          have hn := hf41 i n q
          have : zle1 f (i + 1) = if n < (zle1 f i).1 then (n, some i) else zle1 f i := by show (match f i with | none => zle1 f i | some n => _) = _; rw [q]
          rw [this]
          by_cases q2 : n < (zle1 f i).1
          · simp (disch := omega) only [nL_lt, nL_gt, nL_le, nL_ge, nL_eq, nL_qe, nI_ltI, nI_leI, nI_eq, nL_add, nL_dda, nI_add, nL_sub, pk_sub, nL_mul, nL_clamp, nI_cl, zchk_n, zchk_l, zb_s, zb2_s, zb3_s, zb3_e, zput_e, zjoin_e, zs_hit, zs_miss, nle_t, nle_f, nlt_t, nlt_f, neq_t, neq_f, ↓reduceIte, and_self, and_true, true_and, and_false, false_and, not_true_eq_false, not_false_eq_true, Nat.add_zero, zoi_some]
          · simp (disch := omega) only [nL_lt, nL_gt, nL_le, nL_ge, nL_eq, nL_qe, nI_ltI, nI_leI, nI_eq, nL_add, nL_dda, nI_add, nL_sub, pk_sub, nL_mul, nL_clamp, nI_cl, zchk_n, zchk_l, zb_s, zb2_s, zb3_s, zb3_e, zput_e, zjoin_e, zs_hit, zs_miss, nle_t, nle_f, nlt_t, nlt_f, neq_t, neq_f, ↓reduceIte, and_self, and_true, true_and, and_false, false_and, not_true_eq_false, not_false_eq_true, Nat.add_zero, zoi_some]
      · obtain ⟨st, s⟩ := st
        obtain ⟨rfl, b2⟩ := hh
        have b2 : zFQ (zset g 493 0 0) s := b2
        refine ⟨s, ?_, b2⟩
        simp only [fX12_soonest_L28, r_letters (e0.fq hS b2)]
        simp (disch := omega) only [nL_lt, nL_gt, nL_le, nL_ge, nL_eq, nL_qe, nI_ltI, nI_leI, nI_eq, nL_add, nL_dda, nI_add, nL_sub, pk_sub, nL_mul, nL_clamp, nI_cl, zchk_n, zchk_l, zb_s, zb2_s, zb3_s, zb3_e, zput_e, zjoin_e, zs_hit, zs_miss, nle_t, nle_f, nlt_t, nlt_f, neq_t, neq_f, ↓reduceIte, and_self, and_true, true_and, and_false, false_and, not_true_eq_false, not_false_eq_true, Nat.add_zero]
    obtain ⟨g1, a1, a2⟩ := main
    refine zRa_ok (g1 := g1) ?_ a2
    unfold fX12_soonest
    simp only [zb_s, zb2_s, zb3_s, zb3_e, zjoin_e, zput_e, r_thr0, r_thr1, zi10, zi01, if_true, if_false, r_noPromise hS e0 hp]
    exact a1
/-- (most, when) over the weeks from 0 on -/
def zrp (f : Nat → Int32) : Nat → Int32 × Int32
  | 0 => (-1, 0)
  | i + 1 => if f i ≤ (zrp f i).1 then zrp f i else (f i, nI i)
theorem m_ripe {S : zS} (hS : zSW S) (v : Int32) (b : Bool) : zAsk [1] S (fX11_ripe v (zbi b)) (fX12_ripe v (zbi b)) := by
  rcases zix v (zsz hS) with h | ⟨l, hl, rfl⟩
  · refine ⟨.error 1, fun g e => ⟨g, ?_, .refl⟩, fun g e => zRa_err2 (t := 1) (b := 0) ?_ (by decide)⟩
    · unfold fX11_ripe; rw [c_mailOf_no e h, zb3_e]
    · unfold fX12_ripe; simp only [zb_s, zb2_s, zb3_s, zb3_e, zjoin_e, zput_e, r_thr0, r_thr1, zi10, zi01, if_true, if_false, r_noLetter_no hS (e.thr hS 0) h]
  have hb : ∃ f : Nat → Int32, ∀ n, f n = zbc (zbnd (zSV S) (zat S l n).1) := ⟨_, fun _ => rfl⟩
  obtain ⟨f, hf⟩ := hb
  refine ⟨.ok (if b = true then (zrp f 41).1 else (zrp f 41).2), fun g e => ?_, fun g e => ?_⟩
  · obtain ⟨g1, a1, a2⟩ := c_look0 hS e .refl hl
    have main : ∃ g2, fX11_ripe_L33 (zbi b) (fun v4_9 v5_9 g9 => if zbi b = 0 then some (.ok v5_9, g9) else some (.ok v4_9, g9)) zFU (-1) 0 0 g1 = some (.ok (if b = true then (zrp f 41).1 else (zrp f 41).2), g2) ∧ zFC g g2 := by
      refine zL_Q0 (fun n i (st : (Int32 × Int32) × zM) => fX11_ripe_L33 (zbi b) (fun v4_9 v5_9 g9 => if zbi b = 0 then some (.ok v5_9, g9) else some (.ok v4_9, g9)) n st.1.1 st.1.2 (nI i) st.2) (fun i st => st.1 = zrp f i ∧ zCA S g l i st.2) 41 (fun x => ∃ g2, x = some (.ok (if b = true then (zrp f 41).1 else (zrp f 41).2), g2) ∧ zFC g g2) ((-1, 0), g1) (by omega) ⟨rfl, a2⟩ (fun n i st hi hh => ?_) (fun n st hh => ?_)
      · obtain ⟨st, s⟩ := st
        obtain ⟨rfl, b2⟩ := hh
        obtain ⟨s1, d1, d2⟩ := c_week hS e hl b2
        right
        refine ⟨(zrp f (i + 1), s1), ⟨rfl, d2⟩, ?_⟩
        simp only [fX11_ripe_L33]
        simp (disch := omega) only [nL_lt, nL_gt, nL_le, nL_ge, nL_eq, nL_qe, nI_ltI, nI_leI, nI_eq, nL_add, nL_dda, nI_add, nL_sub, pk_sub, nL_mul, nL_clamp, nI_cl, zchk_n, zchk_l, zb_s, zb2_s, zb3_s, zb3_e, zput_e, zjoin_e, zs_hit, zs_miss, nle_t, nle_f, nlt_t, nlt_f, neq_t, neq_f, ↓reduceIte, and_self, and_true, true_and, and_false, false_and, not_true_eq_false, not_false_eq_true, Nat.add_zero, c_boundA hS e hl b2, zbc_eq, d1, ← hf]
        have : zrp f (i + 1) = if f i ≤ (zrp f i).1 then zrp f i else (f i, nI i) := rfl
        rw [this]
        by_cases q : f i ≤ (zrp f i).1 <;> simp only [q, if_true, if_false]
      · obtain ⟨st, s⟩ := st
        obtain ⟨q1, b2⟩ := hh
        have q1 : st = zrp f 41 := q1
        refine ⟨s, ?_, b2.fc⟩
        rw [← q1]
        simp only [fX11_ripe_L33]
        simp (disch := omega) only [nL_lt, nL_gt, nL_le, nL_ge, nL_eq, nL_qe, nI_ltI, nI_leI, nI_eq, nL_add, nL_dda, nI_add, nL_sub, pk_sub, nL_mul, nL_clamp, nI_cl, zchk_n, zchk_l, zb_s, zb2_s, zb3_s, zb3_e, zput_e, zjoin_e, zs_hit, zs_miss, nle_t, nle_f, nlt_t, nlt_f, neq_t, neq_f, ↓reduceIte, and_self, and_true, true_and, and_false, false_and, not_true_eq_false, not_false_eq_true, Nat.add_zero]
        cases b <;> simp [zbi]
    obtain ⟨g2, b1, b2⟩ := main
    refine ⟨g2, ?_, b2⟩
    unfold fX11_ripe
    rw [c_mailOf hS e hl, zb3_s, e.week, a1, zb_s]
    exact b1
  · have e0 := e.thr hS 0
    obtain ⟨g1, a1, a2⟩ := r_look0 hS e0 .refl hl
    have main : ∃ g2, fX12_ripe_L33 (zbi b) (fun v3_12 v4_12 g12 => if zbi b = 0 then some (v3_12, g12) else some (v4_12, g12)) zFU 0 (-1) 0 g1 = some ((if b = true then (zrp f 41).1 else (zrp f 41).2), g2) ∧ zFQ (zset g 493 0 0) g2 := by
      refine zL_Q0 (fun n i (st : (Int32 × Int32) × zM) => fX12_ripe_L33 (zbi b) (fun v3_12 v4_12 g12 => if zbi b = 0 then some (v3_12, g12) else some (v4_12, g12)) n st.1.2 st.1.1 (nI i) st.2) (fun i st => st.1 = zrp f i ∧ zRA S (zset g 493 0 0) l i st.2) 41 (fun x => ∃ g2, x = some ((if b = true then (zrp f 41).1 else (zrp f 41).2), g2) ∧ zFQ (zset g 493 0 0) g2) ((-1, 0), g1) (by omega) ⟨rfl, a2⟩ (fun n i st hi hh => ?_) (fun n st hh => ?_)
      · obtain ⟨st, s⟩ := st
        obtain ⟨rfl, b2⟩ := hh
        obtain ⟨s1, d1, d2⟩ := r_week hS e0 hl b2
        right
        refine ⟨(zrp f (i + 1), s1), ⟨rfl, d2⟩, ?_⟩
        simp only [fX12_ripe_L33]
        simp (disch := omega) only [nL_lt, nL_gt, nL_le, nL_ge, nL_eq, nL_qe, nI_ltI, nI_leI, nI_eq, nL_add, nL_dda, nI_add, nL_sub, pk_sub, nL_mul, nL_clamp, nI_cl, zchk_n, zchk_l, zb_s, zb2_s, zb3_s, zb3_e, zput_e, zjoin_e, zs_hit, zs_miss, nle_t, nle_f, nlt_t, nlt_f, neq_t, neq_f, ↓reduceIte, and_self, and_true, true_and, and_false, false_and, not_true_eq_false, not_false_eq_true, Nat.add_zero, r_boundA hS e0 hl b2, zbc_eq, d1, ← hf]
        have : zrp f (i + 1) = if f i ≤ (zrp f i).1 then zrp f i else (f i, nI i) := rfl
        rw [this]
        by_cases q : f i ≤ (zrp f i).1
        · have q2 : ¬ (zrp f i).1 < f i := Int32.not_lt.mpr q
          simp only [q, q2, if_true, if_false]
        · have q2 : (zrp f i).1 < f i := Int32.not_le.mp q
          simp only [q, q2, if_true, if_false]
      · obtain ⟨st, s⟩ := st
        obtain ⟨q1, b2⟩ := hh
        have q1 : st = zrp f 41 := q1
        refine ⟨s, ?_, b2.2⟩
        rw [← q1]
        simp only [fX12_ripe_L33]
        simp (disch := omega) only [nL_lt, nL_gt, nL_le, nL_ge, nL_eq, nL_qe, nI_ltI, nI_leI, nI_eq, nL_add, nL_dda, nI_add, nL_sub, pk_sub, nL_mul, nL_clamp, nI_cl, zchk_n, zchk_l, zb_s, zb2_s, zb3_s, zb3_e, zput_e, zjoin_e, zs_hit, zs_miss, nle_t, nle_f, nlt_t, nlt_f, neq_t, neq_f, ↓reduceIte, and_self, and_true, true_and, and_false, false_and, not_true_eq_false, not_false_eq_true, Nat.add_zero]
        cases b <;> simp [zbi]
    obtain ⟨g2, b1, b2⟩ := main
    refine zRa_ok (g1 := g2) ?_ b2
    unfold fX12_ripe
    simp only [zb_s, zb2_s, zb3_s, zb3_e, zjoin_e, zput_e, r_thr0, r_thr1, zi10, zi01, if_true, if_false, r_noLetter hS e0 hl, a1]
    exact b1
/-- POSTAGE -/
def zpo (S : zS) (L : zL) : Int32 := (yws (zSV S).2.2.1 L + 9) / 10 + 2 * zbc (zbnd (zSV S) L)
theorem r_postageOf {S : zS} {g0 g : zM} (hS : zSW S) (e : zRI S g0) (h0 : zFQ g0 g) {l n : Nat} (hl : l < (zSB S).1) (hn : n ≤ 40) : ∃ g1, fX12_postageOf (nI l) (nI n) g = some (zpo S (zat S l n).1, g1) ∧ zFQ g0 g1 := by
  obtain ⟨g1, a1, a2⟩ := r_ahead0 hS (e.fq hS h0) h0 hl hn
  refine ⟨g1, ?_, a2.2⟩
  unfold fX12_postageOf
  rw [a1, zb_s, r_wordsA hS e hl a2, zb_s, r_boundA hS e hl a2, zb_s, zbc_eq, zb_s]
  rfl
theorem c_postageA {S : zS} {g s : zM} (hS : zSW S) (e : zCI S g) {l n : Nat} (hl : l < (zSB S).1) (h : zCA S g l n s) : fX10_postageFor 2 447 s = some (zpo S (zat S l n).1) := by
  unfold fX10_postageFor
  rw [c_wordsA hS e hl h, zb_s, c_boundA hS e hl h, zb_s, zbc_eq, zb_s]
  rfl
theorem i_sub0 (x : Int32) : x - 0 = x := by simp
theorem m_postage {S : zS} (hS : zSW S) (v n : Int32) (b : Bool) : zAsk [1, 2] S (fX11_postage v n (zbi b)) (fX12_postage v n (zbi b)) := by
  rcases zix v (zsz hS) with h | ⟨l, hl, rfl⟩
  · refine ⟨.error 1, fun g e => ⟨g, ?_, .refl⟩, fun g e => zRa_err2 (t := 1) (b := 0) ?_ (by decide)⟩
    · unfold fX11_postage; rw [c_mailOf_no e h, zb3_e]
    · unfold fX12_postage; simp only [zb_s, zb2_s, zb3_s, zb3_e, zjoin_e, zput_e, r_thr0, r_thr1, zi10, zi01, if_true, if_false, r_noLetter_no hS (e.thr hS 0) h]
  -- n is bad: below the least, or above 40
  have bad : (∀ g : zM, fX11_needAhead n (if zbi b = 0 then 0 else 1) g = some (.error 2, g)) → (∀ g : zM, fX12_in n (if zbi b = 0 then 0 else 1) 40 g = some 0) → zAsk [1, 2] S (fX11_postage (nI l) n (zbi b)) (fX12_postage (nI l) n (zbi b)) := by
    intro h1 h2
    refine ⟨.error 2, fun g e => ⟨g, ?_, .refl⟩, fun g e => zRa_err2 (t := 2) (b := 0) ?_ (by decide)⟩
    · unfold fX11_postage; rw [c_mailOf hS e hl, zb3_s, zjoin_ite, h1 g, zb3_e]
    · have h3 := h2 (zset g 493 0 0)
      unfold fX12_postage
      cases b
      · simp only [zbi_f, if_true] at h3
        simp only [zb_s, zb2_s, zb3_s, zb3_e, zjoin_e, zput_e, r_thr0, r_thr1, zi10, zi01, if_true, if_false, r_noLetter hS (e.thr hS 0) hl, zbi_f, h3]
      · simp only [zbi_t, zi10, if_false] at h3
        simp only [zb_s, zb2_s, zb3_s, zb3_e, zjoin_e, zput_e, r_thr0, r_thr1, zi10, zi01, if_true, if_false, r_noLetter hS (e.thr hS 0) hl, zbi_t, h3]
  rcases zix n (n := 41) (by omega) with h | ⟨n, hn, rfl⟩
  · refine bad (fun g => ?_) (fun g => ?_)
    · cases b
      · exact c_needAhead_no h (m := 0) (by omega)
      · exact c_needAhead_no h (m := 1) (by omega)
    · cases b
      · exact r_in_no (n := 40) h (by omega)
      · unfold fX12_in
        simp only [zbi_t, zi10, if_false]
        by_cases q : n < 1
        · rw [if_pos q]
        · have h1 : ¬ n < 0 := fun q2 => q (by
            rw [Int32.lt_iff_toInt_lt] at q2 ⊢
            have : (0 : Int32).toInt = 0 := by decide
            have : (1 : Int32).toInt = 1 := by decide
            omega)
          have h2 := zbad_nlt h h1
          rw [if_neg q, if_pos (by
            rw [Int32.lt_iff_toInt_lt] at h2 ⊢
            rw [nI_toInt (by omega)] at h2
            have : (40 : Int32).toInt = 40 := by decide
            omega)]
  cases b
  · refine ⟨.ok (zpo S (zat S l n).1), fun g e => ?_, fun g e => ?_⟩
    · obtain ⟨g1, a1, a2⟩ := c_look0 hS e .refl hl
      obtain ⟨g2, b1, b2⟩ := c_go0 hS e hl (n := n) (by omega) a2
      refine ⟨g2, ?_, b2.fc⟩
      unfold fX11_postage
      rw [c_mailOf hS e hl, zb3_s]
      simp only [zbi_f, if_true, zjoin_e]
      rw [show fX11_needAhead (nI n) 0 g = _ from c_needAhead (m := 0) hn (by omega), zb3_s, e.week, a1, zb_s, b1, zb_s, c_postageA hS e hl b2, zb_s]
    · have e0 := e.thr hS 0
      obtain ⟨g1, a1, a2⟩ := r_postageOf hS e0 .refl hl (n := n) (by omega)
      refine zRa_ok (g1 := g1) ?_ a2
      unfold fX12_postage
      simp only [zb_s, zb2_s, zb3_s, zb3_e, zjoin_e, zput_e, r_thr0, r_thr1, zi10, zi01, if_true, if_false, r_noLetter hS e0 hl, zbi_f, show fX12_in (nI n) 0 40 (zset g 493 0 0) = some 1 from r_in (lo := 0) (hi := 40) (by omega) (by omega) (by omega), a1, i_sub0]
  · by_cases h0 : n = 0
    · subst h0
      refine bad (fun g => ?_) (fun g => ?_)
      · unfold fX11_needAhead
        simp only [zbi_t, zi10, if_false]
        simp (disch := omega) only [nL_lt, nL_gt, nL_le, nL_ge, nL_eq, nL_qe, nI_ltI, nI_leI, nI_eq, nL_add, nL_dda, nI_add, nL_sub, pk_sub, nL_mul, nL_clamp, nI_cl, zchk_n, zchk_l, zb_s, zb2_s, zb3_s, zb3_e, zput_e, zjoin_e, zs_hit, zs_miss, nle_t, nle_f, nlt_t, nlt_f, neq_t, neq_f, ↓reduceIte, and_self, and_true, true_and, and_false, false_and, not_true_eq_false, not_false_eq_true, Nat.add_zero]
      · unfold fX12_in
        simp only [zbi_t, zi10, if_false]
        simp (disch := omega) only [nL_lt, nL_gt, nL_le, nL_ge, nL_eq, nL_qe, nI_ltI, nI_leI, nI_eq, nL_add, nL_dda, nI_add, nL_sub, pk_sub, nL_mul, nL_clamp, nI_cl, zchk_n, zchk_l, zb_s, zb2_s, zb3_s, zb3_e, zput_e, zjoin_e, zs_hit, zs_miss, nle_t, nle_f, nlt_t, nlt_f, neq_t, neq_f, ↓reduceIte, and_self, and_true, true_and, and_false, false_and, not_true_eq_false, not_false_eq_true, Nat.add_zero]
    · obtain ⟨m, rfl⟩ : ∃ m, n = m + 1 := ⟨n - 1, by omega⟩
      refine ⟨.ok (zpo S (zat S l (m + 1)).1 - zpo S (zat S l m).1), fun g e => ?_, fun g e => ?_⟩
      · obtain ⟨g1, a1, a2⟩ := c_look0 hS e .refl hl
        obtain ⟨g2, b1, b2⟩ := c_go0 hS e hl (n := m) (by omega) a2
        obtain ⟨g3, d1, d2⟩ := c_week hS e hl b2
        refine ⟨g3, ?_, d2.fc⟩
        unfold fX11_postage
        rw [c_mailOf hS e hl, zb3_s]
        simp only [zbi_t, zi10, if_false, zjoin_e]
        rw [show fX11_needAhead (nI (m + 1)) 1 g = _ from c_needAhead (m := 1) hn (by omega), zb3_s, e.week, a1, zb_s, nI_pred, b1, zb_s, c_postageA hS e hl b2, zb_s, d1, zb_s, c_postageA hS e hl d2, zb_s]
      · have e0 := e.thr hS 0
        obtain ⟨g1, a1, a2⟩ := r_postageOf hS e0 .refl hl (n := m + 1) (by omega)
        obtain ⟨g2, b1, b2⟩ := r_postageOf hS e0 a2 hl (n := m) (by omega)
        refine zRa_ok (g1 := g2) ?_ b2
        unfold fX12_postage
        simp only [zb_s, zb2_s, zb3_s, zb3_e, zjoin_e, zput_e, r_thr0, r_thr1, zi10, zi01, if_true, if_false, r_noLetter hS e0 hl, zbi_t, show fX12_in (nI (m + 1)) 1 40 (zset g 493 0 0) = some 1 from r_in (lo := 1) (hi := 40) (by omega) (by omega) (by omega), a1, nI_pred, b1]
