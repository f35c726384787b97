def fX12_thrown (g : zM) : Option Int32 := some (g 493 0)
set_option maxHeartbeats 4000000 in
set_option maxRecDepth 100000 in
theorem fX12_thrown_ok {X : zX} (hX : zCX X cX12_thrown RX12) (hT : zNT X) (hR : X.2.2.2.1 = zrm 0 0) (hr : X.2.2.2.2.2.2.2.2.1.sig.returnType = (some .int)) (hn : X.2.2.2.2.2.2.2.2.2.1.maxLocals = 1)  {g : zM} {r : Int32} (hf : fX12_thrown g = some r) : zW X (zQ X (.inl (some (.int r), g)) 0) 0 0 0 [(0, .ref (zB X + 493))] [] g := by
  unfold fX12_thrown at hf
  refine z_aload_n hX dX12_thrown_0 0 rfl ?_
  refine gf_Model_thrown hX zq_493 q1494 dX12_thrown_1 ?_
  obtain rfl := Option.some.inj hf
  exact z_iret hX hr rfl (zl rfl) (zl rfl) dX12_thrown_4
set_option maxHeartbeats 4000000 in
set_option maxRecDepth 100000 in
theorem ct_X12_thrown {E : zE} {g : zM} {r : Int32} (hf : fX12_thrown g = some r) : zCt yX12_thrown cX12_thrown 1 (some .int) 0 0 E [.ref (E.1 + 493)] g (.inl (some (.int r), g)) := by
  refine zmet (by decide) (zl rfl) (fun X hE hX hT hR hr hn => ?_)
  subst hE
  exact fX12_thrown_ok hX hT hR hr hn  hf
def fX12_throwsIf (v1 : Int32) (v2 : Int32) (g : zM) : Option (Int32 × zM) := if v1 = 0 then zbo v1 (some (v1, g)) else zput g 493 0 v2 (fun g3 => zbo v1 (some (v1, g3)))
set_option maxHeartbeats 4000000 in
set_option maxRecDepth 100000 in
theorem fX12_throwsIf_ok {X : zX} (hX : zCX X cX12_throwsIf RX12) (hT : zNT X) (hR : X.2.2.2.1 = zrm 0 0) (hr : X.2.2.2.2.2.2.2.2.1.sig.returnType = (some .boolean)) (hn : X.2.2.2.2.2.2.2.2.2.1.maxLocals = 3) {v1 : Int32} {v2 : Int32} {g : zM} {r : Int32 × zM} (hf : fX12_throwsIf v1 v2 g = some r) : zW X (zQ X (.inl (some (.int r.1), r.2)) 0) 0 0 0 [(0, .ref (zB X + 493)), (1, .int v1), (2, .int v2)] [] g := by
  unfold fX12_throwsIf at hf
  refine z_iload_n hX dX12_throwsIf_0 1 rfl ?_
  refine z_if_eq hX 9 dX12_throwsIf_1 (by decide) (fun h1 => ?_) (fun h1 => ?_)
  · replace hf := zif_pos h1 hf
    refine z_iload_n hX dX12_throwsIf_9 1 rfl ?_
    replace hf := zbo_some hf
    obtain ⟨h2, hf⟩ := hf
    obtain rfl := Option.some.inj hf
    exact z_iret hX hr (zbn h2) (zl rfl) (zl rfl) dX12_throwsIf_10
  · replace hf := zif_neg h1 hf
    refine z_aload_n hX dX12_throwsIf_4 0 rfl ?_
    refine z_iload_n hX dX12_throwsIf_5 2 rfl ?_
    replace hf := zput_some hf
    obtain ⟨g3, eg3, hf⟩ := hf
    refine gp_Model_thrown hX zq_493 q1494 dX12_throwsIf_6 (zW.eqg eg3 ?_)
    refine z_iload_n hX dX12_throwsIf_9 1 rfl ?_
    replace hf := zbo_some hf
    obtain ⟨h4, hf⟩ := hf
    obtain rfl := Option.some.inj hf
    exact z_iret hX hr (zbn h4) (zl rfl) (zl rfl) dX12_throwsIf_10
set_option maxHeartbeats 4000000 in
set_option maxRecDepth 100000 in
theorem ct_X12_throwsIf {E : zE} {v1 : Int32} {v2 : Int32} {g : zM} {r : Int32 × zM} (hf : fX12_throwsIf v1 v2 g = some r) : zCt yX12_throwsIf cX12_throwsIf 3 (some .boolean) 0 0 E [.ref (E.1 + 493), .int v1, .int v2] g (.inl (some (.int r.1), r.2)) := by
  refine zmet (by decide) (zl rfl) (fun X hE hX hT hR hr hn => ?_)
  subst hE
  exact fX12_throwsIf_ok hX hT hR hr hn  hf
def fX12_in (v0 : Int32) (v1 : Int32) (v2 : Int32) (g : zM) : Option Int32 := if v0 < v1 then some 0 else if v2 < v0 then some 0 else some 1
set_option maxHeartbeats 4000000 in
set_option maxRecDepth 100000 in
theorem fX12_in_ok {X : zX} (hX : zCX X cX12_in RX12) (hT : zNT X) (hR : X.2.2.2.1 = zrm 0 0) (hr : X.2.2.2.2.2.2.2.2.1.sig.returnType = (some .boolean)) (hn : X.2.2.2.2.2.2.2.2.2.1.maxLocals = 3) {v0 : Int32} {v1 : Int32} {v2 : Int32} {g : zM} {r : Int32} (hf : fX12_in v0 v1 v2 g = some r) : zW X (zQ X (.inl (some (.int r), g)) 0) 0 0 0 [(0, .int v0), (1, .int v1), (2, .int v2)] [] g := by
  unfold fX12_in at hf
  refine z_iload_n hX dX12_in_0 0 rfl ?_
  refine z_iload_n hX dX12_in_1 1 rfl ?_
  refine z_icmp_lt hX 14 dX12_in_2 (by decide) (fun h1 => ?_) (fun h1 => ?_)
  · replace hf := zif_pos h1 hf
    refine z_iconst hX dX12_in_14 ci_0 ?_
    obtain rfl := Option.some.inj hf
    exact z_iret hX hr (zbn (Or.inl rfl)) (zl rfl) (zl rfl) dX12_in_15
  · replace hf := zif_neg h1 hf
    refine z_iload_n hX dX12_in_5 0 rfl ?_
    refine z_iload_n hX dX12_in_6 2 rfl ?_
    refine z_icmp_gt hX 14 dX12_in_7 (by decide) (fun h2 => ?_) (fun h2 => ?_)
    · replace hf := zif_pos h2 hf
      refine z_iconst hX dX12_in_14 ci_0 ?_
      obtain rfl := Option.some.inj hf
      exact z_iret hX hr (zbn (Or.inl rfl)) (zl rfl) (zl rfl) dX12_in_15
    · replace hf := zif_neg h2 hf
      refine z_iconst hX dX12_in_10 ci_1 ?_
      refine z_goto hX 15 dX12_in_11 (by decide) ?_
      obtain rfl := Option.some.inj hf
      exact z_iret hX hr (zbn (Or.inr rfl)) (zl rfl) (zl rfl) dX12_in_15
set_option maxHeartbeats 4000000 in
set_option maxRecDepth 100000 in
theorem ct_X12_in {E : zE} {v0 : Int32} {v1 : Int32} {v2 : Int32} {g : zM} {r : Int32} (hf : fX12_in v0 v1 v2 g = some r) : zCt yX12_in cX12_in 3 (some .boolean) 0 0 E [.int v0, .int v1, .int v2] g (.inl (some (.int r), g)) := by
  refine zmet (by decide) (zl rfl) (fun X hE hX hT hR hr hn => ?_)
  subst hE
  exact fX12_in_ok hX hT hR hr hn  hf
def fX12_hasBit (v0 : Int32) (v1 : Int32) (g : zM) : Option Int32 := if ((v0 >>> (v1 &&& 31)) &&& 1) = 1 then some 1 else some 0
set_option maxHeartbeats 4000000 in
set_option maxRecDepth 100000 in
theorem fX12_hasBit_ok {X : zX} (hX : zCX X cX12_hasBit RX12) (hT : zNT X) (hR : X.2.2.2.1 = zrm 0 0) (hr : X.2.2.2.2.2.2.2.2.1.sig.returnType = (some .boolean)) (hn : X.2.2.2.2.2.2.2.2.2.1.maxLocals = 2) {v0 : Int32} {v1 : Int32} {g : zM} {r : Int32} (hf : fX12_hasBit v0 v1 g = some r) : zW X (zQ X (.inl (some (.int r), g)) 0) 0 0 0 [(0, .int v0), (1, .int v1)] [] g := by
  unfold fX12_hasBit at hf
  refine z_iload_n hX dX12_hasBit_0 0 rfl ?_
  refine z_iload_n hX dX12_hasBit_1 1 rfl ?_
  refine z_ishr hX dX12_hasBit_2 ?_
  refine z_iconst hX dX12_hasBit_3 ci_1 ?_
  refine z_iand hX dX12_hasBit_4 ?_
  refine z_iconst hX dX12_hasBit_5 ci_1 ?_
  refine z_icmp_ne hX 13 dX12_hasBit_6 (by decide) (fun h1 => ?_) (fun h1 => ?_)
  · replace hf := zif_neg h1 hf
    refine z_iconst hX dX12_hasBit_13 ci_0 ?_
    obtain rfl := Option.some.inj hf
    exact z_iret hX hr (zbn (Or.inl rfl)) (zl rfl) (zl rfl) dX12_hasBit_14
  · replace hf := zif_pos h1 hf
    refine z_iconst hX dX12_hasBit_9 ci_1 ?_
    refine z_goto hX 14 dX12_hasBit_10 (by decide) ?_
    obtain rfl := Option.some.inj hf
    exact z_iret hX hr (zbn (Or.inr rfl)) (zl rfl) (zl rfl) dX12_hasBit_14
set_option maxHeartbeats 4000000 in
set_option maxRecDepth 100000 in
theorem ct_X12_hasBit {E : zE} {v0 : Int32} {v1 : Int32} {g : zM} {r : Int32} (hf : fX12_hasBit v0 v1 g = some r) : zCt yX12_hasBit cX12_hasBit 2 (some .boolean) 0 0 E [.int v0, .int v1] g (.inl (some (.int r), g)) := by
  refine zmet (by decide) (zl rfl) (fun X hE hX hT hR hr hn => ?_)
  subst hE
  exact fX12_hasBit_ok hX hT hR hr hn  hf
def fX12_image_L7 (k32 : zM → Option zM) : Nat → Int32 → zM → Option zM
  | 0, _, _ => none
  | n + 1, v1, g => if 1309 ≤ v1 then k32 g else zchk v1 2158 (zchk v1 1309 (zput g 495 v1.toNatClampNeg (g 494 v1.toNatClampNeg) (fun g5 => fX12_image_L7 k32 n (v1 + 1) g5)))
def fX12_image (g : zM) : Option zM := zput g 493 0 0 (fun g1 => fX12_image_L7 (fun g6 => zput g6 493 6 1 (fun g7 => some g7)) zFU 0 g1)
set_option maxHeartbeats 4000000 in
set_option maxRecDepth 100000 in
theorem fX12_image_L7_ok {X : zX} (hX : zCX X cX12_image RX12) (hT : zNT X) (hR : X.2.2.2.1 = zrm 0 0) (hr : X.2.2.2.2.2.2.2.2.1.sig.returnType = none) (hn : X.2.2.2.2.2.2.2.2.2.1.maxLocals = 2) {k32 : zM → Option zM} {r : zM} (hk32 : ∀ (g : zM), k32 g = some r → zW X (zQ X (.inl (none, r)) 0) 0 0 32 [(0, .ref (zB X + 493))] [] g) : ∀ (n : Nat) (v1 : Int32) (g : zM), fX12_image_L7 k32 n v1 g = some r → zW X (zQ X (.inl (none, r)) 0) 0 0 7 [(0, .ref (zB X + 493)), (1, .int v1)] [] g := by
  intro n
  induction n with
  | zero => intro v1 g hf; exact zno hf
  | succ n ih =>
    intro v1 g hf
    rw [fX12_image_L7] at hf
    refine z_iload_n hX dX12_image_7 1 rfl ?_
    refine z_sipush hX dX12_image_8 cs_1309 ?_
    refine z_icmp_ge hX 32 dX12_image_11 (by decide) (fun h2 => ?_) (fun h2 => ?_)
    · replace hf := zif_pos h2 hf
      refine zW.sub [0] rfl ?_
      exact hk32 g hf
    · replace hf := zif_neg h2 hf
      refine z_aload_n hX dX12_image_14 0 rfl ?_
      refine gf_Model_image hX zq_493 q1496 dX12_image_15 ?_
      refine z_iload_n hX dX12_image_18 1 rfl ?_
      refine z_aload_n hX dX12_image_19 0 rfl ?_
      refine gf_Model_world hX zq_493 q1495 dX12_image_20 ?_
      refine z_iload_n hX dX12_image_23 1 rfl ?_
      replace hf := zchk_some hf
      obtain ⟨h3, hf⟩ := hf
      refine z_iald hX zq_494 (by decide) (zc_3158 _ _ _) h3 dX12_image_24 ?_
      replace hf := zchk_some hf
      obtain ⟨h4, hf⟩ := hf
      replace hf := zput_some hf
      obtain ⟨g5, eg5, hf⟩ := hf
      refine z_iast hX zq_495 (by decide) (zc_2309 _ _) h4 dX12_image_25 (zW.eqg eg5 ?_)
      refine z_iincc (lv' := [(1, .int (v1 + 1)), (0, .ref (zB X + 493))]) hX dX12_image_26 hn (by decide) 1 rfl ci_1 rfl ?_
      refine z_goto hX 7 dX12_image_29 (by decide) ?_
      refine zW.sub [1, 0] rfl ?_
      exact ih (v1 + 1) g5 hf
set_option maxHeartbeats 4000000 in
set_option maxRecDepth 100000 in
theorem fX12_image_ok {X : zX} (hX : zCX X cX12_image RX12) (hT : zNT X) (hR : X.2.2.2.1 = zrm 0 0) (hr : X.2.2.2.2.2.2.2.2.1.sig.returnType = none) (hn : X.2.2.2.2.2.2.2.2.2.1.maxLocals = 2)  {g : zM} {r : zM} (hf : fX12_image g = some r) : zW X (zQ X (.inl (none, r)) 0) 0 0 0 [(0, .ref (zB X + 493))] [] g := by
  unfold fX12_image at hf
  refine z_aload_n hX dX12_image_0 0 rfl ?_
  refine z_iconst hX dX12_image_1 ci_0 ?_
  replace hf := zput_some hf
  obtain ⟨g1, eg1, hf⟩ := hf
  refine gp_Model_thrown hX zq_493 q1494 dX12_image_2 (zW.eqg eg1 ?_)
  refine z_iconst hX dX12_image_5 ci_0 ?_
  refine z_istore_n (lv' := [(1, .int 0), (0, .ref (zB X + 493))]) hX dX12_image_6 hn (by decide) rfl ?_
  refine zW.sub [1, 0] rfl ?_
  refine fX12_image_L7_ok hX hT hR hr hn (fun g6 hf => ?_) zFU 0 g1 hf
  · refine z_aload_n hX dX12_image_32 0 rfl ?_
    refine z_iconst hX dX12_image_33 ci_1 ?_
    replace hf := zput_some hf
    obtain ⟨g7, eg7, hf⟩ := hf
    refine gp_Model_hasImage hX zq_493 q1500 (Or.inr rfl) dX12_image_34 (zW.eqg eg7 ?_)
    obtain rfl := Option.some.inj hf
    exact z_vret hX hr (zl rfl) (zl rfl) dX12_image_37
set_option maxHeartbeats 4000000 in
set_option maxRecDepth 100000 in
theorem ct_X12_image {E : zE} {g : zM} {r : zM} (hf : fX12_image g = some r) : zCt yX12_image cX12_image 2 none 0 0 E [.ref (E.1 + 493)] g (.inl (none, r)) := by
  refine zmet (by decide) (zl rfl) (fun X hE hX hT hR hr hn => ?_)
  subst hE
  exact fX12_image_ok hX hT hR hr hn  hf
def fX12_back_L16 (k41 : zM → Option (Int32 × zM)) : Nat → Int32 → zM → Option (Int32 × zM)
  | 0, _, _ => none
  | n + 1, v1, g => if 1309 ≤ v1 then k41 g else zchk v1 1309 (zchk v1 2158 (zput g 494 v1.toNatClampNeg (g 495 v1.toNatClampNeg) (fun g6 => fX12_back_L16 k41 n (v1 + 1) g6)))
def fX12_back (g : zM) : Option (Int32 × zM) := zput g 493 0 0 (fun g1 => if (g1 493 6) = 0 then some (0, g1) else fX12_back_L16 (fun g7 => zput g7 493 7 0 (fun g8 => some (1, g8))) zFU 0 g1)
set_option maxHeartbeats 4000000 in
set_option maxRecDepth 100000 in
theorem fX12_back_L16_ok {X : zX} (hX : zCX X cX12_back RX12) (hT : zNT X) (hR : X.2.2.2.1 = zrm 0 0) (hr : X.2.2.2.2.2.2.2.2.1.sig.returnType = (some .boolean)) (hn : X.2.2.2.2.2.2.2.2.2.1.maxLocals = 2) {k41 : zM → Option (Int32 × zM)} {r : Int32 × zM} (hk41 : ∀ (g : zM), k41 g = some r → zW X (zQ X (.inl (some (.int r.1), r.2)) 0) 0 0 41 [(0, .ref (zB X + 493))] [] g) : ∀ (n : Nat) (v1 : Int32) (g : zM), fX12_back_L16 k41 n v1 g = some r → zW X (zQ X (.inl (some (.int r.1), r.2)) 0) 0 0 16 [(0, .ref (zB X + 493)), (1, .int v1)] [] g := by
  intro n
  induction n with
  | zero => intro v1 g hf; exact zno hf
  | succ n ih =>
    intro v1 g hf
    rw [fX12_back_L16] at hf
    refine z_iload_n hX dX12_back_16 1 rfl ?_
    refine z_sipush hX dX12_back_17 cs_1309 ?_
    refine z_icmp_ge hX 41 dX12_back_20 (by decide) (fun h3 => ?_) (fun h3 => ?_)
    · replace hf := zif_pos h3 hf
      refine zW.sub [0] rfl ?_
      exact hk41 g hf
    · replace hf := zif_neg h3 hf
      refine z_aload_n hX dX12_back_23 0 rfl ?_
      refine gf_Model_world hX zq_493 q1495 dX12_back_24 ?_
      refine z_iload_n hX dX12_back_27 1 rfl ?_
      refine z_aload_n hX dX12_back_28 0 rfl ?_
      refine gf_Model_image hX zq_493 q1496 dX12_back_29 ?_
      refine z_iload_n hX dX12_back_32 1 rfl ?_
      replace hf := zchk_some hf
      obtain ⟨h4, hf⟩ := hf
      refine z_iald hX zq_495 (by decide) (zc_2309 _ _ _) h4 dX12_back_33 ?_
      replace hf := zchk_some hf
      obtain ⟨h5, hf⟩ := hf
      replace hf := zput_some hf
      obtain ⟨g6, eg6, hf⟩ := hf
      refine z_iast hX zq_494 (by decide) (zc_3158 _ _) h5 dX12_back_34 (zW.eqg eg6 ?_)
      refine z_iincc (lv' := [(1, .int (v1 + 1)), (0, .ref (zB X + 493))]) hX dX12_back_35 hn (by decide) 1 rfl ci_1 rfl ?_
      refine z_goto hX 16 dX12_back_38 (by decide) ?_
      refine zW.sub [1, 0] rfl ?_
      exact ih (v1 + 1) g6 hf
set_option maxHeartbeats 4000000 in
set_option maxRecDepth 100000 in
theorem fX12_back_ok {X : zX} (hX : zCX X cX12_back RX12) (hT : zNT X) (hR : X.2.2.2.1 = zrm 0 0) (hr : X.2.2.2.2.2.2.2.2.1.sig.returnType = (some .boolean)) (hn : X.2.2.2.2.2.2.2.2.2.1.maxLocals = 2)  {g : zM} {r : Int32 × zM} (hf : fX12_back g = some r) : zW X (zQ X (.inl (some (.int r.1), r.2)) 0) 0 0 0 [(0, .ref (zB X + 493))] [] g := by
  unfold fX12_back at hf
  refine z_aload_n hX dX12_back_0 0 rfl ?_
  refine z_iconst hX dX12_back_1 ci_0 ?_
  replace hf := zput_some hf
  obtain ⟨g1, eg1, hf⟩ := hf
  refine gp_Model_thrown hX zq_493 q1494 dX12_back_2 (zW.eqg eg1 ?_)
  refine z_aload_n hX dX12_back_5 0 rfl ?_
  refine gf_Model_hasImage hX zq_493 q1500 dX12_back_6 ?_
  refine z_if_ne hX 14 dX12_back_9 (by decide) (fun h2 => ?_) (fun h2 => ?_)
  · replace hf := zif_neg h2 hf
    refine z_iconst hX dX12_back_14 ci_0 ?_
    refine z_istore_n (lv' := [(1, .int 0), (0, .ref (zB X + 493))]) hX dX12_back_15 hn (by decide) rfl ?_
    refine zW.sub [1, 0] rfl ?_
    refine fX12_back_L16_ok hX hT hR hr hn (fun g7 hf => ?_) zFU 0 g1 hf
    · refine z_aload_n hX dX12_back_41 0 rfl ?_
      refine z_iconst hX dX12_back_42 ci_0 ?_
      replace hf := zput_some hf
      obtain ⟨g8, eg8, hf⟩ := hf
      refine gp_Model_remembered hX zq_493 q1501 dX12_back_43 (zW.eqg eg8 ?_)
      refine z_iconst hX dX12_back_46 ci_1 ?_
      obtain rfl := Option.some.inj hf
      exact z_iret hX hr (zbn (Or.inr rfl)) (zl rfl) (zl rfl) dX12_back_47
  · replace hf := zif_pos h2 hf
    refine z_iconst hX dX12_back_12 ci_0 ?_
    obtain rfl := Option.some.inj hf
    exact z_iret hX hr (zbn (Or.inl rfl)) (zl rfl) (zl rfl) dX12_back_13
set_option maxHeartbeats 4000000 in
set_option maxRecDepth 100000 in
theorem ct_X12_back {E : zE} {g : zM} {r : Int32 × zM} (hf : fX12_back g = some r) : zCt yX12_back cX12_back 2 (some .boolean) 0 0 E [.ref (E.1 + 493)] g (.inl (some (.int r.1), r.2)) := by
  refine zmet (by decide) (zl rfl) (fun X hE hX hT hR hr hn => ?_)
  subst hE
  exact fX12_back_ok hX hT hR hr hn  hf
def fX12_remembers_L55  : Nat → Int32 → zM → Option zM
  | 0, _, _ => none
  | n + 1, v1, g => if 460 ≤ v1 then some g else zchk v1 2158 (zchk ((460 * ((g 493 7) - 1)) + v1) 5520 (zput g 498 ((460 * ((g 493 7) - 1)) + v1).toNatClampNeg (g 494 v1.toNatClampNeg) (fun g6 => fX12_remembers_L55 n (v1 + 1) g6)))
def fX12_remembers_L11 (k40 : zM → Option zM) : Nat → Int32 → zM → Option zM
  | 0, _, _ => none
  | n + 1, v1, g => if 5060 ≤ v1 then k40 g else zchk (v1 + 460) 5520 (zchk v1 5520 (zput g 498 v1.toNatClampNeg (g 498 (v1 + 460).toNatClampNeg) (fun g10 => fX12_remembers_L11 k40 n (v1 + 1) g10)))
def fX12_remembers (g : zM) : Option zM := if (g 493 7) = 12 then fX12_remembers_L11 (fun g11 => fX12_remembers_L55 zFU 0 g11) zFU 0 g else zput g 493 7 ((g 493 7) + 1) (fun g2 => fX12_remembers_L55 zFU 0 g2)
set_option maxHeartbeats 4000000 in
set_option maxRecDepth 100000 in
theorem fX12_remembers_L55_ok {X : zX} (hX : zCX X cX12_remembers RX12) (hT : zNT X) (hR : X.2.2.2.1 = zrm 0 0) (hr : X.2.2.2.2.2.2.2.2.1.sig.returnType = none) (hn : X.2.2.2.2.2.2.2.2.2.1.maxLocals = 2)  {r : zM}  : ∀ (n : Nat) (v1 : Int32) (g : zM), fX12_remembers_L55 n v1 g = some r → zW X (zQ X (.inl (none, r)) 0) 0 0 55 [(0, .ref (zB X + 493)), (1, .int v1)] [] g := by
  intro n
  induction n with
  | zero => intro v1 g hf; exact zno hf
  | succ n ih =>
    intro v1 g hf
    rw [fX12_remembers_L55] at hf
    refine z_iload_n hX dX12_remembers_55 1 rfl ?_
    refine z_sipush hX dX12_remembers_56 cs_460 ?_
    refine z_icmp_ge hX 91 dX12_remembers_59 (by decide) (fun h3 => ?_) (fun h3 => ?_)
    · replace hf := zif_pos h3 hf
      obtain rfl := Option.some.inj hf
      exact z_vret hX hr (zl rfl) (zl rfl) dX12_remembers_91
    · replace hf := zif_neg h3 hf
      refine z_aload_n hX dX12_remembers_62 0 rfl ?_
      refine gf_Model_acts hX zq_493 q1499 dX12_remembers_63 ?_
      refine z_sipush hX dX12_remembers_66 cs_460 ?_
      refine z_aload_n hX dX12_remembers_69 0 rfl ?_
      refine gf_Model_remembered hX zq_493 q1501 dX12_remembers_70 ?_
      refine z_iconst hX dX12_remembers_73 ci_1 ?_
      refine z_isub hX dX12_remembers_74 ?_
      refine z_imul hX dX12_remembers_75 ?_
      refine z_iload_n hX dX12_remembers_76 1 rfl ?_
      refine z_iadd hX dX12_remembers_77 ?_
      refine z_aload_n hX dX12_remembers_78 0 rfl ?_
      refine gf_Model_world hX zq_493 q1495 dX12_remembers_79 ?_
      refine z_iload_n hX dX12_remembers_82 1 rfl ?_
      replace hf := zchk_some hf
      obtain ⟨h4, hf⟩ := hf
      refine z_iald hX zq_494 (by decide) (zc_3158 _ _ _) h4 dX12_remembers_83 ?_
      replace hf := zchk_some hf
      obtain ⟨h5, hf⟩ := hf
      replace hf := zput_some hf
      obtain ⟨g6, eg6, hf⟩ := hf
      refine z_iast hX zq_498 (by decide) (zc_6520 _ _) h5 dX12_remembers_84 (zW.eqg eg6 ?_)
      refine z_iincc (lv' := [(1, .int (v1 + 1)), (0, .ref (zB X + 493))]) hX dX12_remembers_85 hn (by decide) 1 rfl ci_1 rfl ?_
      refine z_goto hX 55 dX12_remembers_88 (by decide) ?_
      refine zW.sub [1, 0] rfl ?_
      exact ih (v1 + 1) g6 hf
set_option maxHeartbeats 4000000 in
set_option maxRecDepth 100000 in
theorem fX12_remembers_L11_ok {X : zX} (hX : zCX X cX12_remembers RX12) (hT : zNT X) (hR : X.2.2.2.1 = zrm 0 0) (hr : X.2.2.2.2.2.2.2.2.1.sig.returnType = none) (hn : X.2.2.2.2.2.2.2.2.2.1.maxLocals = 2) {k40 : zM → Option zM} {r : zM} (hk40 : ∀ (g : zM), k40 g = some r → zW X (zQ X (.inl (none, r)) 0) 0 0 40 [(0, .ref (zB X + 493))] [] g) : ∀ (n : Nat) (v1 : Int32) (g : zM), fX12_remembers_L11 k40 n v1 g = some r → zW X (zQ X (.inl (none, r)) 0) 0 0 11 [(0, .ref (zB X + 493)), (1, .int v1)] [] g := by
  intro n
  induction n with
  | zero => intro v1 g hf; exact zno hf
  | succ n ih =>
    intro v1 g hf
    rw [fX12_remembers_L11] at hf
    refine z_iload_n hX dX12_remembers_11 1 rfl ?_
    refine z_sipush hX dX12_remembers_12 cs_5060 ?_
    refine z_icmp_ge hX 40 dX12_remembers_15 (by decide) (fun h7 => ?_) (fun h7 => ?_)
    · replace hf := zif_pos h7 hf
      refine zW.sub [0] rfl ?_
      exact hk40 g hf
    · replace hf := zif_neg h7 hf
      refine z_aload_n hX dX12_remembers_18 0 rfl ?_
      refine gf_Model_acts hX zq_493 q1499 dX12_remembers_19 ?_
      refine z_iload_n hX dX12_remembers_22 1 rfl ?_
      refine z_aload_n hX dX12_remembers_23 0 rfl ?_
      refine gf_Model_acts hX zq_493 q1499 dX12_remembers_24 ?_
      refine z_iload_n hX dX12_remembers_27 1 rfl ?_
      refine z_sipush hX dX12_remembers_28 cs_460 ?_
      refine z_iadd hX dX12_remembers_31 ?_
      replace hf := zchk_some hf
      obtain ⟨h8, hf⟩ := hf
      refine z_iald hX zq_498 (by decide) (zc_6520 _ _ _) h8 dX12_remembers_32 ?_
      replace hf := zchk_some hf
      obtain ⟨h9, hf⟩ := hf
      replace hf := zput_some hf
      obtain ⟨g10, eg10, hf⟩ := hf
      refine z_iast hX zq_498 (by decide) (zc_6520 _ _) h9 dX12_remembers_33 (zW.eqg eg10 ?_)
      refine z_iincc (lv' := [(1, .int (v1 + 1)), (0, .ref (zB X + 493))]) hX dX12_remembers_34 hn (by decide) 1 rfl ci_1 rfl ?_
      refine z_goto hX 11 dX12_remembers_37 (by decide) ?_
      refine zW.sub [1, 0] rfl ?_
      exact ih (v1 + 1) g10 hf
set_option maxHeartbeats 4000000 in
set_option maxRecDepth 100000 in
theorem fX12_remembers_ok {X : zX} (hX : zCX X cX12_remembers RX12) (hT : zNT X) (hR : X.2.2.2.1 = zrm 0 0) (hr : X.2.2.2.2.2.2.2.2.1.sig.returnType = none) (hn : X.2.2.2.2.2.2.2.2.2.1.maxLocals = 2)  {g : zM} {r : zM} (hf : fX12_remembers g = some r) : zW X (zQ X (.inl (none, r)) 0) 0 0 0 [(0, .ref (zB X + 493))] [] g := by
  unfold fX12_remembers at hf
  refine z_aload_n hX dX12_remembers_0 0 rfl ?_
  refine gf_Model_remembered hX zq_493 q1501 dX12_remembers_1 ?_
  refine z_bipush hX dX12_remembers_4 cb_12 ?_
  refine z_icmp_ne hX 43 dX12_remembers_6 (by decide) (fun h1 => ?_) (fun h1 => ?_)
  · replace hf := zif_neg h1 hf
    refine z_aload_n hX dX12_remembers_43 0 rfl ?_
    refine z_dup hX dX12_remembers_44 rfl ?_
    refine gf_Model_remembered hX zq_493 q1501 dX12_remembers_45 ?_
    refine z_iconst hX dX12_remembers_48 ci_1 ?_
    refine z_iadd hX dX12_remembers_49 ?_
    replace hf := zput_some hf
    obtain ⟨g2, eg2, hf⟩ := hf
    refine gp_Model_remembered hX zq_493 q1501 dX12_remembers_50 (zW.eqg eg2 ?_)
    refine z_iconst hX dX12_remembers_53 ci_0 ?_
    refine z_istore_n (lv' := [(1, .int 0), (0, .ref (zB X + 493))]) hX dX12_remembers_54 hn (by decide) rfl ?_
    refine zW.sub [1, 0] rfl ?_
    exact fX12_remembers_L55_ok hX hT hR hr hn  zFU 0 g2 hf
  · replace hf := zif_pos h1 hf
    refine z_iconst hX dX12_remembers_9 ci_0 ?_
    refine z_istore_n (lv' := [(1, .int 0), (0, .ref (zB X + 493))]) hX dX12_remembers_10 hn (by decide) rfl ?_
    refine zW.sub [1, 0] rfl ?_
    refine fX12_remembers_L11_ok hX hT hR hr hn (fun g11 hf => ?_) zFU 0 g hf
    · refine z_goto hX 53 dX12_remembers_40 (by decide) ?_
      refine z_iconst hX dX12_remembers_53 ci_0 ?_
      refine z_istore_n (lv' := [(1, .int 0), (0, .ref (zB X + 493))]) hX dX12_remembers_54 hn (by decide) rfl ?_
      refine zW.sub [1, 0] rfl ?_
      exact fX12_remembers_L55_ok hX hT hR hr hn  zFU 0 g11 hf
set_option maxHeartbeats 4000000 in
set_option maxRecDepth 100000 in
theorem ct_X12_remembers {E : zE} {g : zM} {r : zM} (hf : fX12_remembers g = some r) : zCt yX12_remembers cX12_remembers 2 none 0 0 E [.ref (E.1 + 493)] g (.inl (none, r)) := by
  refine zmet (by decide) (zl rfl) (fun X hE hX hT hR hr hn => ?_)
  subst hE
  exact fX12_remembers_ok hX hT hR hr hn  hf
def fX12_undo_L26  : Nat → Int32 → zM → Option (Int32 × zM)
  | 0, _, _ => none
  | n + 1, v1, g => if 460 ≤ v1 then some (1, g) else zchk ((460 * (g 493 7)) + v1) 5520 (zchk v1 2158 (zput g 494 v1.toNatClampNeg (g 498 ((460 * (g 493 7)) + v1).toNatClampNeg) (fun g7 => fX12_undo_L26 n (v1 + 1) g7)))
def fX12_undo (g : zM) : Option (Int32 × zM) := zput g 493 0 0 (fun g1 => if (g1 493 7) = 0 then some (0, g1) else zput g1 493 7 ((g1 493 7) - 1) (fun g3 => fX12_undo_L26 zFU 0 g3))
set_option maxHeartbeats 4000000 in
set_option maxRecDepth 100000 in
theorem fX12_undo_L26_ok {X : zX} (hX : zCX X cX12_undo RX12) (hT : zNT X) (hR : X.2.2.2.1 = zrm 0 0) (hr : X.2.2.2.2.2.2.2.2.1.sig.returnType = (some .boolean)) (hn : X.2.2.2.2.2.2.2.2.2.1.maxLocals = 2)  {r : Int32 × zM}  : ∀ (n : Nat) (v1 : Int32) (g : zM), fX12_undo_L26 n v1 g = some r → zW X (zQ X (.inl (some (.int r.1), r.2)) 0) 0 0 26 [(0, .ref (zB X + 493)), (1, .int v1)] [] g := by
  intro n
  induction n with
  | zero => intro v1 g hf; exact zno hf
  | succ n ih =>
    intro v1 g hf
    rw [fX12_undo_L26] at hf
    refine z_iload_n hX dX12_undo_26 1 rfl ?_
    refine z_sipush hX dX12_undo_27 cs_460 ?_
    refine z_icmp_ge hX 60 dX12_undo_30 (by decide) (fun h4 => ?_) (fun h4 => ?_)
    · replace hf := zif_pos h4 hf
      refine z_iconst hX dX12_undo_60 ci_1 ?_
      obtain rfl := Option.some.inj hf
      exact z_iret hX hr (zbn (Or.inr rfl)) (zl rfl) (zl rfl) dX12_undo_61
    · replace hf := zif_neg h4 hf
      refine z_aload_n hX dX12_undo_33 0 rfl ?_
      refine gf_Model_world hX zq_493 q1495 dX12_undo_34 ?_
      refine z_iload_n hX dX12_undo_37 1 rfl ?_
      refine z_aload_n hX dX12_undo_38 0 rfl ?_
      refine gf_Model_acts hX zq_493 q1499 dX12_undo_39 ?_
      refine z_sipush hX dX12_undo_42 cs_460 ?_
      refine z_aload_n hX dX12_undo_45 0 rfl ?_
      refine gf_Model_remembered hX zq_493 q1501 dX12_undo_46 ?_
      refine z_imul hX dX12_undo_49 ?_
      refine z_iload_n hX dX12_undo_50 1 rfl ?_
      refine z_iadd hX dX12_undo_51 ?_
      replace hf := zchk_some hf
      obtain ⟨h5, hf⟩ := hf
      refine z_iald hX zq_498 (by decide) (zc_6520 _ _ _) h5 dX12_undo_52 ?_
      replace hf := zchk_some hf
      obtain ⟨h6, hf⟩ := hf
      replace hf := zput_some hf
      obtain ⟨g7, eg7, hf⟩ := hf
      refine z_iast hX zq_494 (by decide) (zc_3158 _ _) h6 dX12_undo_53 (zW.eqg eg7 ?_)
      refine z_iincc (lv' := [(1, .int (v1 + 1)), (0, .ref (zB X + 493))]) hX dX12_undo_54 hn (by decide) 1 rfl ci_1 rfl ?_
      refine z_goto hX 26 dX12_undo_57 (by decide) ?_
      refine zW.sub [1, 0] rfl ?_
      exact ih (v1 + 1) g7 hf
set_option maxHeartbeats 4000000 in
set_option maxRecDepth 100000 in
theorem fX12_undo_ok {X : zX} (hX : zCX X cX12_undo RX12) (hT : zNT X) (hR : X.2.2.2.1 = zrm 0 0) (hr : X.2.2.2.2.2.2.2.2.1.sig.returnType = (some .boolean)) (hn : X.2.2.2.2.2.2.2.2.2.1.maxLocals = 2)  {g : zM} {r : Int32 × zM} (hf : fX12_undo g = some r) : zW X (zQ X (.inl (some (.int r.1), r.2)) 0) 0 0 0 [(0, .ref (zB X + 493))] [] g := by
  unfold fX12_undo at hf
  refine z_aload_n hX dX12_undo_0 0 rfl ?_
  refine z_iconst hX dX12_undo_1 ci_0 ?_
  replace hf := zput_some hf
  obtain ⟨g1, eg1, hf⟩ := hf
  refine gp_Model_thrown hX zq_493 q1494 dX12_undo_2 (zW.eqg eg1 ?_)
  refine z_aload_n hX dX12_undo_5 0 rfl ?_
  refine gf_Model_remembered hX zq_493 q1501 dX12_undo_6 ?_
  refine z_if_ne hX 14 dX12_undo_9 (by decide) (fun h2 => ?_) (fun h2 => ?_)
  · replace hf := zif_neg h2 hf
    refine z_aload_n hX dX12_undo_14 0 rfl ?_
    refine z_dup hX dX12_undo_15 rfl ?_
    refine gf_Model_remembered hX zq_493 q1501 dX12_undo_16 ?_
    refine z_iconst hX dX12_undo_19 ci_1 ?_
    refine z_isub hX dX12_undo_20 ?_
    replace hf := zput_some hf
    obtain ⟨g3, eg3, hf⟩ := hf
    refine gp_Model_remembered hX zq_493 q1501 dX12_undo_21 (zW.eqg eg3 ?_)
    refine z_iconst hX dX12_undo_24 ci_0 ?_
    refine z_istore_n (lv' := [(1, .int 0), (0, .ref (zB X + 493))]) hX dX12_undo_25 hn (by decide) rfl ?_
    refine zW.sub [1, 0] rfl ?_
    exact fX12_undo_L26_ok hX hT hR hr hn  zFU 0 g3 hf
  · replace hf := zif_pos h2 hf
    refine z_iconst hX dX12_undo_12 ci_0 ?_
    obtain rfl := Option.some.inj hf
    exact z_iret hX hr (zbn (Or.inl rfl)) (zl rfl) (zl rfl) dX12_undo_13
set_option maxHeartbeats 4000000 in
set_option maxRecDepth 100000 in
theorem ct_X12_undo {E : zE} {g : zM} {r : Int32 × zM} (hf : fX12_undo g = some r) : zCt yX12_undo cX12_undo 2 (some .boolean) 0 0 E [.ref (E.1 + 493)] g (.inl (some (.int r.1), r.2)) := by
  refine zmet (by decide) (zl rfl) (fun X hE hX hT hR hr hn => ?_)
  subst hE
  exact fX12_undo_ok hX hT hR hr hn  hf
def fX12_letters (g : zM) : Option Int32 := zchk 0 2158 (some (g 494 (0 : Int32).toNatClampNeg))
set_option maxHeartbeats 4000000 in
set_option maxRecDepth 100000 in
theorem fX12_letters_ok {X : zX} (hX : zCX X cX12_letters RX12) (hT : zNT X) (hR : X.2.2.2.1 = zrm 0 0) (hr : X.2.2.2.2.2.2.2.2.1.sig.returnType = (some .int)) (hn : X.2.2.2.2.2.2.2.2.2.1.maxLocals = 1)  {g : zM} {r : Int32} (hf : fX12_letters g = some r) : zW X (zQ X (.inl (some (.int r), g)) 0) 0 0 0 [(0, .ref (zB X + 493))] [] g := by
  unfold fX12_letters at hf
  refine z_aload_n hX dX12_letters_0 0 rfl ?_
  refine gf_Model_world hX zq_493 q1495 dX12_letters_1 ?_
  refine z_iconst hX dX12_letters_4 ci_0 ?_
  replace hf := zchk_some hf
  obtain ⟨h1, hf⟩ := hf
  refine z_iald hX zq_494 (by decide) (zc_3158 _ _ _) h1 dX12_letters_5 ?_
  obtain rfl := Option.some.inj hf
  exact z_iret hX hr rfl (zl rfl) (zl rfl) dX12_letters_6
set_option maxHeartbeats 4000000 in
set_option maxRecDepth 100000 in
theorem ct_X12_letters {E : zE} {g : zM} {r : Int32} (hf : fX12_letters g = some r) : zCt yX12_letters cX12_letters 1 (some .int) 0 0 E [.ref (E.1 + 493)] g (.inl (some (.int r), g)) := by
  refine zmet (by decide) (zl rfl) (fun X hE hX hT hR hr hn => ?_)
  subst hE
  exact fX12_letters_ok hX hT hR hr hn  hf
def fX12_promises (g : zM) : Option Int32 := zchk 1 2158 (some (g 494 (1 : Int32).toNatClampNeg))
set_option maxHeartbeats 4000000 in
set_option maxRecDepth 100000 in
theorem fX12_promises_ok {X : zX} (hX : zCX X cX12_promises RX12) (hT : zNT X) (hR : X.2.2.2.1 = zrm 0 0) (hr : X.2.2.2.2.2.2.2.2.1.sig.returnType = (some .int)) (hn : X.2.2.2.2.2.2.2.2.2.1.maxLocals = 1)  {g : zM} {r : Int32} (hf : fX12_promises g = some r) : zW X (zQ X (.inl (some (.int r), g)) 0) 0 0 0 [(0, .ref (zB X + 493))] [] g := by
  unfold fX12_promises at hf
  refine z_aload_n hX dX12_promises_0 0 rfl ?_
  refine gf_Model_world hX zq_493 q1495 dX12_promises_1 ?_
  refine z_iconst hX dX12_promises_4 ci_1 ?_
  replace hf := zchk_some hf
  obtain ⟨h1, hf⟩ := hf
  refine z_iald hX zq_494 (by decide) (zc_3158 _ _ _) h1 dX12_promises_5 ?_
  obtain rfl := Option.some.inj hf
  exact z_iret hX hr rfl (zl rfl) (zl rfl) dX12_promises_6
set_option maxHeartbeats 4000000 in
set_option maxRecDepth 100000 in
theorem ct_X12_promises {E : zE} {g : zM} {r : Int32} (hf : fX12_promises g = some r) : zCt yX12_promises cX12_promises 1 (some .int) 0 0 E [.ref (E.1 + 493)] g (.inl (some (.int r), g)) := by
  refine zmet (by decide) (zl rfl) (fun X hE hX hT hR hr hn => ?_)
  subst hE
  exact fX12_promises_ok hX hT hR hr hn  hf
def fX12_at (v0 : Int32) (v1 : Int32) (g : zM) : Option Int32 := some ((36 + (53 * v0)) + v1)
set_option maxHeartbeats 4000000 in
set_option maxRecDepth 100000 in
theorem fX12_at_ok {X : zX} (hX : zCX X cX12_at RX12) (hT : zNT X) (hR : X.2.2.2.1 = zrm 0 0) (hr : X.2.2.2.2.2.2.2.2.1.sig.returnType = (some .int)) (hn : X.2.2.2.2.2.2.2.2.2.1.maxLocals = 2) {v0 : Int32} {v1 : Int32} {g : zM} {r : Int32} (hf : fX12_at v0 v1 g = some r) : zW X (zQ X (.inl (some (.int r), g)) 0) 0 0 0 [(0, .int v0), (1, .int v1)] [] g := by
  unfold fX12_at at hf
  refine z_bipush hX dX12_at_0 cb_36 ?_
  refine z_bipush hX dX12_at_2 cb_53 ?_
  refine z_iload_n hX dX12_at_4 0 rfl ?_
  refine z_imul hX dX12_at_5 ?_
  refine z_iadd hX dX12_at_6 ?_
  refine z_iload_n hX dX12_at_7 1 rfl ?_
  refine z_iadd hX dX12_at_8 ?_
  obtain rfl := Option.some.inj hf
  exact z_iret hX hr rfl (zl rfl) (zl rfl) dX12_at_9
set_option maxHeartbeats 4000000 in
set_option maxRecDepth 100000 in
theorem ct_X12_at {E : zE} {v0 : Int32} {v1 : Int32} {g : zM} {r : Int32} (hf : fX12_at v0 v1 g = some r) : zCt yX12_at cX12_at 2 (some .int) 0 0 E [.int v0, .int v1] g (.inl (some (.int r), g)) := by
  refine zmet (by decide) (zl rfl) (fun X hE hX hT hR hr hn => ?_)
  subst hE
  exact fX12_at_ok hX hT hR hr hn  hf
def fX12_of (v1 : Int32) (v2 : Int32) (g : zM) : Option Int32 := zb (fX12_at v1 v2 g) (fun r_1 => zchk r_1 2158 (some (g 494 r_1.toNatClampNeg)))
set_option maxHeartbeats 4000000 in
set_option maxRecDepth 100000 in
theorem fX12_of_ok {X : zX} (hX : zCX X cX12_of RX12) (hT : zNT X) (hR : X.2.2.2.1 = zrm 1 0) (hr : X.2.2.2.2.2.2.2.2.1.sig.returnType = (some .int)) (hn : X.2.2.2.2.2.2.2.2.2.1.maxLocals = 3) {v1 : Int32} {v2 : Int32} {g : zM} {r : Int32} (hf : fX12_of v1 v2 g = some r) : zW X (zQ X (.inl (some (.int r), g)) 0) 0 0 0 [(0, .ref (zB X + 493)), (1, .int v1), (2, .int v2)] [] g := by
  unfold fX12_of at hf
  refine z_aload_n hX dX12_of_0 0 rfl ?_
  refine gf_Model_world hX zq_493 q1495 dX12_of_1 ?_
  refine z_iload_n hX dX12_of_4 1 rfl ?_
  refine z_iload_n hX dX12_of_5 2 rfl ?_
  replace hf := zb_some hf
  obtain ⟨r_1, h1, hf⟩ := hf
  refine z_callS1 hX ok_X12_at rfl q1673 q1674 (zrm_ok hR (by decide)) (ct_X12_at  h1) dX12_of_6 rfl rfl ?_
  replace hf := zchk_some hf
  obtain ⟨h2, hf⟩ := hf
  refine z_iald hX zq_494 (by decide) (zc_3158 _ _ _) h2 dX12_of_9 ?_
  obtain rfl := Option.some.inj hf
  exact z_iret hX hr rfl (zl rfl) (zl rfl) dX12_of_10
set_option maxHeartbeats 4000000 in
set_option maxRecDepth 100000 in
theorem ct_X12_of {E : zE} {v1 : Int32} {v2 : Int32} {g : zM} {r : Int32} (hf : fX12_of v1 v2 g = some r) : zCt yX12_of cX12_of 3 (some .int) 1 0 E [.ref (E.1 + 493), .int v1, .int v2] g (.inl (some (.int r), g)) := by
  refine zmet (by decide) (zl rfl) (fun X hE hX hT hR hr hn => ?_)
  subst hE
  exact fX12_of_ok hX hT hR hr hn  hf
def fX12_lines (v1 : Int32) (g : zM) : Option Int32 := zb (fX12_of v1 0 g) (fun r_1 => some r_1)
set_option maxHeartbeats 4000000 in
set_option maxRecDepth 100000 in
theorem fX12_lines_ok {X : zX} (hX : zCX X cX12_lines RX12) (hT : zNT X) (hR : X.2.2.2.1 = zrm 2 0) (hr : X.2.2.2.2.2.2.2.2.1.sig.returnType = (some .int)) (hn : X.2.2.2.2.2.2.2.2.2.1.maxLocals = 2) {v1 : Int32} {g : zM} {r : Int32} (hf : fX12_lines v1 g = some r) : zW X (zQ X (.inl (some (.int r), g)) 0) 0 0 0 [(0, .ref (zB X + 493)), (1, .int v1)] [] g := by
  unfold fX12_lines at hf
  refine z_aload_n hX dX12_lines_0 0 rfl ?_
  refine z_iload_n hX dX12_lines_1 1 rfl ?_
  refine z_iconst hX dX12_lines_2 ci_0 ?_
  replace hf := zb_some hf
  obtain ⟨r_1, h1, hf⟩ := hf
  refine z_callV1 hX ok_X12_of q1687 q1689 q49 (zrm_ok hR (by decide)) (ct_X12_of  h1) (zrec_Model hX zq_493) dX12_lines_3 rfl rfl ?_
  obtain rfl := Option.some.inj hf
  exact z_iret hX hr rfl (zl rfl) (zl rfl) dX12_lines_6
set_option maxHeartbeats 4000000 in
set_option maxRecDepth 100000 in
theorem ct_X12_lines {E : zE} {v1 : Int32} {g : zM} {r : Int32} (hf : fX12_lines v1 g = some r) : zCt yX12_lines cX12_lines 2 (some .int) 2 0 E [.ref (E.1 + 493), .int v1] g (.inl (some (.int r), g)) := by
  refine zmet (by decide) (zl rfl) (fun X hE hX hT hR hr hn => ?_)
  subst hE
  exact fX12_lines_ok hX hT hR hr hn  hf
def fX12_kindOf (v1 : Int32) (v2 : Int32) (g : zM) : Option Int32 := zb (fX12_of v1 (5 + v2) g) (fun r_1 => some r_1)
set_option maxHeartbeats 4000000 in
set_option maxRecDepth 100000 in
theorem fX12_kindOf_ok {X : zX} (hX : zCX X cX12_kindOf RX12) (hT : zNT X) (hR : X.2.2.2.1 = zrm 2 0) (hr : X.2.2.2.2.2.2.2.2.1.sig.returnType = (some .int)) (hn : X.2.2.2.2.2.2.2.2.2.1.maxLocals = 3) {v1 : Int32} {v2 : Int32} {g : zM} {r : Int32} (hf : fX12_kindOf v1 v2 g = some r) : zW X (zQ X (.inl (some (.int r), g)) 0) 0 0 0 [(0, .ref (zB X + 493)), (1, .int v1), (2, .int v2)] [] g := by
  unfold fX12_kindOf at hf
  refine z_aload_n hX dX12_kindOf_0 0 rfl ?_
  refine z_iload_n hX dX12_kindOf_1 1 rfl ?_
  refine z_iconst hX dX12_kindOf_2 ci_5 ?_
  refine z_iload_n hX dX12_kindOf_3 2 rfl ?_
  refine z_iadd hX dX12_kindOf_4 ?_
  replace hf := zb_some hf
  obtain ⟨r_1, h1, hf⟩ := hf
  refine z_callV1 hX ok_X12_of q1687 q1689 q49 (zrm_ok hR (by decide)) (ct_X12_of  h1) (zrec_Model hX zq_493) dX12_kindOf_5 rfl rfl ?_
  obtain rfl := Option.some.inj hf
  exact z_iret hX hr rfl (zl rfl) (zl rfl) dX12_kindOf_8
set_option maxHeartbeats 4000000 in
set_option maxRecDepth 100000 in
theorem ct_X12_kindOf {E : zE} {v1 : Int32} {v2 : Int32} {g : zM} {r : Int32} (hf : fX12_kindOf v1 v2 g = some r) : zCt yX12_kindOf cX12_kindOf 3 (some .int) 2 0 E [.ref (E.1 + 493), .int v1, .int v2] g (.inl (some (.int r), g)) := by
  refine zmet (by decide) (zl rfl) (fun X hE hX hT hR hr hn => ?_)
  subst hE
  exact fX12_kindOf_ok hX hT hR hr hn  hf
def fX12_isOpen (v1 : Int32) (g : zM) : Option Int32 := zb (fX12_of v1 3 g) (fun r_1 => if r_1 = 1 then some 1 else some 0)
set_option maxHeartbeats 4000000 in
set_option maxRecDepth 100000 in
theorem fX12_isOpen_ok {X : zX} (hX : zCX X cX12_isOpen RX12) (hT : zNT X) (hR : X.2.2.2.1 = zrm 2 0) (hr : X.2.2.2.2.2.2.2.2.1.sig.returnType = (some .boolean)) (hn : X.2.2.2.2.2.2.2.2.2.1.maxLocals = 2) {v1 : Int32} {g : zM} {r : Int32} (hf : fX12_isOpen v1 g = some r) : zW X (zQ X (.inl (some (.int r), g)) 0) 0 0 0 [(0, .ref (zB X + 493)), (1, .int v1)] [] g := by
  unfold fX12_isOpen at hf
  refine z_aload_n hX dX12_isOpen_0 0 rfl ?_
  refine z_iload_n hX dX12_isOpen_1 1 rfl ?_
  refine z_iconst hX dX12_isOpen_2 ci_3 ?_
  replace hf := zb_some hf
  obtain ⟨r_1, h1, hf⟩ := hf
  refine z_callV1 hX ok_X12_of q1687 q1689 q49 (zrm_ok hR (by decide)) (ct_X12_of  h1) (zrec_Model hX zq_493) dX12_isOpen_3 rfl rfl ?_
  refine z_iconst hX dX12_isOpen_6 ci_1 ?_
  refine z_icmp_ne hX 14 dX12_isOpen_7 (by decide) (fun h2 => ?_) (fun h2 => ?_)
  · replace hf := zif_neg h2 hf
    refine z_iconst hX dX12_isOpen_14 ci_0 ?_
    obtain rfl := Option.some.inj hf
    exact z_iret hX hr (zbn (Or.inl rfl)) (zl rfl) (zl rfl) dX12_isOpen_15
  · replace hf := zif_pos h2 hf
    refine z_iconst hX dX12_isOpen_10 ci_1 ?_
    refine z_goto hX 15 dX12_isOpen_11 (by decide) ?_
    obtain rfl := Option.some.inj hf
    exact z_iret hX hr (zbn (Or.inr rfl)) (zl rfl) (zl rfl) dX12_isOpen_15
set_option maxHeartbeats 4000000 in
set_option maxRecDepth 100000 in
theorem ct_X12_isOpen {E : zE} {v1 : Int32} {g : zM} {r : Int32} (hf : fX12_isOpen v1 g = some r) : zCt yX12_isOpen cX12_isOpen 2 (some .boolean) 2 0 E [.ref (E.1 + 493), .int v1] g (.inl (some (.int r), g)) := by
  refine zmet (by decide) (zl rfl) (fun X hE hX hT hR hr hn => ?_)
  subst hE
  exact fX12_isOpen_ok hX hT hR hr hn  hf
def fX12_noLetter (v1 : Int32) (g : zM) : Option Int32 := zb (fX12_letters g) (fun r_1 => zb (fX12_in v1 0 (r_1 - 1) g) (fun r_2 => if r_2 = 0 then some 1 else some 0))
set_option maxHeartbeats 4000000 in
set_option maxRecDepth 100000 in
theorem fX12_noLetter_ok {X : zX} (hX : zCX X cX12_noLetter RX12) (hT : zNT X) (hR : X.2.2.2.1 = zrm 1 0) (hr : X.2.2.2.2.2.2.2.2.1.sig.returnType = (some .boolean)) (hn : X.2.2.2.2.2.2.2.2.2.1.maxLocals = 2) {v1 : Int32} {g : zM} {r : Int32} (hf : fX12_noLetter v1 g = some r) : zW X (zQ X (.inl (some (.int r), g)) 0) 0 0 0 [(0, .ref (zB X + 493)), (1, .int v1)] [] g := by
  unfold fX12_noLetter at hf
  refine z_iload_n hX dX12_noLetter_0 1 rfl ?_
  refine z_iconst hX dX12_noLetter_1 ci_0 ?_
  refine z_aload_n hX dX12_noLetter_2 0 rfl ?_
  replace hf := zb_some hf
  obtain ⟨r_1, h1, hf⟩ := hf
  refine z_callV1 hX ok_X12_letters q1652 q1654 q43 (zrm_ok hR (by decide)) (ct_X12_letters  h1) (zrec_Model hX zq_493) dX12_noLetter_3 rfl rfl ?_
  refine z_iconst hX dX12_noLetter_6 ci_1 ?_
  refine z_isub hX dX12_noLetter_7 ?_
  replace hf := zb_some hf
  obtain ⟨r_2, h2, hf⟩ := hf
  refine z_callS1 hX ok_X12_in rfl q1666 q1667 (zrm_ok hR (by decide)) (ct_X12_in  h2) dX12_noLetter_8 rfl rfl ?_
  refine z_if_ne hX 18 dX12_noLetter_11 (by decide) (fun h3 => ?_) (fun h3 => ?_)
  · replace hf := zif_neg h3 hf
    refine z_iconst hX dX12_noLetter_18 ci_0 ?_
    obtain rfl := Option.some.inj hf
    exact z_iret hX hr (zbn (Or.inl rfl)) (zl rfl) (zl rfl) dX12_noLetter_19
  · replace hf := zif_pos h3 hf
    refine z_iconst hX dX12_noLetter_14 ci_1 ?_
    refine z_goto hX 19 dX12_noLetter_15 (by decide) ?_
    obtain rfl := Option.some.inj hf
    exact z_iret hX hr (zbn (Or.inr rfl)) (zl rfl) (zl rfl) dX12_noLetter_19
set_option maxHeartbeats 4000000 in
set_option maxRecDepth 100000 in
theorem ct_X12_noLetter {E : zE} {v1 : Int32} {g : zM} {r : Int32} (hf : fX12_noLetter v1 g = some r) : zCt yX12_noLetter cX12_noLetter 2 (some .boolean) 1 0 E [.ref (E.1 + 493), .int v1] g (.inl (some (.int r), g)) := by
  refine zmet (by decide) (zl rfl) (fun X hE hX hT hR hr hn => ?_)
  subst hE
  exact fX12_noLetter_ok hX hT hR hr hn  hf
def fX12_noLine (v1 : Int32) (v2 : Int32) (g : zM) : Option Int32 := zb (fX12_noLetter v1 g) (fun r_1 => if r_1 = 0 then zb (fX12_lines v1 g) (fun r_3 => zb (fX12_in v2 0 (r_3 - 1) g) (fun r_4 => if r_4 = 0 then some 1 else some 0)) else some 1)
set_option maxHeartbeats 4000000 in
set_option maxRecDepth 100000 in
theorem fX12_noLine_ok {X : zX} (hX : zCX X cX12_noLine RX12) (hT : zNT X) (hR : X.2.2.2.1 = zrm 3 0) (hr : X.2.2.2.2.2.2.2.2.1.sig.returnType = (some .boolean)) (hn : X.2.2.2.2.2.2.2.2.2.1.maxLocals = 3) {v1 : Int32} {v2 : Int32} {g : zM} {r : Int32} (hf : fX12_noLine v1 v2 g = some r) : zW X (zQ X (.inl (some (.int r), g)) 0) 0 0 0 [(0, .ref (zB X + 493)), (1, .int v1), (2, .int v2)] [] g := by
  unfold fX12_noLine at hf
  refine z_aload_n hX dX12_noLine_0 0 rfl ?_
  refine z_iload_n hX dX12_noLine_1 1 rfl ?_
  replace hf := zb_some hf
  obtain ⟨r_1, h1, hf⟩ := hf
  refine z_callV1 hX ok_X12_noLetter q1787 q1789 q68 (zrm_ok hR (by decide)) (ct_X12_noLetter  h1) (zrec_Model hX zq_493) dX12_noLine_2 rfl rfl ?_
  refine z_if_ne hX 23 dX12_noLine_5 (by decide) (fun h2 => ?_) (fun h2 => ?_)
  · replace hf := zif_neg h2 hf
    refine z_iconst hX dX12_noLine_23 ci_1 ?_
    refine z_goto hX 28 dX12_noLine_24 (by decide) ?_
    obtain rfl := Option.some.inj hf
    exact z_iret hX hr (zbn (Or.inr rfl)) (zl rfl) (zl rfl) dX12_noLine_28
  · replace hf := zif_pos h2 hf
    refine z_iload_n hX dX12_noLine_8 2 rfl ?_
    refine z_iconst hX dX12_noLine_9 ci_0 ?_
    refine z_aload_n hX dX12_noLine_10 0 rfl ?_
    refine z_iload_n hX dX12_noLine_11 1 rfl ?_
    replace hf := zb_some hf
    obtain ⟨r_3, h3, hf⟩ := hf
    refine z_callV1 hX ok_X12_lines q1683 q1685 q48 (zrm_ok hR (by decide)) (ct_X12_lines  h3) (zrec_Model hX zq_493) dX12_noLine_12 rfl rfl ?_
    refine z_iconst hX dX12_noLine_15 ci_1 ?_
    refine z_isub hX dX12_noLine_16 ?_
    replace hf := zb_some hf
    obtain ⟨r_4, h4, hf⟩ := hf
    refine z_callS1 hX ok_X12_in rfl q1666 q1667 (zrm_ok hR (by decide)) (ct_X12_in  h4) dX12_noLine_17 rfl rfl ?_
    refine z_if_ne hX 27 dX12_noLine_20 (by decide) (fun h5 => ?_) (fun h5 => ?_)
    · replace hf := zif_neg h5 hf
      refine z_iconst hX dX12_noLine_27 ci_0 ?_
      obtain rfl := Option.some.inj hf
      exact z_iret hX hr (zbn (Or.inl rfl)) (zl rfl) (zl rfl) dX12_noLine_28
    · replace hf := zif_pos h5 hf
      refine z_iconst hX dX12_noLine_23 ci_1 ?_
      refine z_goto hX 28 dX12_noLine_24 (by decide) ?_
      obtain rfl := Option.some.inj hf
      exact z_iret hX hr (zbn (Or.inr rfl)) (zl rfl) (zl rfl) dX12_noLine_28
set_option maxHeartbeats 4000000 in
set_option maxRecDepth 100000 in
theorem ct_X12_noLine {E : zE} {v1 : Int32} {v2 : Int32} {g : zM} {r : Int32} (hf : fX12_noLine v1 v2 g = some r) : zCt yX12_noLine cX12_noLine 3 (some .boolean) 3 0 E [.ref (E.1 + 493), .int v1, .int v2] g (.inl (some (.int r), g)) := by
  refine zmet (by decide) (zl rfl) (fun X hE hX hT hR hr hn => ?_)
  subst hE
  exact fX12_noLine_ok hX hT hR hr hn  hf
def fX12_noPromise (v1 : Int32) (g : zM) : Option Int32 := zb (fX12_promises g) (fun r_1 => zb (fX12_in v1 0 (r_1 - 1) g) (fun r_2 => if r_2 = 0 then some 1 else some 0))
set_option maxHeartbeats 4000000 in
set_option maxRecDepth 100000 in
theorem fX12_noPromise_ok {X : zX} (hX : zCX X cX12_noPromise RX12) (hT : zNT X) (hR : X.2.2.2.1 = zrm 1 0) (hr : X.2.2.2.2.2.2.2.2.1.sig.returnType = (some .boolean)) (hn : X.2.2.2.2.2.2.2.2.2.1.maxLocals = 2) {v1 : Int32} {g : zM} {r : Int32} (hf : fX12_noPromise v1 g = some r) : zW X (zQ X (.inl (some (.int r), g)) 0) 0 0 0 [(0, .ref (zB X + 493)), (1, .int v1)] [] g := by
  unfold fX12_noPromise at hf
  refine z_iload_n hX dX12_noPromise_0 1 rfl ?_
  refine z_iconst hX dX12_noPromise_1 ci_0 ?_
  refine z_aload_n hX dX12_noPromise_2 0 rfl ?_
  replace hf := zb_some hf
  obtain ⟨r_1, h1, hf⟩ := hf
  refine z_callV1 hX ok_X12_promises q1709 q1711 q54 (zrm_ok hR (by decide)) (ct_X12_promises  h1) (zrec_Model hX zq_493) dX12_noPromise_3 rfl rfl ?_
  refine z_iconst hX dX12_noPromise_6 ci_1 ?_
  refine z_isub hX dX12_noPromise_7 ?_
  replace hf := zb_some hf
  obtain ⟨r_2, h2, hf⟩ := hf
  refine z_callS1 hX ok_X12_in rfl q1666 q1667 (zrm_ok hR (by decide)) (ct_X12_in  h2) dX12_noPromise_8 rfl rfl ?_
  refine z_if_ne hX 18 dX12_noPromise_11 (by decide) (fun h3 => ?_) (fun h3 => ?_)
  · replace hf := zif_neg h3 hf
    refine z_iconst hX dX12_noPromise_18 ci_0 ?_
    obtain rfl := Option.some.inj hf
    exact z_iret hX hr (zbn (Or.inl rfl)) (zl rfl) (zl rfl) dX12_noPromise_19
  · replace hf := zif_pos h3 hf
    refine z_iconst hX dX12_noPromise_14 ci_1 ?_
    refine z_goto hX 19 dX12_noPromise_15 (by decide) ?_
    obtain rfl := Option.some.inj hf
    exact z_iret hX hr (zbn (Or.inr rfl)) (zl rfl) (zl rfl) dX12_noPromise_19
set_option maxHeartbeats 4000000 in
set_option maxRecDepth 100000 in
theorem ct_X12_noPromise {E : zE} {v1 : Int32} {g : zM} {r : Int32} (hf : fX12_noPromise v1 g = some r) : zCt yX12_noPromise cX12_noPromise 2 (some .boolean) 1 0 E [.ref (E.1 + 493), .int v1] g (.inl (some (.int r), g)) := by
  refine zmet (by decide) (zl rfl) (fun X hE hX hT hR hr hn => ?_)
  subst hE
  exact fX12_noPromise_ok hX hT hR hr hn  hf
def fX12_noKind (v0 : Int32) (g : zM) : Option Int32 := zb (fX12_in v0 0 11 g) (fun r_1 => if r_1 = 0 then some 1 else some 0)
set_option maxHeartbeats 4000000 in
set_option maxRecDepth 100000 in
theorem fX12_noKind_ok {X : zX} (hX : zCX X cX12_noKind RX12) (hT : zNT X) (hR : X.2.2.2.1 = zrm 1 0) (hr : X.2.2.2.2.2.2.2.2.1.sig.returnType = (some .boolean)) (hn : X.2.2.2.2.2.2.2.2.2.1.maxLocals = 1) {v0 : Int32} {g : zM} {r : Int32} (hf : fX12_noKind v0 g = some r) : zW X (zQ X (.inl (some (.int r), g)) 0) 0 0 0 [(0, .int v0)] [] g := by
  unfold fX12_noKind at hf
  refine z_iload_n hX dX12_noKind_0 0 rfl ?_
  refine z_iconst hX dX12_noKind_1 ci_0 ?_
  refine z_bipush hX dX12_noKind_2 cb_11 ?_
  replace hf := zb_some hf
  obtain ⟨r_1, h1, hf⟩ := hf
  refine z_callS1 hX ok_X12_in rfl q1666 q1667 (zrm_ok hR (by decide)) (ct_X12_in  h1) dX12_noKind_4 rfl rfl ?_
  refine z_if_ne hX 14 dX12_noKind_7 (by decide) (fun h2 => ?_) (fun h2 => ?_)
  · replace hf := zif_neg h2 hf
    refine z_iconst hX dX12_noKind_14 ci_0 ?_
    obtain rfl := Option.some.inj hf
    exact z_iret hX hr (zbn (Or.inl rfl)) (zl rfl) (zl rfl) dX12_noKind_15
  · replace hf := zif_pos h2 hf
    refine z_iconst hX dX12_noKind_10 ci_1 ?_
    refine z_goto hX 15 dX12_noKind_11 (by decide) ?_
    obtain rfl := Option.some.inj hf
    exact z_iret hX hr (zbn (Or.inr rfl)) (zl rfl) (zl rfl) dX12_noKind_15
set_option maxHeartbeats 4000000 in
set_option maxRecDepth 100000 in
theorem ct_X12_noKind {E : zE} {v0 : Int32} {g : zM} {r : Int32} (hf : fX12_noKind v0 g = some r) : zCt yX12_noKind cX12_noKind 1 (some .boolean) 1 0 E [.int v0] g (.inl (some (.int r), g)) := by
  refine zmet (by decide) (zl rfl) (fun X hE hX hT hR hr hn => ?_)
  subst hE
  exact fX12_noKind_ok hX hT hR hr hn  hf
def fX12_noAhead (v0 : Int32) (g : zM) : Option Int32 := zb (fX12_in v0 0 40 g) (fun r_1 => if r_1 = 0 then some 1 else some 0)
set_option maxHeartbeats 4000000 in
set_option maxRecDepth 100000 in
theorem fX12_noAhead_ok {X : zX} (hX : zCX X cX12_noAhead RX12) (hT : zNT X) (hR : X.2.2.2.1 = zrm 1 0) (hr : X.2.2.2.2.2.2.2.2.1.sig.returnType = (some .boolean)) (hn : X.2.2.2.2.2.2.2.2.2.1.maxLocals = 1) {v0 : Int32} {g : zM} {r : Int32} (hf : fX12_noAhead v0 g = some r) : zW X (zQ X (.inl (some (.int r), g)) 0) 0 0 0 [(0, .int v0)] [] g := by
  unfold fX12_noAhead at hf
  refine z_iload_n hX dX12_noAhead_0 0 rfl ?_
  refine z_iconst hX dX12_noAhead_1 ci_0 ?_
  refine z_bipush hX dX12_noAhead_2 cb_40 ?_
  replace hf := zb_some hf
  obtain ⟨r_1, h1, hf⟩ := hf
  refine z_callS1 hX ok_X12_in rfl q1666 q1667 (zrm_ok hR (by decide)) (ct_X12_in  h1) dX12_noAhead_4 rfl rfl ?_
  refine z_if_ne hX 14 dX12_noAhead_7 (by decide) (fun h2 => ?_) (fun h2 => ?_)
  · replace hf := zif_neg h2 hf
    refine z_iconst hX dX12_noAhead_14 ci_0 ?_
    obtain rfl := Option.some.inj hf
    exact z_iret hX hr (zbn (Or.inl rfl)) (zl rfl) (zl rfl) dX12_noAhead_15
  · replace hf := zif_pos h2 hf
    refine z_iconst hX dX12_noAhead_10 ci_1 ?_
    refine z_goto hX 15 dX12_noAhead_11 (by decide) ?_
    obtain rfl := Option.some.inj hf
    exact z_iret hX hr (zbn (Or.inr rfl)) (zl rfl) (zl rfl) dX12_noAhead_15
set_option maxHeartbeats 4000000 in
set_option maxRecDepth 100000 in
theorem ct_X12_noAhead {E : zE} {v0 : Int32} {g : zM} {r : Int32} (hf : fX12_noAhead v0 g = some r) : zCt yX12_noAhead cX12_noAhead 1 (some .boolean) 1 0 E [.int v0] g (.inl (some (.int r), g)) := by
  refine zmet (by decide) (zl rfl) (fun X hE hX hT hR hr hn => ?_)
  subst hE
  exact fX12_noAhead_ok hX hT hR hr hn  hf
def fX12_noSender (v0 : Int32) (v1 : Int32) (g : zM) : Option Int32 := zb (fX12_in v0 0 9 g) (fun r_1 => if r_1 = 0 then some 1 else zb (fX12_in v1 0 9 g) (fun r_3 => if r_3 = 0 then some 1 else some 0))
set_option maxHeartbeats 4000000 in
set_option maxRecDepth 100000 in
theorem fX12_noSender_ok {X : zX} (hX : zCX X cX12_noSender RX12) (hT : zNT X) (hR : X.2.2.2.1 = zrm 1 0) (hr : X.2.2.2.2.2.2.2.2.1.sig.returnType = (some .boolean)) (hn : X.2.2.2.2.2.2.2.2.2.1.maxLocals = 2) {v0 : Int32} {v1 : Int32} {g : zM} {r : Int32} (hf : fX12_noSender v0 v1 g = some r) : zW X (zQ X (.inl (some (.int r), g)) 0) 0 0 0 [(0, .int v0), (1, .int v1)] [] g := by
  unfold fX12_noSender at hf
  refine z_iload_n hX dX12_noSender_0 0 rfl ?_
  refine z_iconst hX dX12_noSender_1 ci_0 ?_
  refine z_bipush hX dX12_noSender_2 cb_9 ?_
  replace hf := zb_some hf
  obtain ⟨r_1, h1, hf⟩ := hf
  refine z_callS1 hX ok_X12_in rfl q1666 q1667 (zrm_ok hR (by decide)) (ct_X12_in  h1) dX12_noSender_4 rfl rfl ?_
  refine z_if_eq hX 20 dX12_noSender_7 (by decide) (fun h2 => ?_) (fun h2 => ?_)
  · replace hf := zif_pos h2 hf
    refine z_iconst hX dX12_noSender_20 ci_1 ?_
    refine z_goto hX 25 dX12_noSender_21 (by decide) ?_
    obtain rfl := Option.some.inj hf
    exact z_iret hX hr (zbn (Or.inr rfl)) (zl rfl) (zl rfl) dX12_noSender_25
  · replace hf := zif_neg h2 hf
    refine z_iload_n hX dX12_noSender_10 1 rfl ?_
    refine z_iconst hX dX12_noSender_11 ci_0 ?_
    refine z_bipush hX dX12_noSender_12 cb_9 ?_
    replace hf := zb_some hf
    obtain ⟨r_3, h3, hf⟩ := hf
    refine z_callS1 hX ok_X12_in rfl q1666 q1667 (zrm_ok hR (by decide)) (ct_X12_in  h3) dX12_noSender_14 rfl rfl ?_
    refine z_if_ne hX 24 dX12_noSender_17 (by decide) (fun h4 => ?_) (fun h4 => ?_)
    · replace hf := zif_neg h4 hf
      refine z_iconst hX dX12_noSender_24 ci_0 ?_
      obtain rfl := Option.some.inj hf
      exact z_iret hX hr (zbn (Or.inl rfl)) (zl rfl) (zl rfl) dX12_noSender_25
    · replace hf := zif_pos h4 hf
      refine z_iconst hX dX12_noSender_20 ci_1 ?_
      refine z_goto hX 25 dX12_noSender_21 (by decide) ?_
      obtain rfl := Option.some.inj hf
      exact z_iret hX hr (zbn (Or.inr rfl)) (zl rfl) (zl rfl) dX12_noSender_25
set_option maxHeartbeats 4000000 in
set_option maxRecDepth 100000 in
theorem ct_X12_noSender {E : zE} {v0 : Int32} {v1 : Int32} {g : zM} {r : Int32} (hf : fX12_noSender v0 v1 g = some r) : zCt yX12_noSender cX12_noSender 2 (some .boolean) 1 0 E [.int v0, .int v1] g (.inl (some (.int r), g)) := by
  refine zmet (by decide) (zl rfl) (fun X hE hX hT hR hr hn => ?_)
  subst hE
  exact fX12_noSender_ok hX hT hR hr hn  hf
def fX12_draw (v1 : Int32) (g : zM) : Option (Int32 × zM) := zchk 7 2158 (zchk 7 2158 (zput g 494 (7 : Int32).toNatClampNeg ((1103515245 * (g 494 (7 : Int32).toNatClampNeg)) + 12345) (fun g3 => zchk 7 2158 (znz v1 (some ((((g3 494 (7 : Int32).toNatClampNeg) >>> ((16 : Int32) &&& 31)) &&& 32767) - (((g3 494 (7 : Int32).toNatClampNeg) >>> ((16 : Int32) &&& 31)) &&& 32767) / v1 * v1, g3))))))
set_option maxHeartbeats 4000000 in
set_option maxRecDepth 100000 in
theorem fX12_draw_ok {X : zX} (hX : zCX X cX12_draw RX12) (hT : zNT X) (hR : X.2.2.2.1 = zrm 0 0) (hr : X.2.2.2.2.2.2.2.2.1.sig.returnType = (some .int)) (hn : X.2.2.2.2.2.2.2.2.2.1.maxLocals = 2) {v1 : Int32} {g : zM} {r : Int32 × zM} (hf : fX12_draw v1 g = some r) : zW X (zQ X (.inl (some (.int r.1), r.2)) 0) 0 0 0 [(0, .ref (zB X + 493)), (1, .int v1)] [] g := by
  unfold fX12_draw at hf
  refine z_aload_n hX dX12_draw_0 0 rfl ?_
  refine gf_Model_world hX zq_493 q1495 dX12_draw_1 ?_
  refine z_bipush hX dX12_draw_4 cb_7 ?_
  refine z_ldc hX dX12_draw_6 q1928 ?_
  refine z_aload_n hX dX12_draw_8 0 rfl ?_
  refine gf_Model_world hX zq_493 q1495 dX12_draw_9 ?_
  refine z_bipush hX dX12_draw_12 cb_7 ?_
  replace hf := zchk_some hf
  obtain ⟨h1, hf⟩ := hf
  refine z_iald hX zq_494 (by decide) (zc_3158 _ _ _) h1 dX12_draw_14 ?_
  refine z_imul hX dX12_draw_15 ?_
  refine z_sipush hX dX12_draw_16 cs_12345 ?_
  refine z_iadd hX dX12_draw_19 ?_
  replace hf := zchk_some hf
  obtain ⟨h2, hf⟩ := hf
  replace hf := zput_some hf
  obtain ⟨g3, eg3, hf⟩ := hf
  refine z_iast hX zq_494 (by decide) (zc_3158 _ _) h2 dX12_draw_20 (zW.eqg eg3 ?_)
  refine z_aload_n hX dX12_draw_21 0 rfl ?_
  refine gf_Model_world hX zq_493 q1495 dX12_draw_22 ?_
  refine z_bipush hX dX12_draw_25 cb_7 ?_
  replace hf := zchk_some hf
  obtain ⟨h4, hf⟩ := hf
  refine z_iald hX zq_494 (by decide) (zc_3158 _ _ _) h4 dX12_draw_27 ?_
  refine z_bipush hX dX12_draw_28 cb_16 ?_
  refine z_ishr hX dX12_draw_30 ?_
  refine z_sipush hX dX12_draw_31 cs_32767 ?_
  refine z_iand hX dX12_draw_34 ?_
  refine z_iload_n hX dX12_draw_35 1 rfl ?_
  replace hf := znz_some hf
  obtain ⟨h5, hf⟩ := hf
  refine z_irem hX dX12_draw_36 h5 ?_
  obtain rfl := Option.some.inj hf
  exact z_iret hX hr rfl (zl rfl) (zl rfl) dX12_draw_37
set_option maxHeartbeats 4000000 in
set_option maxRecDepth 100000 in
theorem ct_X12_draw {E : zE} {v1 : Int32} {g : zM} {r : Int32 × zM} (hf : fX12_draw v1 g = some r) : zCt yX12_draw cX12_draw 2 (some .int) 0 0 E [.ref (E.1 + 493), .int v1] g (.inl (some (.int r.1), r.2)) := by
  refine zmet (by decide) (zl rfl) (fun X hE hX hT hR hr hn => ?_)
  subst hE
  exact fX12_draw_ok hX hT hR hr hn  hf
def fX12_feed_L60 (k106 : zM → Option (Int32 × zM)) : Nat → Int32 → zM → Option (Int32 × zM)
  | 0, _, _ => none
  | n + 1, v6, g => if 20 ≤ v6 then k106 g else zchk (v6 / 4) 5 (zchk ((g 493 9) + v6) 400 (zput g 499 ((g 493 9) + v6).toNatClampNeg ((vp_nar .byte (((g 500 (v6 / 4).toNatClampNeg) >>> ((24 - (8 * (v6 - v6 / 4 * 4))) &&& 31)).toInt8.toInt32))) (fun g16 => fX12_feed_L60 k106 n (v6 + 1) g16)))
def fX12_feed (v1 : Int32) (v2 : Int32) (v3 : Int32) (v4 : Int32) (v5 : Int32) (g : zM) : Option (Int32 × zM) := zput g 493 0 0 (fun g1 => if ((g1 493 9) + 20) ≤ 400 then zchk 0 5 (zput g1 500 (0 : Int32).toNatClampNeg v1 (fun g4 => zchk 1 5 (zput g4 500 (1 : Int32).toNatClampNeg v2 (fun g6 => zchk 2 5 (zput g6 500 (2 : Int32).toNatClampNeg v3 (fun g8 => zchk 3 5 (zput g8 500 (3 : Int32).toNatClampNeg v4 (fun g10 => zchk 4 5 (zput g10 500 (4 : Int32).toNatClampNeg v5 (fun g12 => fX12_feed_L60 (fun g17 => zput g17 493 9 ((g17 493 9) + 20) (fun g18 => some (g18 493 9, g18))) zFU 0 g12)))))))))) else some ((-1), g1))
set_option maxHeartbeats 4000000 in
set_option maxRecDepth 100000 in
theorem fX12_feed_L60_ok {X : zX} (hX : zCX X cX12_feed RX12) (hT : zNT X) (hR : X.2.2.2.1 = zrm 0 0) (hr : X.2.2.2.2.2.2.2.2.1.sig.returnType = (some .int)) (hn : X.2.2.2.2.2.2.2.2.2.1.maxLocals = 7) {k106 : zM → Option (Int32 × zM)} {r : Int32 × zM} (hk106 : ∀ (g : zM), k106 g = some r → zW X (zQ X (.inl (some (.int r.1), r.2)) 0) 0 0 106 [(0, .ref (zB X + 493))] [] g) : ∀ (n : Nat) (v6 : Int32) (g : zM), fX12_feed_L60 k106 n v6 g = some r → zW X (zQ X (.inl (some (.int r.1), r.2)) 0) 0 0 60 [(0, .ref (zB X + 493)), (6, .int v6)] [] g := by
  intro n
  induction n with
  | zero => intro v6 g hf; exact zno hf
  | succ n ih =>
    intro v6 g hf
    rw [fX12_feed_L60] at hf
    refine z_iload hX dX12_feed_60 1 rfl ?_
    refine z_bipush hX dX12_feed_62 cb_20 ?_
    refine z_icmp_ge hX 106 dX12_feed_64 (by decide) (fun h13 => ?_) (fun h13 => ?_)
    · replace hf := zif_pos h13 hf
      refine zW.sub [0] rfl ?_
      exact hk106 g hf
    · replace hf := zif_neg h13 hf
      refine z_aload_n hX dX12_feed_67 0 rfl ?_
      refine gf_Model_tape hX zq_493 q1502 dX12_feed_68 ?_
      refine z_aload_n hX dX12_feed_71 0 rfl ?_
      refine gf_Model_taped hX zq_493 q1503 dX12_feed_72 ?_
      refine z_iload hX dX12_feed_75 1 rfl ?_
      refine z_iadd hX dX12_feed_77 ?_
      refine z_aload_n hX dX12_feed_78 0 rfl ?_
      refine gf_Model_five hX zq_493 q1509 dX12_feed_79 ?_
      refine z_iload hX dX12_feed_82 1 rfl ?_
      refine z_iconst hX dX12_feed_84 ci_4 ?_
      refine z_idiv hX dX12_feed_85 (by decide) ?_
      replace hf := zchk_some hf
      obtain ⟨h14, hf⟩ := hf
      refine z_iald hX zq_500 (by decide) (zc_1005 _ _ _) h14 dX12_feed_86 ?_
      refine z_bipush hX dX12_feed_87 cb_24 ?_
      refine z_bipush hX dX12_feed_89 cb_8 ?_
      refine z_iload hX dX12_feed_91 1 rfl ?_
      refine z_iconst hX dX12_feed_93 ci_4 ?_
      refine z_irem hX dX12_feed_94 (by decide) ?_
      refine z_imul hX dX12_feed_95 ?_
      refine z_isub hX dX12_feed_96 ?_
      refine z_ishr hX dX12_feed_97 ?_
      refine z_i2b hX dX12_feed_98 ?_
      replace hf := zchk_some hf
      obtain ⟨h15, hf⟩ := hf
      replace hf := zput_some hf
      obtain ⟨g16, eg16, hf⟩ := hf
      refine z_bast hX zq_499 h15 dX12_feed_99 (zW.eqg eg16 ?_)
      refine z_iincc (lv' := [(6, .int (v6 + 1)), (0, .ref (zB X + 493))]) hX dX12_feed_100 hn (by decide) 1 rfl ci_1 rfl ?_
      refine z_goto hX 60 dX12_feed_103 (by decide) ?_
      refine zW.sub [1, 0] rfl ?_
      exact ih (v6 + 1) g16 hf
set_option maxHeartbeats 4000000 in
set_option maxRecDepth 100000 in
theorem fX12_feed_ok {X : zX} (hX : zCX X cX12_feed RX12) (hT : zNT X) (hR : X.2.2.2.1 = zrm 0 0) (hr : X.2.2.2.2.2.2.2.2.1.sig.returnType = (some .int)) (hn : X.2.2.2.2.2.2.2.2.2.1.maxLocals = 7) {v1 : Int32} {v2 : Int32} {v3 : Int32} {v4 : Int32} {v5 : Int32} {g : zM} {r : Int32 × zM} (hf : fX12_feed v1 v2 v3 v4 v5 g = some r) : zW X (zQ X (.inl (some (.int r.1), r.2)) 0) 0 0 0 [(0, .ref (zB X + 493)), (1, .int v1), (2, .int v2), (3, .int v3), (4, .int v4), (5, .int v5)] [] g := by
  unfold fX12_feed at hf
  refine z_aload_n hX dX12_feed_0 0 rfl ?_
  refine z_iconst hX dX12_feed_1 ci_0 ?_
  replace hf := zput_some hf
  obtain ⟨g1, eg1, hf⟩ := hf
  refine gp_Model_thrown hX zq_493 q1494 dX12_feed_2 (zW.eqg eg1 ?_)
  refine z_aload_n hX dX12_feed_5 0 rfl ?_
  refine gf_Model_taped hX zq_493 q1503 dX12_feed_6 ?_
  refine z_bipush hX dX12_feed_9 cb_20 ?_
  refine z_iadd hX dX12_feed_11 ?_
  refine z_sipush hX dX12_feed_12 cs_400 ?_
  refine z_icmp_le hX 20 dX12_feed_15 (by decide) (fun h2 => ?_) (fun h2 => ?_)
  · replace hf := zif_pos h2 hf
    refine z_aload_n hX dX12_feed_20 0 rfl ?_
    refine gf_Model_five hX zq_493 q1509 dX12_feed_21 ?_
    refine z_iconst hX dX12_feed_24 ci_0 ?_
    refine z_iload_n hX dX12_feed_25 1 rfl ?_
    replace hf := zchk_some hf
    obtain ⟨h3, hf⟩ := hf
    replace hf := zput_some hf
    obtain ⟨g4, eg4, hf⟩ := hf
    refine z_iast hX zq_500 (by decide) (zc_1005 _ _) h3 dX12_feed_26 (zW.eqg eg4 ?_)
    refine z_aload_n hX dX12_feed_27 0 rfl ?_
    refine gf_Model_five hX zq_493 q1509 dX12_feed_28 ?_
    refine z_iconst hX dX12_feed_31 ci_1 ?_
    refine z_iload_n hX dX12_feed_32 2 rfl ?_
    replace hf := zchk_some hf
    obtain ⟨h5, hf⟩ := hf
    replace hf := zput_some hf
    obtain ⟨g6, eg6, hf⟩ := hf
    refine z_iast hX zq_500 (by decide) (zc_1005 _ _) h5 dX12_feed_33 (zW.eqg eg6 ?_)
    refine z_aload_n hX dX12_feed_34 0 rfl ?_
    refine gf_Model_five hX zq_493 q1509 dX12_feed_35 ?_
    refine z_iconst hX dX12_feed_38 ci_2 ?_
    refine z_iload_n hX dX12_feed_39 3 rfl ?_
    replace hf := zchk_some hf
    obtain ⟨h7, hf⟩ := hf
    replace hf := zput_some hf
    obtain ⟨g8, eg8, hf⟩ := hf
    refine z_iast hX zq_500 (by decide) (zc_1005 _ _) h7 dX12_feed_40 (zW.eqg eg8 ?_)
    refine z_aload_n hX dX12_feed_41 0 rfl ?_
    refine gf_Model_five hX zq_493 q1509 dX12_feed_42 ?_
    refine z_iconst hX dX12_feed_45 ci_3 ?_
    refine z_iload hX dX12_feed_46 4 rfl ?_
    replace hf := zchk_some hf
    obtain ⟨h9, hf⟩ := hf
    replace hf := zput_some hf
    obtain ⟨g10, eg10, hf⟩ := hf
    refine z_iast hX zq_500 (by decide) (zc_1005 _ _) h9 dX12_feed_48 (zW.eqg eg10 ?_)
    refine z_aload_n hX dX12_feed_49 0 rfl ?_
    refine gf_Model_five hX zq_493 q1509 dX12_feed_50 ?_
    refine z_iconst hX dX12_feed_53 ci_4 ?_
    refine z_iload hX dX12_feed_54 5 rfl ?_
    replace hf := zchk_some hf
    obtain ⟨h11, hf⟩ := hf
    replace hf := zput_some hf
    obtain ⟨g12, eg12, hf⟩ := hf
    refine z_iast hX zq_500 (by decide) (zc_1005 _ _) h11 dX12_feed_56 (zW.eqg eg12 ?_)
    refine z_iconst hX dX12_feed_57 ci_0 ?_
    refine z_istore (lv' := [(6, .int 0), (0, .ref (zB X + 493)), (1, .int v1), (2, .int v2), (3, .int v3), (4, .int v4), (5, .int v5)]) hX dX12_feed_58 hn (by decide) rfl ?_
    refine zW.sub [1, 0] rfl ?_
    refine fX12_feed_L60_ok hX hT hR hr hn (fun g17 hf => ?_) zFU 0 g12 hf
    · refine z_aload_n hX dX12_feed_106 0 rfl ?_
      refine z_dup hX dX12_feed_107 rfl ?_
      refine gf_Model_taped hX zq_493 q1503 dX12_feed_108 ?_
      refine z_bipush hX dX12_feed_111 cb_20 ?_
      refine z_iadd hX dX12_feed_113 ?_
      replace hf := zput_some hf
      obtain ⟨g18, eg18, hf⟩ := hf
      refine gp_Model_taped hX zq_493 q1503 dX12_feed_114 (zW.eqg eg18 ?_)
      refine z_aload_n hX dX12_feed_117 0 rfl ?_
      refine gf_Model_taped hX zq_493 q1503 dX12_feed_118 ?_
      obtain rfl := Option.some.inj hf
      exact z_iret hX hr rfl (zl rfl) (zl rfl) dX12_feed_121
  · replace hf := zif_neg h2 hf
    refine z_iconst hX dX12_feed_18 ci_m1 ?_
    obtain rfl := Option.some.inj hf
    exact z_iret hX hr rfl (zl rfl) (zl rfl) dX12_feed_19
set_option maxHeartbeats 4000000 in
set_option maxRecDepth 100000 in
theorem ct_X12_feed {E : zE} {v1 : Int32} {v2 : Int32} {v3 : Int32} {v4 : Int32} {v5 : Int32} {g : zM} {r : Int32 × zM} (hf : fX12_feed v1 v2 v3 v4 v5 g = some r) : zCt yX12_feed cX12_feed 7 (some .int) 0 0 E [.ref (E.1 + 493), .int v1, .int v2, .int v3, .int v4, .int v5] g (.inl (some (.int r.1), r.2)) := by
  refine zmet (by decide) (zl rfl) (fun X hE hX hT hR hr hn => ?_)
  subst hE
  exact fX12_feed_ok hX hT hR hr hn  hf
def fX12_end (v1 : Int32) (g : zM) : Option (Int32 × zM) := zput g 493 0 0 (fun g1 => if v1 < 0 then some (0, g1) else if v1 ≤ (g1 493 9) then zput g1 493 9 v1 (fun g4 => some (1, g4)) else some (0, g1))
set_option maxHeartbeats 4000000 in
set_option maxRecDepth 100000 in
theorem fX12_end_ok {X : zX} (hX : zCX X cX12_end RX12) (hT : zNT X) (hR : X.2.2.2.1 = zrm 0 0) (hr : X.2.2.2.2.2.2.2.2.1.sig.returnType = (some .boolean)) (hn : X.2.2.2.2.2.2.2.2.2.1.maxLocals = 2) {v1 : Int32} {g : zM} {r : Int32 × zM} (hf : fX12_end v1 g = some r) : zW X (zQ X (.inl (some (.int r.1), r.2)) 0) 0 0 0 [(0, .ref (zB X + 493)), (1, .int v1)] [] g := by
  unfold fX12_end at hf
  refine z_aload_n hX dX12_end_0 0 rfl ?_
  refine z_iconst hX dX12_end_1 ci_0 ?_
  replace hf := zput_some hf
  obtain ⟨g1, eg1, hf⟩ := hf
  refine gp_Model_thrown hX zq_493 q1494 dX12_end_2 (zW.eqg eg1 ?_)
  refine z_iload_n hX dX12_end_5 1 rfl ?_
  refine z_if_lt hX 17 dX12_end_6 (by decide) (fun h2 => ?_) (fun h2 => ?_)
  · replace hf := zif_pos h2 hf
    refine z_iconst hX dX12_end_17 ci_0 ?_
    obtain rfl := Option.some.inj hf
    exact z_iret hX hr (zbn (Or.inl rfl)) (zl rfl) (zl rfl) dX12_end_18
  · replace hf := zif_neg h2 hf
    refine z_iload_n hX dX12_end_9 1 rfl ?_
    refine z_aload_n hX dX12_end_10 0 rfl ?_
    refine gf_Model_taped hX zq_493 q1503 dX12_end_11 ?_
    refine z_icmp_le hX 19 dX12_end_14 (by decide) (fun h3 => ?_) (fun h3 => ?_)
    · replace hf := zif_pos h3 hf
      refine z_aload_n hX dX12_end_19 0 rfl ?_
      refine z_iload_n hX dX12_end_20 1 rfl ?_
      replace hf := zput_some hf
      obtain ⟨g4, eg4, hf⟩ := hf
      refine gp_Model_taped hX zq_493 q1503 dX12_end_21 (zW.eqg eg4 ?_)
      refine z_iconst hX dX12_end_24 ci_1 ?_
      obtain rfl := Option.some.inj hf
      exact z_iret hX hr (zbn (Or.inr rfl)) (zl rfl) (zl rfl) dX12_end_25
    · replace hf := zif_neg h3 hf
      refine z_iconst hX dX12_end_17 ci_0 ?_
      obtain rfl := Option.some.inj hf
      exact z_iret hX hr (zbn (Or.inl rfl)) (zl rfl) (zl rfl) dX12_end_18
set_option maxHeartbeats 4000000 in
set_option maxRecDepth 100000 in
theorem ct_X12_end {E : zE} {v1 : Int32} {g : zM} {r : Int32 × zM} (hf : fX12_end v1 g = some r) : zCt yX12_end cX12_end 2 (some .boolean) 0 0 E [.ref (E.1 + 493), .int v1] g (.inl (some (.int r.1), r.2)) := by
  refine zmet (by decide) (zl rfl) (fun X hE hX hT hR hr hn => ?_)
  subst hE
  exact fX12_end_ok hX hT hR hr hn  hf
def fX12_isAt (v1 : Int32) (v2 : Int32) (g : zM) : Option Int32 := if (g 493 11) ≤ (g 493 10) then some 0 else zchk (g 493 10) 400 (if (g 499 (g 493 10).toNatClampNeg) < v1 then some 0 else zchk (g 493 10) 400 (if v2 < (g 499 (g 493 10).toNatClampNeg) then some 0 else some 1))
set_option maxHeartbeats 4000000 in
set_option maxRecDepth 100000 in
theorem fX12_isAt_ok {X : zX} (hX : zCX X cX12_isAt RX12) (hT : zNT X) (hR : X.2.2.2.1 = zrm 0 0) (hr : X.2.2.2.2.2.2.2.2.1.sig.returnType = (some .boolean)) (hn : X.2.2.2.2.2.2.2.2.2.1.maxLocals = 3) {v1 : Int32} {v2 : Int32} {g : zM} {r : Int32} (hf : fX12_isAt v1 v2 g = some r) : zW X (zQ X (.inl (some (.int r), g)) 0) 0 0 0 [(0, .ref (zB X + 493)), (1, .int v1), (2, .int v2)] [] g := by
  unfold fX12_isAt at hf
  refine z_aload_n hX dX12_isAt_0 0 rfl ?_
  refine gf_Model_point hX zq_493 q1504 dX12_isAt_1 ?_
  refine z_aload_n hX dX12_isAt_4 0 rfl ?_
  refine gf_Model_end hX zq_493 q1505 dX12_isAt_5 ?_
  refine z_icmp_ge hX 41 dX12_isAt_8 (by decide) (fun h1 => ?_) (fun h1 => ?_)
  · replace hf := zif_pos h1 hf
    refine z_iconst hX dX12_isAt_41 ci_0 ?_
    obtain rfl := Option.some.inj hf
    exact z_iret hX hr (zbn (Or.inl rfl)) (zl rfl) (zl rfl) dX12_isAt_42
  · replace hf := zif_neg h1 hf
    refine z_aload_n hX dX12_isAt_11 0 rfl ?_
    refine gf_Model_tape hX zq_493 q1502 dX12_isAt_12 ?_
    refine z_aload_n hX dX12_isAt_15 0 rfl ?_
    refine gf_Model_point hX zq_493 q1504 dX12_isAt_16 ?_
    replace hf := zchk_some hf
    obtain ⟨h2, hf⟩ := hf
    refine z_bald hX zq_499 h2 dX12_isAt_19 ?_
    refine z_iload_n hX dX12_isAt_20 1 rfl ?_
    refine z_icmp_lt hX 41 dX12_isAt_21 (by decide) (fun h3 => ?_) (fun h3 => ?_)
    · replace hf := zif_pos h3 hf
      refine z_iconst hX dX12_isAt_41 ci_0 ?_
      obtain rfl := Option.some.inj hf
      exact z_iret hX hr (zbn (Or.inl rfl)) (zl rfl) (zl rfl) dX12_isAt_42
    · replace hf := zif_neg h3 hf
      refine z_aload_n hX dX12_isAt_24 0 rfl ?_
      refine gf_Model_tape hX zq_493 q1502 dX12_isAt_25 ?_
      refine z_aload_n hX dX12_isAt_28 0 rfl ?_
      refine gf_Model_point hX zq_493 q1504 dX12_isAt_29 ?_
      replace hf := zchk_some hf
      obtain ⟨h4, hf⟩ := hf
      refine z_bald hX zq_499 h4 dX12_isAt_32 ?_
      refine z_iload_n hX dX12_isAt_33 2 rfl ?_
      refine z_icmp_gt hX 41 dX12_isAt_34 (by decide) (fun h5 => ?_) (fun h5 => ?_)
      · replace hf := zif_pos h5 hf
        refine z_iconst hX dX12_isAt_41 ci_0 ?_
        obtain rfl := Option.some.inj hf
        exact z_iret hX hr (zbn (Or.inl rfl)) (zl rfl) (zl rfl) dX12_isAt_42
      · replace hf := zif_neg h5 hf
        refine z_iconst hX dX12_isAt_37 ci_1 ?_
        refine z_goto hX 42 dX12_isAt_38 (by decide) ?_
        obtain rfl := Option.some.inj hf
        exact z_iret hX hr (zbn (Or.inr rfl)) (zl rfl) (zl rfl) dX12_isAt_42
set_option maxHeartbeats 4000000 in
set_option maxRecDepth 100000 in
theorem ct_X12_isAt {E : zE} {v1 : Int32} {v2 : Int32} {g : zM} {r : Int32} (hf : fX12_isAt v1 v2 g = some r) : zCt yX12_isAt cX12_isAt 3 (some .boolean) 0 0 E [.ref (E.1 + 493), .int v1, .int v2] g (.inl (some (.int r), g)) := by
  refine zmet (by decide) (zl rfl) (fun X hE hX hT hR hr hn => ?_)
  subst hE
  exact fX12_isAt_ok hX hT hR hr hn  hf
def fX12_blanks_L0 (k24 : zM → Option zM) : Nat → zM → Option zM
  | 0, _ => none
  | n + 1, g => zb (fX12_isAt 32 32 g) (fun r_1 => if r_1 = 0 then k24 g else zput g 493 10 ((g 493 10) + 1) (fun g3 => fX12_blanks_L0 k24 n g3))
def fX12_blanks (g : zM) : Option zM := fX12_blanks_L0 (fun g4 => zput g4 493 12 (g4 493 10) (fun g5 => some g5)) zFU g
set_option maxHeartbeats 4000000 in
set_option maxRecDepth 100000 in
theorem fX12_blanks_L0_ok {X : zX} (hX : zCX X cX12_blanks RX12) (hT : zNT X) (hR : X.2.2.2.1 = zrm 1 0) (hr : X.2.2.2.2.2.2.2.2.1.sig.returnType = none) (hn : X.2.2.2.2.2.2.2.2.2.1.maxLocals = 1) {k24 : zM → Option zM} {r : zM} (hk24 : ∀ (g : zM), k24 g = some r → zW X (zQ X (.inl (none, r)) 0) 0 0 24 [(0, .ref (zB X + 493))] [] g) : ∀ (n : Nat) (g : zM), fX12_blanks_L0 k24 n g = some r → zW X (zQ X (.inl (none, r)) 0) 0 0 0 [(0, .ref (zB X + 493))] [] g := by
  intro n
  induction n with
  | zero => intro g hf; exact zno hf
  | succ n ih =>
    intro g hf
    rw [fX12_blanks_L0] at hf
    refine z_aload_n hX dX12_blanks_0 0 rfl ?_
    refine z_bipush hX dX12_blanks_1 cb_32 ?_
    refine z_bipush hX dX12_blanks_3 cb_32 ?_
    replace hf := zb_some hf
    obtain ⟨r_1, h1, hf⟩ := hf
    refine z_callV1 hX ok_X12_isAt q1625 q1627 q37 (zrm_ok hR (by decide)) (ct_X12_isAt  h1) (zrec_Model hX zq_493) dX12_blanks_5 rfl rfl ?_
    refine z_if_eq hX 24 dX12_blanks_8 (by decide) (fun h2 => ?_) (fun h2 => ?_)
    · replace hf := zif_pos h2 hf
      exact hk24 g hf
    · replace hf := zif_neg h2 hf
      refine z_aload_n hX dX12_blanks_11 0 rfl ?_
      refine z_dup hX dX12_blanks_12 rfl ?_
      refine gf_Model_point hX zq_493 q1504 dX12_blanks_13 ?_
      refine z_iconst hX dX12_blanks_16 ci_1 ?_
      refine z_iadd hX dX12_blanks_17 ?_
      replace hf := zput_some hf
      obtain ⟨g3, eg3, hf⟩ := hf
      refine gp_Model_point hX zq_493 q1504 dX12_blanks_18 (zW.eqg eg3 ?_)
      refine z_goto hX 0 dX12_blanks_21 (by decide) ?_
      exact ih g3 hf
set_option maxHeartbeats 4000000 in
set_option maxRecDepth 100000 in
theorem fX12_blanks_ok {X : zX} (hX : zCX X cX12_blanks RX12) (hT : zNT X) (hR : X.2.2.2.1 = zrm 1 0) (hr : X.2.2.2.2.2.2.2.2.1.sig.returnType = none) (hn : X.2.2.2.2.2.2.2.2.2.1.maxLocals = 1)  {g : zM} {r : zM} (hf : fX12_blanks g = some r) : zW X (zQ X (.inl (none, r)) 0) 0 0 0 [(0, .ref (zB X + 493))] [] g := by
  unfold fX12_blanks at hf
  refine fX12_blanks_L0_ok hX hT hR hr hn (fun g4 hf => ?_) zFU g hf
  · refine z_aload_n hX dX12_blanks_24 0 rfl ?_
    refine z_aload_n hX dX12_blanks_25 0 rfl ?_
    refine gf_Model_point hX zq_493 q1504 dX12_blanks_26 ?_
    replace hf := zput_some hf
    obtain ⟨g5, eg5, hf⟩ := hf
    refine gp_Model_begin hX zq_493 q1506 dX12_blanks_29 (zW.eqg eg5 ?_)
    obtain rfl := Option.some.inj hf
    exact z_vret hX hr (zl rfl) (zl rfl) dX12_blanks_32
set_option maxHeartbeats 4000000 in
set_option maxRecDepth 100000 in
theorem ct_X12_blanks {E : zE} {g : zM} {r : zM} (hf : fX12_blanks g = some r) : zCt yX12_blanks cX12_blanks 1 none 1 0 E [.ref (E.1 + 493)] g (.inl (none, r)) := by
  refine zmet (by decide) (zl rfl) (fun X hE hX hT hR hr hn => ?_)
  subst hE
  exact fX12_blanks_ok hX hT hR hr hn  hf
def fX12_lettersPass_L4  : Nat → zM → Option zM
  | 0, _ => none
  | n + 1, g => zb (fX12_isAt 97 122 g) (fun r_2 => if r_2 = 0 then some g else zput g 493 10 ((g 493 10) + 1) (fun g4 => fX12_lettersPass_L4 n g4))
def fX12_lettersPass (g : zM) : Option zM := zb (fX12_blanks g) (fun g1 => fX12_lettersPass_L4 zFU g1)
set_option maxHeartbeats 4000000 in
set_option maxRecDepth 100000 in
theorem fX12_lettersPass_L4_ok {X : zX} (hX : zCX X cX12_lettersPass RX12) (hT : zNT X) (hR : X.2.2.2.1 = zrm 2 0) (hr : X.2.2.2.2.2.2.2.2.1.sig.returnType = none) (hn : X.2.2.2.2.2.2.2.2.2.1.maxLocals = 1)  {r : zM}  : ∀ (n : Nat) (g : zM), fX12_lettersPass_L4 n g = some r → zW X (zQ X (.inl (none, r)) 0) 0 0 4 [(0, .ref (zB X + 493))] [] g := by
  intro n
  induction n with
  | zero => intro g hf; exact zno hf
  | succ n ih =>
    intro g hf
    rw [fX12_lettersPass_L4] at hf
    refine z_aload_n hX dX12_lettersPass_4 0 rfl ?_
    refine z_bipush hX dX12_lettersPass_5 cb_97 ?_
    refine z_bipush hX dX12_lettersPass_7 cb_122 ?_
    replace hf := zb_some hf
    obtain ⟨r_2, h2, hf⟩ := hf
    refine z_callV1 hX ok_X12_isAt q1625 q1627 q37 (zrm_ok hR (by decide)) (ct_X12_isAt  h2) (zrec_Model hX zq_493) dX12_lettersPass_9 rfl rfl ?_
    refine z_if_eq hX 28 dX12_lettersPass_12 (by decide) (fun h3 => ?_) (fun h3 => ?_)
    · replace hf := zif_pos h3 hf
      obtain rfl := Option.some.inj hf
      exact z_vret hX hr (zl rfl) (zl rfl) dX12_lettersPass_28
    · replace hf := zif_neg h3 hf
      refine z_aload_n hX dX12_lettersPass_15 0 rfl ?_
      refine z_dup hX dX12_lettersPass_16 rfl ?_
      refine gf_Model_point hX zq_493 q1504 dX12_lettersPass_17 ?_
      refine z_iconst hX dX12_lettersPass_20 ci_1 ?_
      refine z_iadd hX dX12_lettersPass_21 ?_
      replace hf := zput_some hf
      obtain ⟨g4, eg4, hf⟩ := hf
      refine gp_Model_point hX zq_493 q1504 dX12_lettersPass_22 (zW.eqg eg4 ?_)
      refine z_goto hX 4 dX12_lettersPass_25 (by decide) ?_
      exact ih g4 hf
set_option maxHeartbeats 4000000 in
set_option maxRecDepth 100000 in
theorem fX12_lettersPass_ok {X : zX} (hX : zCX X cX12_lettersPass RX12) (hT : zNT X) (hR : X.2.2.2.1 = zrm 2 0) (hr : X.2.2.2.2.2.2.2.2.1.sig.returnType = none) (hn : X.2.2.2.2.2.2.2.2.2.1.maxLocals = 1)  {g : zM} {r : zM} (hf : fX12_lettersPass g = some r) : zW X (zQ X (.inl (none, r)) 0) 0 0 0 [(0, .ref (zB X + 493))] [] g := by
  unfold fX12_lettersPass at hf
  refine z_aload_n hX dX12_lettersPass_0 0 rfl ?_
  replace hf := zb_some hf
  obtain ⟨g1, h1, hf⟩ := hf
  refine z_callV0 hX ok_X12_blanks q1621 q1623 q36 (zrm_ok hR (by decide)) (ct_X12_blanks  h1) (zrec_Model hX zq_493) dX12_lettersPass_1 rfl rfl ?_
  exact fX12_lettersPass_L4_ok hX hT hR hr hn  zFU g1 hf
set_option maxHeartbeats 4000000 in
set_option maxRecDepth 100000 in
theorem ct_X12_lettersPass {E : zE} {g : zM} {r : zM} (hf : fX12_lettersPass g = some r) : zCt yX12_lettersPass cX12_lettersPass 1 none 2 0 E [.ref (E.1 + 493)] g (.inl (none, r)) := by
  refine zmet (by decide) (zl rfl) (fun X hE hX hT hR hr hn => ?_)
  subst hE
  exact fX12_lettersPass_ok hX hT hR hr hn  hf
def fX12_isWord_L24 (s1 : Nat) (g : zM) : Nat → Int32 → Int32 → Option Int32
  | 0, _, _ => none
  | n + 1, v2, v3 => if v2 = 0 then zbo v2 (some v2) else zb (fStr_length s1) (fun r_5 => if r_5 ≤ v3 then zbo v2 (some v2) else zchk ((g 493 12) + v3) 400 (zb (fStr_charAt s1 v3) (fun r_9 => if (g 499 ((g 493 12) + v3).toNatClampNeg) = r_9 then fX12_isWord_L24 s1 g n 1 (v3 + 1) else fX12_isWord_L24 s1 g n 0 (v3 + 1))))
def fX12_isWord (s1 : Nat) (g : zM) : Option Int32 := zb (fStr_length s1) (fun r_1 => if ((g 493 10) - (g 493 12)) = r_1 then fX12_isWord_L24 s1 g zFU 1 0 else fX12_isWord_L24 s1 g zFU 0 0)
set_option maxHeartbeats 4000000 in
set_option maxRecDepth 100000 in
theorem fX12_isWord_L24_ok {X : zX} (hX : zCX X cX12_isWord RX12) (hT : zNT X) (hR : X.2.2.2.1 = zrm 5 0) (hr : X.2.2.2.2.2.2.2.2.1.sig.returnType = (some .boolean)) (hn : X.2.2.2.2.2.2.2.2.2.1.maxLocals = 4) {s1 : Nat} {g : zM} {r : Int32}  : ∀ (n : Nat) (v2 : Int32) (v3 : Int32), fX12_isWord_L24 s1 g n v2 v3 = some r → zW X (zQ X (.inl (some (.int r), g)) 0) 0 0 24 [(0, .ref (zB X + 493)), (1, .ref ((zEE X).2.2.2.1 s1)), (2, .int v2), (3, .int v3)] [] g := by
  intro n
  induction n with
  | zero => intro v2 v3 hf; exact zno hf
  | succ n ih =>
    intro v2 v3 hf
    rw [fX12_isWord_L24] at hf
    refine z_iload_n hX dX12_isWord_24 2 rfl ?_
    refine z_if_eq hX 67 dX12_isWord_25 (by decide) (fun h3 => ?_) (fun h3 => ?_)
    · replace hf := zif_pos h3 hf
      refine z_iload_n hX dX12_isWord_67 2 rfl ?_
      replace hf := zbo_some hf
      obtain ⟨h4, hf⟩ := hf
      obtain rfl := Option.some.inj hf
      exact z_iret hX hr (zbn h4) (zl rfl) (zl rfl) dX12_isWord_68
    · replace hf := zif_neg h3 hf
      refine z_iload_n hX dX12_isWord_28 3 rfl ?_
      refine z_aload_n hX dX12_isWord_29 1 rfl ?_
      replace hf := zb_some hf
      obtain ⟨r_5, h5, hf⟩ := hf
      refine z_callL1 hX ok_Str_length q1646 q686 q687 rfl (zrm_ok hR (by decide)) (fStr_length_in h5) (ct_Str_length h5) dX12_isWord_30 rfl rfl ?_
      refine z_icmp_ge hX 67 dX12_isWord_33 (by decide) (fun h6 => ?_) (fun h6 => ?_)
      · replace hf := zif_pos h6 hf
        refine z_iload_n hX dX12_isWord_67 2 rfl ?_
        replace hf := zbo_some hf
        obtain ⟨h7, hf⟩ := hf
        obtain rfl := Option.some.inj hf
        exact z_iret hX hr (zbn h7) (zl rfl) (zl rfl) dX12_isWord_68
      · replace hf := zif_neg h6 hf
        refine z_aload_n hX dX12_isWord_36 0 rfl ?_
        refine gf_Model_tape hX zq_493 q1502 dX12_isWord_37 ?_
        refine z_aload_n hX dX12_isWord_40 0 rfl ?_
        refine gf_Model_begin hX zq_493 q1506 dX12_isWord_41 ?_
        refine z_iload_n hX dX12_isWord_44 3 rfl ?_
        refine z_iadd hX dX12_isWord_45 ?_
        replace hf := zchk_some hf
        obtain ⟨h8, hf⟩ := hf
        refine z_bald hX zq_499 h8 dX12_isWord_46 ?_
        refine z_aload_n hX dX12_isWord_47 1 rfl ?_
        refine z_iload_n hX dX12_isWord_48 3 rfl ?_
        replace hf := zb_some hf
        obtain ⟨r_9, h9, hf⟩ := hf
        refine z_callL1 hX ok_Str_charAt q1647 q696 q697 rfl (zrm_ok hR (by decide)) (fStr_charAt_in h9) (ct_Str_charAt h9) dX12_isWord_49 rfl rfl ?_
        refine z_icmp_ne hX 59 dX12_isWord_52 (by decide) (fun h10 => ?_) (fun h10 => ?_)
        · replace hf := zif_neg h10 hf
          refine z_iconst hX dX12_isWord_59 ci_0 ?_
          refine z_istore_n (lv' := [(2, .int 0), (0, .ref (zB X + 493)), (1, .ref ((zEE X).2.2.2.1 s1)), (3, .int v3)]) hX dX12_isWord_60 hn (by decide) rfl ?_
          refine z_iincc (lv' := [(3, .int (v3 + 1)), (2, .int 0), (0, .ref (zB X + 493)), (1, .ref ((zEE X).2.2.2.1 s1))]) hX dX12_isWord_61 hn (by decide) 3 rfl ci_1 rfl ?_
          refine z_goto hX 24 dX12_isWord_64 (by decide) ?_
          refine zW.sub [2, 3, 1, 0] rfl ?_
          exact ih 0 (v3 + 1) hf
        · replace hf := zif_pos h10 hf
          refine z_iconst hX dX12_isWord_55 ci_1 ?_
          refine z_goto hX 60 dX12_isWord_56 (by decide) ?_
          refine z_istore_n (lv' := [(2, .int 1), (0, .ref (zB X + 493)), (1, .ref ((zEE X).2.2.2.1 s1)), (3, .int v3)]) hX dX12_isWord_60 hn (by decide) rfl ?_
          refine z_iincc (lv' := [(3, .int (v3 + 1)), (2, .int 1), (0, .ref (zB X + 493)), (1, .ref ((zEE X).2.2.2.1 s1))]) hX dX12_isWord_61 hn (by decide) 3 rfl ci_1 rfl ?_
          refine z_goto hX 24 dX12_isWord_64 (by decide) ?_
          refine zW.sub [2, 3, 1, 0] rfl ?_
          exact ih 1 (v3 + 1) hf
set_option maxHeartbeats 4000000 in
set_option maxRecDepth 100000 in
theorem fX12_isWord_ok {X : zX} (hX : zCX X cX12_isWord RX12) (hT : zNT X) (hR : X.2.2.2.1 = zrm 5 0) (hr : X.2.2.2.2.2.2.2.2.1.sig.returnType = (some .boolean)) (hn : X.2.2.2.2.2.2.2.2.2.1.maxLocals = 4) {s1 : Nat} {g : zM} {r : Int32} (hf : fX12_isWord s1 g = some r) : zW X (zQ X (.inl (some (.int r), g)) 0) 0 0 0 [(0, .ref (zB X + 493)), (1, .ref ((zEE X).2.2.2.1 s1))] [] g := by
  unfold fX12_isWord at hf
  refine z_aload_n hX dX12_isWord_0 0 rfl ?_
  refine gf_Model_point hX zq_493 q1504 dX12_isWord_1 ?_
  refine z_aload_n hX dX12_isWord_4 0 rfl ?_
  refine gf_Model_begin hX zq_493 q1506 dX12_isWord_5 ?_
  refine z_isub hX dX12_isWord_8 ?_
  refine z_aload_n hX dX12_isWord_9 1 rfl ?_
  replace hf := zb_some hf
  obtain ⟨r_1, h1, hf⟩ := hf
  refine z_callL1 hX ok_Str_length q1646 q686 q687 rfl (zrm_ok hR (by decide)) (fStr_length_in h1) (ct_Str_length h1) dX12_isWord_10 rfl rfl ?_
  refine z_icmp_ne hX 20 dX12_isWord_13 (by decide) (fun h2 => ?_) (fun h2 => ?_)
  · replace hf := zif_neg h2 hf
    refine z_iconst hX dX12_isWord_20 ci_0 ?_
    refine z_istore_n (lv' := [(2, .int 0), (0, .ref (zB X + 493)), (1, .ref ((zEE X).2.2.2.1 s1))]) hX dX12_isWord_21 hn (by decide) rfl ?_
    refine z_iconst hX dX12_isWord_22 ci_0 ?_
    refine z_istore_n (lv' := [(3, .int 0), (2, .int 0), (0, .ref (zB X + 493)), (1, .ref ((zEE X).2.2.2.1 s1))]) hX dX12_isWord_23 hn (by decide) rfl ?_
    refine zW.sub [2, 3, 1, 0] rfl ?_
    exact fX12_isWord_L24_ok hX hT hR hr hn  zFU 0 0 hf
  · replace hf := zif_pos h2 hf
    refine z_iconst hX dX12_isWord_16 ci_1 ?_
    refine z_goto hX 21 dX12_isWord_17 (by decide) ?_
    refine z_istore_n (lv' := [(2, .int 1), (0, .ref (zB X + 493)), (1, .ref ((zEE X).2.2.2.1 s1))]) hX dX12_isWord_21 hn (by decide) rfl ?_
    refine z_iconst hX dX12_isWord_22 ci_0 ?_
    refine z_istore_n (lv' := [(3, .int 0), (2, .int 1), (0, .ref (zB X + 493)), (1, .ref ((zEE X).2.2.2.1 s1))]) hX dX12_isWord_23 hn (by decide) rfl ?_
    refine zW.sub [2, 3, 1, 0] rfl ?_
    exact fX12_isWord_L24_ok hX hT hR hr hn  zFU 1 0 hf
set_option maxHeartbeats 4000000 in
set_option maxRecDepth 100000 in
theorem ct_X12_isWord {E : zE} {s1 : Nat} {g : zM} {r : Int32} (hf : fX12_isWord s1 g = some r) : zCt yX12_isWord cX12_isWord 4 (some .boolean) 5 0 E [.ref (E.1 + 493), .ref (E.2.2.2.1 s1)] g (.inl (some (.int r), g)) := by
  refine zmet (by decide) (zl rfl) (fun X hE hX hT hR hr hn => ?_)
  subst hE
  exact fX12_isWord_ok hX hT hR hr hn  hf
def fX12_passes (s1 : Nat) (g : zM) : Option (Int32 × zM) := zb (fX12_lettersPass g) (fun g1 => zb (fX12_isWord s1 g1) (fun r_2 => if r_2 = 0 then zput g1 493 10 (g1 493 12) (fun g4 => some (0, g4)) else some (1, g1)))
set_option maxHeartbeats 4000000 in
set_option maxRecDepth 100000 in
theorem fX12_passes_ok {X : zX} (hX : zCX X cX12_passes RX12) (hT : zNT X) (hR : X.2.2.2.1 = zrm 6 0) (hr : X.2.2.2.2.2.2.2.2.1.sig.returnType = (some .boolean)) (hn : X.2.2.2.2.2.2.2.2.2.1.maxLocals = 2) {s1 : Nat} {g : zM} {r : Int32 × zM} (hf : fX12_passes s1 g = some r) : zW X (zQ X (.inl (some (.int r.1), r.2)) 0) 0 0 0 [(0, .ref (zB X + 493)), (1, .ref ((zEE X).2.2.2.1 s1))] [] g := by
  unfold fX12_passes at hf
  refine z_aload_n hX dX12_passes_0 0 rfl ?_
  replace hf := zb_some hf
  obtain ⟨g1, h1, hf⟩ := hf
  refine z_callV0 hX ok_X12_lettersPass q1633 q1635 q39 (zrm_ok hR (by decide)) (ct_X12_lettersPass  h1) (zrec_Model hX zq_493) dX12_passes_1 rfl rfl ?_
  refine z_aload_n hX dX12_passes_4 0 rfl ?_
  refine z_aload_n hX dX12_passes_5 1 rfl ?_
  replace hf := zb_some hf
  obtain ⟨r_2, h2, hf⟩ := hf
  refine z_callV1 hX ok_X12_isWord q1642 q1644 q41 (zrm_ok hR (by decide)) (ct_X12_isWord  h2) (zrec_Model hX zq_493) dX12_passes_6 rfl rfl ?_
  refine z_if_eq hX 14 dX12_passes_9 (by decide) (fun h3 => ?_) (fun h3 => ?_)
  · replace hf := zif_pos h3 hf
    refine z_aload_n hX dX12_passes_14 0 rfl ?_
    refine z_aload_n hX dX12_passes_15 0 rfl ?_
    refine gf_Model_begin hX zq_493 q1506 dX12_passes_16 ?_
    replace hf := zput_some hf
    obtain ⟨g4, eg4, hf⟩ := hf
    refine gp_Model_point hX zq_493 q1504 dX12_passes_19 (zW.eqg eg4 ?_)
    refine z_iconst hX dX12_passes_22 ci_0 ?_
    obtain rfl := Option.some.inj hf
    exact z_iret hX hr (zbn (Or.inl rfl)) (zl rfl) (zl rfl) dX12_passes_23
  · replace hf := zif_neg h3 hf
    refine z_iconst hX dX12_passes_12 ci_1 ?_
    obtain rfl := Option.some.inj hf
    exact z_iret hX hr (zbn (Or.inr rfl)) (zl rfl) (zl rfl) dX12_passes_13
set_option maxHeartbeats 4000000 in
set_option maxRecDepth 100000 in
theorem ct_X12_passes {E : zE} {s1 : Nat} {g : zM} {r : Int32 × zM} (hf : fX12_passes s1 g = some r) : zCt yX12_passes cX12_passes 2 (some .boolean) 6 0 E [.ref (E.1 + 493), .ref (E.2.2.2.1 s1)] g (.inl (some (.int r.1), r.2)) := by
  refine zmet (by decide) (zl rfl) (fun X hE hX hT hR hr hn => ?_)
  subst hE
  exact fX12_passes_ok hX hT hR hr hn  hf
def fX12_sign (v1 : Int32) (g : zM) : Option (Int32 × zM) := zb (fX12_blanks g) (fun g1 => zb (fX12_isAt v1 v1 g1) (fun r_2 => if r_2 = 0 then some (0, g1) else zput g1 493 10 ((g1 493 10) + 1) (fun g4 => some (1, g4))))
set_option maxHeartbeats 4000000 in
set_option maxRecDepth 100000 in
theorem fX12_sign_ok {X : zX} (hX : zCX X cX12_sign RX12) (hT : zNT X) (hR : X.2.2.2.1 = zrm 2 0) (hr : X.2.2.2.2.2.2.2.2.1.sig.returnType = (some .boolean)) (hn : X.2.2.2.2.2.2.2.2.2.1.maxLocals = 2) {v1 : Int32} {g : zM} {r : Int32 × zM} (hf : fX12_sign v1 g = some r) : zW X (zQ X (.inl (some (.int r.1), r.2)) 0) 0 0 0 [(0, .ref (zB X + 493)), (1, .int v1)] [] g := by
  unfold fX12_sign at hf
  refine z_aload_n hX dX12_sign_0 0 rfl ?_
  replace hf := zb_some hf
  obtain ⟨g1, h1, hf⟩ := hf
  refine z_callV0 hX ok_X12_blanks q1621 q1623 q36 (zrm_ok hR (by decide)) (ct_X12_blanks  h1) (zrec_Model hX zq_493) dX12_sign_1 rfl rfl ?_
  refine z_aload_n hX dX12_sign_4 0 rfl ?_
  refine z_iload_n hX dX12_sign_5 1 rfl ?_
  refine z_iload_n hX dX12_sign_6 1 rfl ?_
  replace hf := zb_some hf
  obtain ⟨r_2, h2, hf⟩ := hf
  refine z_callV1 hX ok_X12_isAt q1625 q1627 q37 (zrm_ok hR (by decide)) (ct_X12_isAt  h2) (zrec_Model hX zq_493) dX12_sign_7 rfl rfl ?_
  refine z_if_ne hX 15 dX12_sign_10 (by decide) (fun h3 => ?_) (fun h3 => ?_)
  · replace hf := zif_neg h3 hf
    refine z_aload_n hX dX12_sign_15 0 rfl ?_
    refine z_dup hX dX12_sign_16 rfl ?_
    refine gf_Model_point hX zq_493 q1504 dX12_sign_17 ?_
    refine z_iconst hX dX12_sign_20 ci_1 ?_
    refine z_iadd hX dX12_sign_21 ?_
    replace hf := zput_some hf
    obtain ⟨g4, eg4, hf⟩ := hf
    refine gp_Model_point hX zq_493 q1504 dX12_sign_22 (zW.eqg eg4 ?_)
    refine z_iconst hX dX12_sign_25 ci_1 ?_
    obtain rfl := Option.some.inj hf
    exact z_iret hX hr (zbn (Or.inr rfl)) (zl rfl) (zl rfl) dX12_sign_26
  · replace hf := zif_pos h3 hf
    refine z_iconst hX dX12_sign_13 ci_0 ?_
    obtain rfl := Option.some.inj hf
    exact z_iret hX hr (zbn (Or.inl rfl)) (zl rfl) (zl rfl) dX12_sign_14
set_option maxHeartbeats 4000000 in
set_option maxRecDepth 100000 in
theorem ct_X12_sign {E : zE} {v1 : Int32} {g : zM} {r : Int32 × zM} (hf : fX12_sign v1 g = some r) : zCt yX12_sign cX12_sign 2 (some .boolean) 2 0 E [.ref (E.1 + 493), .int v1] g (.inl (some (.int r.1), r.2)) := by
  refine zmet (by decide) (zl rfl) (fun X hE hX hT hR hr hn => ?_)
  subst hE
  exact fX12_sign_ok hX hT hR hr hn  hf
def fX12_number_L6 (v1 : Int32) (v2 : Int32) (k65 : Int32 → zM → Option (Int32 × zM)) : Nat → Int32 → zM → Option (Int32 × zM)
  | 0, _, _ => none
  | n + 1, v3, g => zb (fX12_isAt 48 57 g) (fun r_2 => if r_2 = 0 then k65 v3 g else if 3 ≤ ((g 493 10) - (g 493 12)) then zput g 493 10 ((g 493 10) + 1) (fun g5 => fX12_number_L6 v1 v2 k65 n v3 g5) else zchk (g 493 10) 400 (zput g 493 10 ((g 493 10) + 1) (fun g7 => fX12_number_L6 v1 v2 k65 n (((10 * v3) + (g 499 (g 493 10).toNatClampNeg)) - 48) g7)))
def fX12_number (v1 : Int32) (v2 : Int32) (g : zM) : Option (Int32 × zM) := zb (fX12_blanks g) (fun g1 => fX12_number_L6 v1 v2 (fun v3_8 g8 => if (g8 493 10) = (g8 493 12) then some ((-1), g8) else if 3 < ((g8 493 10) - (g8 493 12)) then some ((-1), g8) else if v3_8 < v1 then some ((-1), g8) else if v3_8 ≤ v2 then some (v3_8, g8) else some ((-1), g8)) zFU 0 g1)
set_option maxHeartbeats 4000000 in
set_option maxRecDepth 100000 in
theorem fX12_number_L6_ok {X : zX} (hX : zCX X cX12_number RX12) (hT : zNT X) (hR : X.2.2.2.1 = zrm 2 0) (hr : X.2.2.2.2.2.2.2.2.1.sig.returnType = (some .int)) (hn : X.2.2.2.2.2.2.2.2.2.1.maxLocals = 4) {v1 : Int32} {v2 : Int32} {k65 : Int32 → zM → Option (Int32 × zM)} {r : Int32 × zM} (hk65 : ∀ (v3 : Int32) (g : zM), k65 v3 g = some r → zW X (zQ X (.inl (some (.int r.1), r.2)) 0) 0 0 65 [(0, .ref (zB X + 493)), (1, .int v1), (2, .int v2), (3, .int v3)] [] g) : ∀ (n : Nat) (v3 : Int32) (g : zM), fX12_number_L6 v1 v2 k65 n v3 g = some r → zW X (zQ X (.inl (some (.int r.1), r.2)) 0) 0 0 6 [(0, .ref (zB X + 493)), (1, .int v1), (2, .int v2), (3, .int v3)] [] g := by
  intro n
  induction n with
  | zero => intro v3 g hf; exact zno hf
  | succ n ih =>
    intro v3 g hf
    rw [fX12_number_L6] at hf
    refine z_aload_n hX dX12_number_6 0 rfl ?_
    refine z_bipush hX dX12_number_7 cb_48 ?_
    refine z_bipush hX dX12_number_9 cb_57 ?_
    replace hf := zb_some hf
    obtain ⟨r_2, h2, hf⟩ := hf
    refine z_callV1 hX ok_X12_isAt q1625 q1627 q37 (zrm_ok hR (by decide)) (ct_X12_isAt  h2) (zrec_Model hX zq_493) dX12_number_11 rfl rfl ?_
    refine z_if_eq hX 65 dX12_number_14 (by decide) (fun h3 => ?_) (fun h3 => ?_)
    · replace hf := zif_pos h3 hf
      exact hk65 v3 g hf
    · replace hf := zif_neg h3 hf
      refine z_aload_n hX dX12_number_17 0 rfl ?_
      refine gf_Model_point hX zq_493 q1504 dX12_number_18 ?_
      refine z_aload_n hX dX12_number_21 0 rfl ?_
      refine gf_Model_begin hX zq_493 q1506 dX12_number_22 ?_
      refine z_isub hX dX12_number_25 ?_
      refine z_iconst hX dX12_number_26 ci_3 ?_
      refine z_icmp_ge hX 50 dX12_number_27 (by decide) (fun h4 => ?_) (fun h4 => ?_)
      · replace hf := zif_pos h4 hf
        refine z_iload_n hX dX12_number_50 3 rfl ?_
        refine z_istore_n (lv' := [(3, .int v3), (0, .ref (zB X + 493)), (1, .int v1), (2, .int v2)]) hX dX12_number_51 hn (by decide) rfl ?_
        refine z_aload_n hX dX12_number_52 1 rfl ?_
        refine z_dup hX dX12_number_53 rfl ?_
        refine gf_Model_point hX zq_493 q1504 dX12_number_54 ?_
        refine z_iconst hX dX12_number_57 ci_1 ?_
        refine z_iadd hX dX12_number_58 ?_
        replace hf := zput_some hf
        obtain ⟨g5, eg5, hf⟩ := hf
        refine gp_Model_point hX zq_493 q1504 dX12_number_59 (zW.eqg eg5 ?_)
        refine z_goto hX 6 dX12_number_62 (by decide) ?_
        refine zW.sub [1, 2, 3, 0] rfl ?_
        exact ih v3 g5 hf
      · replace hf := zif_neg h4 hf
        refine z_bipush hX dX12_number_30 cb_10 ?_
        refine z_iload_n hX dX12_number_32 3 rfl ?_
        refine z_imul hX dX12_number_33 ?_
        refine z_aload_n hX dX12_number_34 0 rfl ?_
        refine gf_Model_tape hX zq_493 q1502 dX12_number_35 ?_
        refine z_aload_n hX dX12_number_38 0 rfl ?_
        refine gf_Model_point hX zq_493 q1504 dX12_number_39 ?_
        replace hf := zchk_some hf
        obtain ⟨h6, hf⟩ := hf
        refine z_bald hX zq_499 h6 dX12_number_42 ?_
        refine z_iadd hX dX12_number_43 ?_
        refine z_bipush hX dX12_number_44 cb_48 ?_
        refine z_isub hX dX12_number_46 ?_
        refine z_goto hX 51 dX12_number_47 (by decide) ?_
        refine z_istore_n (lv' := [(3, .int (((10 * v3) + (g 499 (g 493 10).toNatClampNeg)) - 48)), (0, .ref (zB X + 493)), (1, .int v1), (2, .int v2)]) hX dX12_number_51 hn (by decide) rfl ?_
        refine z_aload_n hX dX12_number_52 1 rfl ?_
        refine z_dup hX dX12_number_53 rfl ?_
        refine gf_Model_point hX zq_493 q1504 dX12_number_54 ?_
        refine z_iconst hX dX12_number_57 ci_1 ?_
        refine z_iadd hX dX12_number_58 ?_
        replace hf := zput_some hf
        obtain ⟨g7, eg7, hf⟩ := hf
        refine gp_Model_point hX zq_493 q1504 dX12_number_59 (zW.eqg eg7 ?_)
        refine z_goto hX 6 dX12_number_62 (by decide) ?_
        refine zW.sub [1, 2, 3, 0] rfl ?_
        exact ih (((10 * v3) + (g 499 (g 493 10).toNatClampNeg)) - 48) g7 hf
set_option maxHeartbeats 4000000 in
set_option maxRecDepth 100000 in
theorem fX12_number_ok {X : zX} (hX : zCX X cX12_number RX12) (hT : zNT X) (hR : X.2.2.2.1 = zrm 2 0) (hr : X.2.2.2.2.2.2.2.2.1.sig.returnType = (some .int)) (hn : X.2.2.2.2.2.2.2.2.2.1.maxLocals = 4) {v1 : Int32} {v2 : Int32} {g : zM} {r : Int32 × zM} (hf : fX12_number v1 v2 g = some r) : zW X (zQ X (.inl (some (.int r.1), r.2)) 0) 0 0 0 [(0, .ref (zB X + 493)), (1, .int v1), (2, .int v2)] [] g := by
  unfold fX12_number at hf
  refine z_aload_n hX dX12_number_0 0 rfl ?_
  replace hf := zb_some hf
  obtain ⟨g1, h1, hf⟩ := hf
  refine z_callV0 hX ok_X12_blanks q1621 q1623 q36 (zrm_ok hR (by decide)) (ct_X12_blanks  h1) (zrec_Model hX zq_493) dX12_number_1 rfl rfl ?_
  refine z_iconst hX dX12_number_4 ci_0 ?_
  refine z_istore_n (lv' := [(3, .int 0), (0, .ref (zB X + 493)), (1, .int v1), (2, .int v2)]) hX dX12_number_5 hn (by decide) rfl ?_
  refine zW.sub [1, 2, 3, 0] rfl ?_
  refine fX12_number_L6_ok hX hT hR hr hn (fun v3_8 g8 hf => ?_) zFU 0 g1 hf
  · refine z_aload_n hX dX12_number_65 0 rfl ?_
    refine gf_Model_point hX zq_493 q1504 dX12_number_66 ?_
    refine z_aload_n hX dX12_number_69 0 rfl ?_
    refine gf_Model_begin hX zq_493 q1506 dX12_number_70 ?_
    refine z_icmp_eq hX 99 dX12_number_73 (by decide) (fun h9 => ?_) (fun h9 => ?_)
    · replace hf := zif_pos h9 hf
      refine z_iconst hX dX12_number_99 ci_m1 ?_
      refine z_goto hX 104 dX12_number_100 (by decide) ?_
      obtain rfl := Option.some.inj hf
      exact z_iret hX hr rfl (zl rfl) (zl rfl) dX12_number_104
    · replace hf := zif_neg h9 hf
      refine z_aload_n hX dX12_number_76 0 rfl ?_
      refine gf_Model_point hX zq_493 q1504 dX12_number_77 ?_
      refine z_aload_n hX dX12_number_80 0 rfl ?_
      refine gf_Model_begin hX zq_493 q1506 dX12_number_81 ?_
      refine z_isub hX dX12_number_84 ?_
      refine z_iconst hX dX12_number_85 ci_3 ?_
      refine z_icmp_gt hX 99 dX12_number_86 (by decide) (fun h10 => ?_) (fun h10 => ?_)
      · replace hf := zif_pos h10 hf
        refine z_iconst hX dX12_number_99 ci_m1 ?_
        refine z_goto hX 104 dX12_number_100 (by decide) ?_
        obtain rfl := Option.some.inj hf
        exact z_iret hX hr rfl (zl rfl) (zl rfl) dX12_number_104
      · replace hf := zif_neg h10 hf
        refine z_iload_n hX dX12_number_89 3 rfl ?_
        refine z_iload_n hX dX12_number_90 1 rfl ?_
        refine z_icmp_lt hX 99 dX12_number_91 (by decide) (fun h11 => ?_) (fun h11 => ?_)
        · replace hf := zif_pos h11 hf
          refine z_iconst hX dX12_number_99 ci_m1 ?_
          refine z_goto hX 104 dX12_number_100 (by decide) ?_
          obtain rfl := Option.some.inj hf
          exact z_iret hX hr rfl (zl rfl) (zl rfl) dX12_number_104
        · replace hf := zif_neg h11 hf
          refine z_iload_n hX dX12_number_94 3 rfl ?_
          refine z_iload_n hX dX12_number_95 2 rfl ?_
          refine z_icmp_le hX 103 dX12_number_96 (by decide) (fun h12 => ?_) (fun h12 => ?_)
          · replace hf := zif_pos h12 hf
            refine z_iload_n hX dX12_number_103 3 rfl ?_
            obtain rfl := Option.some.inj hf
            exact z_iret hX hr rfl (zl rfl) (zl rfl) dX12_number_104
          · replace hf := zif_neg h12 hf
            refine z_iconst hX dX12_number_99 ci_m1 ?_
            refine z_goto hX 104 dX12_number_100 (by decide) ?_
            obtain rfl := Option.some.inj hf
            exact z_iret hX hr rfl (zl rfl) (zl rfl) dX12_number_104
set_option maxHeartbeats 4000000 in
set_option maxRecDepth 100000 in
theorem ct_X12_number {E : zE} {v1 : Int32} {v2 : Int32} {g : zM} {r : Int32 × zM} (hf : fX12_number v1 v2 g = some r) : zCt yX12_number cX12_number 4 (some .int) 2 0 E [.ref (E.1 + 493), .int v1, .int v2] g (.inl (some (.int r.1), r.2)) := by
  refine zmet (by decide) (zl rfl) (fun X hE hX hT hR hr hn => ?_)
  subst hE
  exact fX12_number_ok hX hT hR hr hn  hf
def fX12_after (s1 : Nat) (v2 : Int32) (v3 : Int32) (g : zM) : Option (Int32 × zM) := zb (fX12_lettersPass g) (fun g1 => zb (fX12_isWord s1 g1) (fun r_2 => if r_2 = 0 then some ((-1), g1) else zb2 (fX12_number v2 v3 g1) (fun r_4 g4 => some (r_4, g4))))
set_option maxHeartbeats 4000000 in
set_option maxRecDepth 100000 in
theorem fX12_after_ok {X : zX} (hX : zCX X cX12_after RX12) (hT : zNT X) (hR : X.2.2.2.1 = zrm 6 0) (hr : X.2.2.2.2.2.2.2.2.1.sig.returnType = (some .int)) (hn : X.2.2.2.2.2.2.2.2.2.1.maxLocals = 4) {s1 : Nat} {v2 : Int32} {v3 : Int32} {g : zM} {r : Int32 × zM} (hf : fX12_after s1 v2 v3 g = some r) : zW X (zQ X (.inl (some (.int r.1), r.2)) 0) 0 0 0 [(0, .ref (zB X + 493)), (1, .ref ((zEE X).2.2.2.1 s1)), (2, .int v2), (3, .int v3)] [] g := by
  unfold fX12_after at hf
  refine z_aload_n hX dX12_after_0 0 rfl ?_
  replace hf := zb_some hf
  obtain ⟨g1, h1, hf⟩ := hf
  refine z_callV0 hX ok_X12_lettersPass q1633 q1635 q39 (zrm_ok hR (by decide)) (ct_X12_lettersPass  h1) (zrec_Model hX zq_493) dX12_after_1 rfl rfl ?_
  refine z_aload_n hX dX12_after_4 0 rfl ?_
  refine z_aload_n hX dX12_after_5 1 rfl ?_
  replace hf := zb_some hf
  obtain ⟨r_2, h2, hf⟩ := hf
  refine z_callV1 hX ok_X12_isWord q1642 q1644 q41 (zrm_ok hR (by decide)) (ct_X12_isWord  h2) (zrec_Model hX zq_493) dX12_after_6 rfl rfl ?_
  refine z_if_eq hX 21 dX12_after_9 (by decide) (fun h3 => ?_) (fun h3 => ?_)
  · replace hf := zif_pos h3 hf
    refine z_iconst hX dX12_after_21 ci_m1 ?_
    obtain rfl := Option.some.inj hf
    exact z_iret hX hr rfl (zl rfl) (zl rfl) dX12_after_22
  · replace hf := zif_neg h3 hf
    refine z_aload_n hX dX12_after_12 0 rfl ?_
    refine z_iload_n hX dX12_after_13 2 rfl ?_
    refine z_iload_n hX dX12_after_14 3 rfl ?_
    replace hf := zb2_some hf
    obtain ⟨r_4, g4, h4, hf⟩ := hf
    refine z_callV1 hX ok_X12_number q1661 q1663 q45 (zrm_ok hR (by decide)) (ct_X12_number  h4) (zrec_Model hX zq_493) dX12_after_15 rfl rfl ?_
    refine z_goto hX 22 dX12_after_18 (by decide) ?_
    obtain rfl := Option.some.inj hf
    exact z_iret hX hr rfl (zl rfl) (zl rfl) dX12_after_22
set_option maxHeartbeats 4000000 in
set_option maxRecDepth 100000 in
theorem ct_X12_after {E : zE} {s1 : Nat} {v2 : Int32} {v3 : Int32} {g : zM} {r : Int32 × zM} (hf : fX12_after s1 v2 v3 g = some r) : zCt yX12_after cX12_after 4 (some .int) 6 0 E [.ref (E.1 + 493), .ref (E.2.2.2.1 s1), .int v2, .int v3] g (.inl (some (.int r.1), r.2)) := by
  refine zmet (by decide) (zl rfl) (fun X hE hX hT hR hr hn => ?_)
  subst hE
  exact fX12_after_ok hX hT hR hr hn  hf
def fX12_kindBy (v0 : Int32) (g : zM) : Option Int32 := zb (fX12_in v0 97 108 g) (fun r_1 => if r_1 = 0 then some ((-1)) else some (v0 - 97))
set_option maxHeartbeats 4000000 in
set_option maxRecDepth 100000 in
theorem fX12_kindBy_ok {X : zX} (hX : zCX X cX12_kindBy RX12) (hT : zNT X) (hR : X.2.2.2.1 = zrm 1 0) (hr : X.2.2.2.2.2.2.2.2.1.sig.returnType = (some .int)) (hn : X.2.2.2.2.2.2.2.2.2.1.maxLocals = 1) {v0 : Int32} {g : zM} {r : Int32} (hf : fX12_kindBy v0 g = some r) : zW X (zQ X (.inl (some (.int r), g)) 0) 0 0 0 [(0, .int v0)] [] g := by
  unfold fX12_kindBy at hf
  refine z_iload_n hX dX12_kindBy_0 0 rfl ?_
  refine z_bipush hX dX12_kindBy_1 cb_97 ?_
  refine z_bipush hX dX12_kindBy_3 cb_108 ?_
  replace hf := zb_some hf
  obtain ⟨r_1, h1, hf⟩ := hf
  refine z_callS1 hX ok_X12_in rfl q1666 q1667 (zrm_ok hR (by decide)) (ct_X12_in  h1) dX12_kindBy_5 rfl rfl ?_
  refine z_if_eq hX 18 dX12_kindBy_8 (by decide) (fun h2 => ?_) (fun h2 => ?_)
  · replace hf := zif_pos h2 hf
    refine z_iconst hX dX12_kindBy_18 ci_m1 ?_
    obtain rfl := Option.some.inj hf
    exact z_iret hX hr rfl (zl rfl) (zl rfl) dX12_kindBy_19
  · replace hf := zif_neg h2 hf
    refine z_iload_n hX dX12_kindBy_11 0 rfl ?_
    refine z_bipush hX dX12_kindBy_12 cb_97 ?_
    refine z_isub hX dX12_kindBy_14 ?_
    refine z_goto hX 19 dX12_kindBy_15 (by decide) ?_
    obtain rfl := Option.some.inj hf
    exact z_iret hX hr rfl (zl rfl) (zl rfl) dX12_kindBy_19
set_option maxHeartbeats 4000000 in
set_option maxRecDepth 100000 in
theorem ct_X12_kindBy {E : zE} {v0 : Int32} {g : zM} {r : Int32} (hf : fX12_kindBy v0 g = some r) : zCt yX12_kindBy cX12_kindBy 1 (some .int) 1 0 E [.int v0] g (.inl (some (.int r), g)) := by
  refine zmet (by decide) (zl rfl) (fun X hE hX hT hR hr hn => ?_)
  subst hE
  exact fX12_kindBy_ok hX hT hR hr hn  hf
def fX12_kindTold (g : zM) : Option Int32 := if ((g 493 10) - (g 493 12)) = 1 then zchk (g 493 12) 400 (zb (fX12_kindBy (g 499 (g 493 12).toNatClampNeg) g) (fun r_3 => some r_3)) else some ((-1))
set_option maxHeartbeats 4000000 in
set_option maxRecDepth 100000 in
theorem fX12_kindTold_ok {X : zX} (hX : zCX X cX12_kindTold RX12) (hT : zNT X) (hR : X.2.2.2.1 = zrm 2 0) (hr : X.2.2.2.2.2.2.2.2.1.sig.returnType = (some .int)) (hn : X.2.2.2.2.2.2.2.2.2.1.maxLocals = 1)  {g : zM} {r : Int32} (hf : fX12_kindTold g = some r) : zW X (zQ X (.inl (some (.int r), g)) 0) 0 0 0 [(0, .ref (zB X + 493))] [] g := by
  unfold fX12_kindTold at hf
  refine z_aload_n hX dX12_kindTold_0 0 rfl ?_
  refine gf_Model_point hX zq_493 q1504 dX12_kindTold_1 ?_
  refine z_aload_n hX dX12_kindTold_4 0 rfl ?_
  refine gf_Model_begin hX zq_493 q1506 dX12_kindTold_5 ?_
  refine z_isub hX dX12_kindTold_8 ?_
  refine z_iconst hX dX12_kindTold_9 ci_1 ?_
  refine z_icmp_ne hX 28 dX12_kindTold_10 (by decide) (fun h1 => ?_) (fun h1 => ?_)
  · replace hf := zif_neg h1 hf
    refine z_iconst hX dX12_kindTold_28 ci_m1 ?_
    obtain rfl := Option.some.inj hf
    exact z_iret hX hr rfl (zl rfl) (zl rfl) dX12_kindTold_29
  · replace hf := zif_pos h1 hf
    refine z_aload_n hX dX12_kindTold_13 0 rfl ?_
    refine gf_Model_tape hX zq_493 q1502 dX12_kindTold_14 ?_
    refine z_aload_n hX dX12_kindTold_17 0 rfl ?_
    refine gf_Model_begin hX zq_493 q1506 dX12_kindTold_18 ?_
    replace hf := zchk_some hf
    obtain ⟨h2, hf⟩ := hf
    refine z_bald hX zq_499 h2 dX12_kindTold_21 ?_
    replace hf := zb_some hf
    obtain ⟨r_3, h3, hf⟩ := hf
    refine z_callS1 hX ok_X12_kindBy rfl q1676 q1677 (zrm_ok hR (by decide)) (ct_X12_kindBy  h3) dX12_kindTold_22 rfl rfl ?_
    refine z_goto hX 29 dX12_kindTold_25 (by decide) ?_
    obtain rfl := Option.some.inj hf
    exact z_iret hX hr rfl (zl rfl) (zl rfl) dX12_kindTold_29
set_option maxHeartbeats 4000000 in
set_option maxRecDepth 100000 in
theorem ct_X12_kindTold {E : zE} {g : zM} {r : Int32} (hf : fX12_kindTold g = some r) : zCt yX12_kindTold cX12_kindTold 1 (some .int) 2 0 E [.ref (E.1 + 493)] g (.inl (some (.int r), g)) := by
  refine zmet (by decide) (zl rfl) (fun X hE hX hT hR hr hn => ?_)
  subst hE
  exact fX12_kindTold_ok hX hT hR hr hn  hf
def fX12_kindNext (g : zM) : Option (Int32 × zM) := zb (fX12_lettersPass g) (fun g1 => zb (fX12_kindTold g1) (fun r_2 => some (r_2, g1)))
set_option maxHeartbeats 4000000 in
set_option maxRecDepth 100000 in
theorem fX12_kindNext_ok {X : zX} (hX : zCX X cX12_kindNext RX12) (hT : zNT X) (hR : X.2.2.2.1 = zrm 3 0) (hr : X.2.2.2.2.2.2.2.2.1.sig.returnType = (some .int)) (hn : X.2.2.2.2.2.2.2.2.2.1.maxLocals = 1)  {g : zM} {r : Int32 × zM} (hf : fX12_kindNext g = some r) : zW X (zQ X (.inl (some (.int r.1), r.2)) 0) 0 0 0 [(0, .ref (zB X + 493))] [] g := by
  unfold fX12_kindNext at hf
  refine z_aload_n hX dX12_kindNext_0 0 rfl ?_
  replace hf := zb_some hf
  obtain ⟨g1, h1, hf⟩ := hf
  refine z_callV0 hX ok_X12_lettersPass q1633 q1635 q39 (zrm_ok hR (by decide)) (ct_X12_lettersPass  h1) (zrec_Model hX zq_493) dX12_kindNext_1 rfl rfl ?_
  refine z_aload_n hX dX12_kindNext_4 0 rfl ?_
  replace hf := zb_some hf
  obtain ⟨r_2, h2, hf⟩ := hf
  refine z_callV1 hX ok_X12_kindTold q1700 q1702 q52 (zrm_ok hR (by decide)) (ct_X12_kindTold  h2) (zrec_Model hX zq_493) dX12_kindNext_5 rfl rfl ?_
  obtain rfl := Option.some.inj hf
  exact z_iret hX hr rfl (zl rfl) (zl rfl) dX12_kindNext_8
set_option maxHeartbeats 4000000 in
set_option maxRecDepth 100000 in
theorem ct_X12_kindNext {E : zE} {g : zM} {r : Int32 × zM} (hf : fX12_kindNext g = some r) : zCt yX12_kindNext cX12_kindNext 1 (some .int) 3 0 E [.ref (E.1 + 493)] g (.inl (some (.int r.1), r.2)) := by
  refine zmet (by decide) (zl rfl) (fun X hE hX hT hR hr hn => ?_)
  subst hE
  exact fX12_kindNext_ok hX hT hR hr hn  hf
def fX12_fault (g : zM) : Option (Int32 × zM) := zput g 493 0 0 (fun g1 => some (g1 493 14, g1))
set_option maxHeartbeats 4000000 in
set_option maxRecDepth 100000 in
theorem fX12_fault_ok {X : zX} (hX : zCX X cX12_fault RX12) (hT : zNT X) (hR : X.2.2.2.1 = zrm 0 0) (hr : X.2.2.2.2.2.2.2.2.1.sig.returnType = (some .int)) (hn : X.2.2.2.2.2.2.2.2.2.1.maxLocals = 1)  {g : zM} {r : Int32 × zM} (hf : fX12_fault g = some r) : zW X (zQ X (.inl (some (.int r.1), r.2)) 0) 0 0 0 [(0, .ref (zB X + 493))] [] g := by
  unfold fX12_fault at hf
  refine z_aload_n hX dX12_fault_0 0 rfl ?_
  refine z_iconst hX dX12_fault_1 ci_0 ?_
  replace hf := zput_some hf
  obtain ⟨g1, eg1, hf⟩ := hf
  refine gp_Model_thrown hX zq_493 q1494 dX12_fault_2 (zW.eqg eg1 ?_)
  refine z_aload_n hX dX12_fault_5 0 rfl ?_
  refine gf_Model_faultAt hX zq_493 q1508 dX12_fault_6 ?_
  obtain rfl := Option.some.inj hf
  exact z_iret hX hr rfl (zl rfl) (zl rfl) dX12_fault_9
set_option maxHeartbeats 4000000 in
set_option maxRecDepth 100000 in
theorem ct_X12_fault {E : zE} {g : zM} {r : Int32 × zM} (hf : fX12_fault g = some r) : zCt yX12_fault cX12_fault 1 (some .int) 0 0 E [.ref (E.1 + 493)] g (.inl (some (.int r.1), r.2)) := by
  refine zmet (by decide) (zl rfl) (fun X hE hX hT hR hr hn => ?_)
  subst hE
  exact fX12_fault_ok hX hT hR hr hn  hf
def fX12_uses (g : zM) : Option zM := zput g 493 0 0 (fun g1 => zput g1 493 11 (g1 493 9) (fun g2 => zput g2 493 9 0 (fun g3 => zput g3 493 10 0 (fun g4 => some g4))))
set_option maxHeartbeats 4000000 in
set_option maxRecDepth 100000 in
theorem fX12_uses_ok {X : zX} (hX : zCX X cX12_uses RX12) (hT : zNT X) (hR : X.2.2.2.1 = zrm 0 0) (hr : X.2.2.2.2.2.2.2.2.1.sig.returnType = none) (hn : X.2.2.2.2.2.2.2.2.2.1.maxLocals = 1)  {g : zM} {r : zM} (hf : fX12_uses g = some r) : zW X (zQ X (.inl (none, r)) 0) 0 0 0 [(0, .ref (zB X + 493))] [] g := by
  unfold fX12_uses at hf
  refine z_aload_n hX dX12_uses_0 0 rfl ?_
  refine z_iconst hX dX12_uses_1 ci_0 ?_
  replace hf := zput_some hf
  obtain ⟨g1, eg1, hf⟩ := hf
  refine gp_Model_thrown hX zq_493 q1494 dX12_uses_2 (zW.eqg eg1 ?_)
  refine z_aload_n hX dX12_uses_5 0 rfl ?_
  refine z_aload_n hX dX12_uses_6 0 rfl ?_
  refine gf_Model_taped hX zq_493 q1503 dX12_uses_7 ?_
  replace hf := zput_some hf
  obtain ⟨g2, eg2, hf⟩ := hf
  refine gp_Model_end hX zq_493 q1505 dX12_uses_10 (zW.eqg eg2 ?_)
  refine z_aload_n hX dX12_uses_13 0 rfl ?_
  refine z_iconst hX dX12_uses_14 ci_0 ?_
  replace hf := zput_some hf
  obtain ⟨g3, eg3, hf⟩ := hf
  refine gp_Model_taped hX zq_493 q1503 dX12_uses_15 (zW.eqg eg3 ?_)
  refine z_aload_n hX dX12_uses_18 0 rfl ?_
  refine z_iconst hX dX12_uses_19 ci_0 ?_
  replace hf := zput_some hf
  obtain ⟨g4, eg4, hf⟩ := hf
  refine gp_Model_point hX zq_493 q1504 dX12_uses_20 (zW.eqg eg4 ?_)
  obtain rfl := Option.some.inj hf
  exact z_vret hX hr (zl rfl) (zl rfl) dX12_uses_23
set_option maxHeartbeats 4000000 in
set_option maxRecDepth 100000 in
theorem ct_X12_uses {E : zE} {g : zM} {r : zM} (hf : fX12_uses g = some r) : zCt yX12_uses cX12_uses 1 none 0 0 E [.ref (E.1 + 493)] g (.inl (none, r)) := by
  refine zmet (by decide) (zl rfl) (fun X hE hX hT hR hr hn => ?_)
  subst hE
  exact fX12_uses_ok hX hT hR hr hn  hf
def fX12_begins_L8 (v1 : Int32) (v2 : Int32) (v3 : Int32) (k33 : zM → Option (Int32 × zM)) : Nat → Int32 → zM → Option (Int32 × zM)
  | 0, _, _ => none
  | n + 1, v4, g => if 53 ≤ v4 then k33 g else zb (fX12_at v3 v4 g) (fun r_3 => zchk r_3 2158 (zput g 494 r_3.toNatClampNeg 0 (fun g5 => fX12_begins_L8 v1 v2 v3 k33 n (v4 + 1) g5)))
def fX12_begins (v1 : Int32) (v2 : Int32) (g : zM) : Option (Int32 × zM) := zb (fX12_letters g) (fun r_1 => fX12_begins_L8 v1 v2 r_1 (fun g6 => zb (fX12_at r_1 2 g6) (fun r_7 => zchk r_7 2158 (zput g6 494 r_7.toNatClampNeg v1 (fun g9 => zb (fX12_at r_1 1 g9) (fun r_10 => zchk r_10 2158 (zput g9 494 r_10.toNatClampNeg v2 (fun g12 => zchk 0 2158 (zchk 0 2158 (zput g12 494 (0 : Int32).toNatClampNeg ((g12 494 (0 : Int32).toNatClampNeg) + 1) (fun g15 => some (r_1, g15))))))))))) zFU 0 g)
set_option maxHeartbeats 4000000 in
set_option maxRecDepth 100000 in
theorem fX12_begins_L8_ok {X : zX} (hX : zCX X cX12_begins RX12) (hT : zNT X) (hR : X.2.2.2.1 = zrm 1 0) (hr : X.2.2.2.2.2.2.2.2.1.sig.returnType = (some .int)) (hn : X.2.2.2.2.2.2.2.2.2.1.maxLocals = 5) {v1 : Int32} {v2 : Int32} {v3 : Int32} {k33 : zM → Option (Int32 × zM)} {r : Int32 × zM} (hk33 : ∀ (g : zM), k33 g = some r → zW X (zQ X (.inl (some (.int r.1), r.2)) 0) 0 0 33 [(0, .ref (zB X + 493)), (1, .int v1), (2, .int v2), (3, .int v3)] [] g) : ∀ (n : Nat) (v4 : Int32) (g : zM), fX12_begins_L8 v1 v2 v3 k33 n v4 g = some r → zW X (zQ X (.inl (some (.int r.1), r.2)) 0) 0 0 8 [(0, .ref (zB X + 493)), (1, .int v1), (2, .int v2), (3, .int v3), (4, .int v4)] [] g := by
  intro n
  induction n with
  | zero => intro v4 g hf; exact zno hf
  | succ n ih =>
    intro v4 g hf
    rw [fX12_begins_L8] at hf
    refine z_iload hX dX12_begins_8 4 rfl ?_
    refine z_bipush hX dX12_begins_10 cb_53 ?_
    refine z_icmp_ge hX 33 dX12_begins_12 (by decide) (fun h2 => ?_) (fun h2 => ?_)
    · replace hf := zif_pos h2 hf
      refine zW.sub [0, 1, 2, 3] rfl ?_
      exact hk33 g hf
    · replace hf := zif_neg h2 hf
      refine z_aload_n hX dX12_begins_15 0 rfl ?_
      refine gf_Model_world hX zq_493 q1495 dX12_begins_16 ?_
      refine z_iload_n hX dX12_begins_19 3 rfl ?_
      refine z_iload hX dX12_begins_20 4 rfl ?_
      replace hf := zb_some hf
      obtain ⟨r_3, h3, hf⟩ := hf
      refine z_callS1 hX ok_X12_at rfl q1673 q1674 (zrm_ok hR (by decide)) (ct_X12_at  h3) dX12_begins_22 rfl rfl ?_
      refine z_iconst hX dX12_begins_25 ci_0 ?_
      replace hf := zchk_some hf
      obtain ⟨h4, hf⟩ := hf
      replace hf := zput_some hf
      obtain ⟨g5, eg5, hf⟩ := hf
      refine z_iast hX zq_494 (by decide) (zc_3158 _ _) h4 dX12_begins_26 (zW.eqg eg5 ?_)
      refine z_iincc (lv' := [(4, .int (v4 + 1)), (0, .ref (zB X + 493)), (1, .int v1), (2, .int v2), (3, .int v3)]) hX dX12_begins_27 hn (by decide) 4 rfl ci_1 rfl ?_
      refine z_goto hX 8 dX12_begins_30 (by decide) ?_
      refine zW.sub [1, 2, 3, 4, 0] rfl ?_
      exact ih (v4 + 1) g5 hf
set_option maxHeartbeats 4000000 in
set_option maxRecDepth 100000 in
theorem fX12_begins_ok {X : zX} (hX : zCX X cX12_begins RX12) (hT : zNT X) (hR : X.2.2.2.1 = zrm 1 0) (hr : X.2.2.2.2.2.2.2.2.1.sig.returnType = (some .int)) (hn : X.2.2.2.2.2.2.2.2.2.1.maxLocals = 5) {v1 : Int32} {v2 : Int32} {g : zM} {r : Int32 × zM} (hf : fX12_begins v1 v2 g = some r) : zW X (zQ X (.inl (some (.int r.1), r.2)) 0) 0 0 0 [(0, .ref (zB X + 493)), (1, .int v1), (2, .int v2)] [] g := by
  unfold fX12_begins at hf
  refine z_aload_n hX dX12_begins_0 0 rfl ?_
  replace hf := zb_some hf
  obtain ⟨r_1, h1, hf⟩ := hf
  refine z_callV1 hX ok_X12_letters q1652 q1654 q43 (zrm_ok hR (by decide)) (ct_X12_letters  h1) (zrec_Model hX zq_493) dX12_begins_1 rfl rfl ?_
  refine z_istore_n (lv' := [(3, .int r_1), (0, .ref (zB X + 493)), (1, .int v1), (2, .int v2)]) hX dX12_begins_4 hn (by decide) rfl ?_
  refine z_iconst hX dX12_begins_5 ci_0 ?_
  refine z_istore (lv' := [(4, .int 0), (3, .int r_1), (0, .ref (zB X + 493)), (1, .int v1), (2, .int v2)]) hX dX12_begins_6 hn (by decide) rfl ?_
  refine zW.sub [2, 3, 4, 1, 0] rfl ?_
  refine fX12_begins_L8_ok hX hT hR hr hn (fun g6 hf => ?_) zFU 0 g hf
  · refine z_aload_n hX dX12_begins_33 0 rfl ?_
    refine gf_Model_world hX zq_493 q1495 dX12_begins_34 ?_
    refine z_iload_n hX dX12_begins_37 3 rfl ?_
    refine z_iconst hX dX12_begins_38 ci_2 ?_
    replace hf := zb_some hf
    obtain ⟨r_7, h7, hf⟩ := hf
    refine z_callS1 hX ok_X12_at rfl q1673 q1674 (zrm_ok hR (by decide)) (ct_X12_at  h7) dX12_begins_39 rfl rfl ?_
    refine z_iload_n hX dX12_begins_42 1 rfl ?_
    replace hf := zchk_some hf
    obtain ⟨h8, hf⟩ := hf
    replace hf := zput_some hf
    obtain ⟨g9, eg9, hf⟩ := hf
    refine z_iast hX zq_494 (by decide) (zc_3158 _ _) h8 dX12_begins_43 (zW.eqg eg9 ?_)
    refine z_aload_n hX dX12_begins_44 0 rfl ?_
    refine gf_Model_world hX zq_493 q1495 dX12_begins_45 ?_
    refine z_iload_n hX dX12_begins_48 3 rfl ?_
    refine z_iconst hX dX12_begins_49 ci_1 ?_
    replace hf := zb_some hf
    obtain ⟨r_10, h10, hf⟩ := hf
    refine z_callS1 hX ok_X12_at rfl q1673 q1674 (zrm_ok hR (by decide)) (ct_X12_at  h10) dX12_begins_50 rfl rfl ?_
    refine z_iload_n hX dX12_begins_53 2 rfl ?_
    replace hf := zchk_some hf
    obtain ⟨h11, hf⟩ := hf
    replace hf := zput_some hf
    obtain ⟨g12, eg12, hf⟩ := hf
    refine z_iast hX zq_494 (by decide) (zc_3158 _ _) h11 dX12_begins_54 (zW.eqg eg12 ?_)
    refine z_aload_n hX dX12_begins_55 0 rfl ?_
    refine gf_Model_world hX zq_493 q1495 dX12_begins_56 ?_
    refine z_iconst hX dX12_begins_59 ci_0 ?_
    refine z_dup2 hX dX12_begins_60 rfl rfl ?_
    replace hf := zchk_some hf
    obtain ⟨h13, hf⟩ := hf
    refine z_iald hX zq_494 (by decide) (zc_3158 _ _ _) h13 dX12_begins_61 ?_
    refine z_iconst hX dX12_begins_62 ci_1 ?_
    refine z_iadd hX dX12_begins_63 ?_
    replace hf := zchk_some hf
    obtain ⟨h14, hf⟩ := hf
    replace hf := zput_some hf
    obtain ⟨g15, eg15, hf⟩ := hf
    refine z_iast hX zq_494 (by decide) (zc_3158 _ _) h14 dX12_begins_64 (zW.eqg eg15 ?_)
    refine z_iload_n hX dX12_begins_65 3 rfl ?_
    obtain rfl := Option.some.inj hf
    exact z_iret hX hr rfl (zl rfl) (zl rfl) dX12_begins_66
set_option maxHeartbeats 4000000 in
set_option maxRecDepth 100000 in
theorem ct_X12_begins {E : zE} {v1 : Int32} {v2 : Int32} {g : zM} {r : Int32 × zM} (hf : fX12_begins v1 v2 g = some r) : zCt yX12_begins cX12_begins 5 (some .int) 1 0 E [.ref (E.1 + 493), .int v1, .int v2] g (.inl (some (.int r.1), r.2)) := by
  refine zmet (by decide) (zl rfl) (fun X hE hX hT hR hr hn => ?_)
  subst hE
  exact fX12_begins_ok hX hT hR hr hn  hf
def fX12_comes (v1 : Int32) (v2 : Int32) (g : zM) : Option zM := zb (fX12_lines v1 g) (fun r_1 => zb (fX12_at v1 (5 + r_1) g) (fun r_2 => zchk r_2 2158 (zput g 494 r_2.toNatClampNeg v2 (fun g4 => zb (fX12_at v1 (29 + r_1) g4) (fun r_5 => zchk 4 2158 (zchk r_5 2158 (zput g4 494 r_5.toNatClampNeg (g4 494 (4 : Int32).toNatClampNeg) (fun g8 => zb (fX12_at v1 0 g8) (fun r_9 => zchk r_9 2158 (zchk r_9 2158 (zput g8 494 r_9.toNatClampNeg ((g8 494 r_9.toNatClampNeg) + 1) (fun g12 => some g12))))))))))))
set_option maxHeartbeats 4000000 in
set_option maxRecDepth 100000 in
theorem fX12_comes_ok {X : zX} (hX : zCX X cX12_comes RX12) (hT : zNT X) (hR : X.2.2.2.1 = zrm 3 0) (hr : X.2.2.2.2.2.2.2.2.1.sig.returnType = none) (hn : X.2.2.2.2.2.2.2.2.2.1.maxLocals = 4) {v1 : Int32} {v2 : Int32} {g : zM} {r : zM} (hf : fX12_comes v1 v2 g = some r) : zW X (zQ X (.inl (none, r)) 0) 0 0 0 [(0, .ref (zB X + 493)), (1, .int v1), (2, .int v2)] [] g := by
  unfold fX12_comes at hf
  refine z_aload_n hX dX12_comes_0 0 rfl ?_
  refine z_iload_n hX dX12_comes_1 1 rfl ?_
  replace hf := zb_some hf
  obtain ⟨r_1, h1, hf⟩ := hf
  refine z_callV1 hX ok_X12_lines q1683 q1685 q48 (zrm_ok hR (by decide)) (ct_X12_lines  h1) (zrec_Model hX zq_493) dX12_comes_2 rfl rfl ?_
  refine z_istore_n (lv' := [(3, .int r_1), (0, .ref (zB X + 493)), (1, .int v1), (2, .int v2)]) hX dX12_comes_5 hn (by decide) rfl ?_
  refine z_aload_n hX dX12_comes_6 1 rfl ?_
  refine gf_Model_world hX zq_493 q1495 dX12_comes_7 ?_
  refine z_iload_n hX dX12_comes_10 2 rfl ?_
  refine z_iconst hX dX12_comes_11 ci_5 ?_
  refine z_iload_n hX dX12_comes_12 0 rfl ?_
  refine z_iadd hX dX12_comes_13 ?_
  replace hf := zb_some hf
  obtain ⟨r_2, h2, hf⟩ := hf
  refine z_callS1 hX ok_X12_at rfl q1673 q1674 (zrm_ok hR (by decide)) (ct_X12_at  h2) dX12_comes_14 rfl rfl ?_
  refine z_iload_n hX dX12_comes_17 3 rfl ?_
  replace hf := zchk_some hf
  obtain ⟨h3, hf⟩ := hf
  replace hf := zput_some hf
  obtain ⟨g4, eg4, hf⟩ := hf
  refine z_iast hX zq_494 (by decide) (zc_3158 _ _) h3 dX12_comes_18 (zW.eqg eg4 ?_)
  refine z_aload_n hX dX12_comes_19 1 rfl ?_
  refine gf_Model_world hX zq_493 q1495 dX12_comes_20 ?_
  refine z_iload_n hX dX12_comes_23 2 rfl ?_
  refine z_bipush hX dX12_comes_24 cb_29 ?_
  refine z_iload_n hX dX12_comes_26 0 rfl ?_
  refine z_iadd hX dX12_comes_27 ?_
  replace hf := zb_some hf
  obtain ⟨r_5, h5, hf⟩ := hf
  refine z_callS1 hX ok_X12_at rfl q1673 q1674 (zrm_ok hR (by decide)) (ct_X12_at  h5) dX12_comes_28 rfl rfl ?_
  refine z_aload_n hX dX12_comes_31 1 rfl ?_
  refine gf_Model_world hX zq_493 q1495 dX12_comes_32 ?_
  refine z_iconst hX dX12_comes_35 ci_4 ?_
  replace hf := zchk_some hf
  obtain ⟨h6, hf⟩ := hf
  refine z_iald hX zq_494 (by decide) (zc_3158 _ _ _) h6 dX12_comes_36 ?_
  replace hf := zchk_some hf
  obtain ⟨h7, hf⟩ := hf
  replace hf := zput_some hf
  obtain ⟨g8, eg8, hf⟩ := hf
  refine z_iast hX zq_494 (by decide) (zc_3158 _ _) h7 dX12_comes_37 (zW.eqg eg8 ?_)
  refine z_aload_n hX dX12_comes_38 1 rfl ?_
  refine gf_Model_world hX zq_493 q1495 dX12_comes_39 ?_
  refine z_iload_n hX dX12_comes_42 2 rfl ?_
  refine z_iconst hX dX12_comes_43 ci_0 ?_
  replace hf := zb_some hf
  obtain ⟨r_9, h9, hf⟩ := hf
  refine z_callS1 hX ok_X12_at rfl q1673 q1674 (zrm_ok hR (by decide)) (ct_X12_at  h9) dX12_comes_44 rfl rfl ?_
  refine z_dup2 hX dX12_comes_47 rfl rfl ?_
  replace hf := zchk_some hf
  obtain ⟨h10, hf⟩ := hf
  refine z_iald hX zq_494 (by decide) (zc_3158 _ _ _) h10 dX12_comes_48 ?_
  refine z_iconst hX dX12_comes_49 ci_1 ?_
  refine z_iadd hX dX12_comes_50 ?_
  replace hf := zchk_some hf
  obtain ⟨h11, hf⟩ := hf
  replace hf := zput_some hf
  obtain ⟨g12, eg12, hf⟩ := hf
  refine z_iast hX zq_494 (by decide) (zc_3158 _ _) h11 dX12_comes_51 (zW.eqg eg12 ?_)
  obtain rfl := Option.some.inj hf
  exact z_vret hX hr (zl rfl) (zl rfl) dX12_comes_52
set_option maxHeartbeats 4000000 in
set_option maxRecDepth 100000 in
theorem ct_X12_comes {E : zE} {v1 : Int32} {v2 : Int32} {g : zM} {r : zM} (hf : fX12_comes v1 v2 g = some r) : zCt yX12_comes cX12_comes 4 none 3 0 E [.ref (E.1 + 493), .int v1, .int v2] g (.inl (none, r)) := by
  refine zmet (by decide) (zl rfl) (fun X hE hX hT hR hr hn => ?_)
  subst hE
  exact fX12_comes_ok hX hT hR hr hn  hf
def fX12_readLetter_L82 (v3 : Int32) : Nat → Int32 → zM → Option (Int32 × zM)
  | 0, _, _ => none
  | n + 1, v4, g => if (g 493 10) ≤ v4 then some (1, g) else zchk v4 400 (zb (fX12_kindBy (g 499 v4.toNatClampNeg) g) (fun r_12 => if 0 ≤ r_12 then zchk v4 400 (zb (fX12_kindBy (g 499 v4.toNatClampNeg) g) (fun r_15 => zb (fX12_comes v3 r_15 g) (fun g16 => fX12_readLetter_L82 v3 n (v4 + 1) g16))) else some (0, g)))
def fX12_readLetter (g : zM) : Option (Int32 × zM) := zb (fX12_letters g) (fun r_1 => if r_1 = 8 then some (0, g) else zb2 (fX12_after 21 0 9 g) (fun r_3 g3 => zjoin (fun t0_4 g4 => if 0 ≤ t0_4 then zb (fX12_lettersPass g4) (fun g6 => zb (fX12_in ((g6 493 10) - (g6 493 12)) 1 24 g6) (fun r_7 => if r_7 = 0 then some (0, g6) else zb2 (fX12_begins r_3 t0_4 g6) (fun r_9 g9 => fX12_readLetter_L82 r_9 zFU (g9 493 12) g9))) else some (0, g4) : Int32 → zM → Option (Int32 × zM)) (fun k38 => if 0 ≤ r_3 then zb2 (fX12_after 22 0 9 g3) (fun r_18 g18 => k38 r_18 g18) else k38 ((-1)) g3)))
set_option maxHeartbeats 4000000 in
set_option maxRecDepth 100000 in
theorem fX12_readLetter_L82_ok {X : zX} (hX : zCX X cX12_readLetter RX12) (hT : zNT X) (hR : X.2.2.2.1 = zrm 7 0) (hr : X.2.2.2.2.2.2.2.2.1.sig.returnType = (some .boolean)) (hn : X.2.2.2.2.2.2.2.2.2.1.maxLocals = 5) {v3 : Int32} {r : Int32 × zM}  : ∀ (n : Nat) (v4 : Int32) (g : zM), fX12_readLetter_L82 v3 n v4 g = some r → zW X (zQ X (.inl (some (.int r.1), r.2)) 0) 0 0 82 [(0, .ref (zB X + 493)), (3, .int v3), (4, .int v4)] [] g := by
  intro n
  induction n with
  | zero => intro v4 g hf; exact zno hf
  | succ n ih =>
    intro v4 g hf
    rw [fX12_readLetter_L82] at hf
    refine z_iload hX dX12_readLetter_82 2 rfl ?_
    refine z_aload_n hX dX12_readLetter_84 0 rfl ?_
    refine gf_Model_point hX zq_493 q1504 dX12_readLetter_85 ?_
    refine z_icmp_ge hX 127 dX12_readLetter_88 (by decide) (fun h10 => ?_) (fun h10 => ?_)
    · replace hf := zif_pos h10 hf
      refine z_iconst hX dX12_readLetter_127 ci_1 ?_
      obtain rfl := Option.some.inj hf
      exact z_iret hX hr (zbn (Or.inr rfl)) (zl rfl) (zl rfl) dX12_readLetter_128
    · replace hf := zif_neg h10 hf
      refine z_aload_n hX dX12_readLetter_91 0 rfl ?_
      refine gf_Model_tape hX zq_493 q1502 dX12_readLetter_92 ?_
      refine z_iload hX dX12_readLetter_95 2 rfl ?_
      replace hf := zchk_some hf
      obtain ⟨h11, hf⟩ := hf
      refine z_bald hX zq_499 h11 dX12_readLetter_97 ?_
      replace hf := zb_some hf
      obtain ⟨r_12, h12, hf⟩ := hf
      refine z_callS1 hX ok_X12_kindBy rfl q1676 q1677 (zrm_ok hR (by decide)) (ct_X12_kindBy  h12) dX12_readLetter_98 rfl rfl ?_
      refine z_if_ge hX 106 dX12_readLetter_101 (by decide) (fun h13 => ?_) (fun h13 => ?_)
      · replace hf := zif_pos h13 hf
        refine z_aload_n hX dX12_readLetter_106 0 rfl ?_
        refine z_iload_n hX dX12_readLetter_107 1 rfl ?_
        refine z_aload_n hX dX12_readLetter_108 0 rfl ?_
        refine gf_Model_tape hX zq_493 q1502 dX12_readLetter_109 ?_
        refine z_iload hX dX12_readLetter_112 2 rfl ?_
        replace hf := zchk_some hf
        obtain ⟨h14, hf⟩ := hf
        refine z_bald hX zq_499 h14 dX12_readLetter_114 ?_
        replace hf := zb_some hf
        obtain ⟨r_15, h15, hf⟩ := hf
        refine z_callS1 hX ok_X12_kindBy rfl q1676 q1677 (zrm_ok hR (by decide)) (ct_X12_kindBy  h15) dX12_readLetter_115 rfl rfl ?_
        replace hf := zb_some hf
        obtain ⟨g16, h16, hf⟩ := hf
        refine z_callV0 hX ok_X12_comes q1679 q1681 q47 (zrm_ok hR (by decide)) (ct_X12_comes  h16) (zrec_Model hX zq_493) dX12_readLetter_118 rfl rfl ?_
        refine z_iincc (lv' := [(4, .int (v4 + 1)), (0, .ref (zB X + 493)), (3, .int v3)]) hX dX12_readLetter_121 hn (by decide) 2 rfl ci_1 rfl ?_
        refine z_goto hX 82 dX12_readLetter_124 (by decide) ?_
        refine zW.sub [1, 2, 0] rfl ?_
        exact ih (v4 + 1) g16 hf
      · replace hf := zif_neg h13 hf
        refine z_iconst hX dX12_readLetter_104 ci_0 ?_
        obtain rfl := Option.some.inj hf
        exact z_iret hX hr (zbn (Or.inl rfl)) (zl rfl) (zl rfl) dX12_readLetter_105
set_option maxHeartbeats 4000000 in
set_option maxRecDepth 100000 in
theorem fX12_readLetter_ok {X : zX} (hX : zCX X cX12_readLetter RX12) (hT : zNT X) (hR : X.2.2.2.1 = zrm 7 0) (hr : X.2.2.2.2.2.2.2.2.1.sig.returnType = (some .boolean)) (hn : X.2.2.2.2.2.2.2.2.2.1.maxLocals = 5)  {g : zM} {r : Int32 × zM} (hf : fX12_readLetter g = some r) : zW X (zQ X (.inl (some (.int r.1), r.2)) 0) 0 0 0 [(0, .ref (zB X + 493))] [] g := by
  unfold fX12_readLetter at hf
  refine z_aload_n hX dX12_readLetter_0 0 rfl ?_
  replace hf := zb_some hf
  obtain ⟨r_1, h1, hf⟩ := hf
  refine z_callV1 hX ok_X12_letters q1652 q1654 q43 (zrm_ok hR (by decide)) (ct_X12_letters  h1) (zrec_Model hX zq_493) dX12_readLetter_1 rfl rfl ?_
  refine z_bipush hX dX12_readLetter_4 cb_8 ?_
  refine z_icmp_ne hX 11 dX12_readLetter_6 (by decide) (fun h2 => ?_) (fun h2 => ?_)
  · replace hf := zif_neg h2 hf
    refine z_aload_n hX dX12_readLetter_11 0 rfl ?_
    refine z_ldcs hX dX12_readLetter_12 (i := 21) rfl ?_
    refine z_iconst hX dX12_readLetter_14 ci_0 ?_
    refine z_bipush hX dX12_readLetter_15 cb_9 ?_
    replace hf := zb2_some hf
    obtain ⟨r_3, g3, h3, hf⟩ := hf
    refine z_callV1 hX ok_X12_after q1657 q1659 q44 (zrm_ok hR (by decide)) (ct_X12_after  h3) (zrec_Model hX zq_493) dX12_readLetter_17 rfl rfl ?_
    refine z_istore_n (lv' := [(1, .int r_3), (0, .ref (zB X + 493))]) hX dX12_readLetter_20 hn (by decide) rfl ?_
    refine z_iload_n hX dX12_readLetter_21 0 rfl ?_
    refine zjoin_ok (P := fun (k : Int32 → zM → Option (Int32 × zM)) => ∀ (t0_4 : Int32) (g4 : zM), k t0_4 g4 = some r → zW X (zQ X (.inl (some (.int r.1), r.2)) 0) 0 0 38 [(0, .ref (zB X + 493)), (1, .int r_3)] [.int t0_4] g4) hf (fun t0_4 g4 hf => ?_) (fun k38 hk38 hf => ?_)
    · refine z_istore_n (lv' := [(2, .int t0_4), (0, .ref (zB X + 493)), (1, .int r_3)]) hX dX12_readLetter_38 hn (by decide) rfl ?_
      refine z_iload_n hX dX12_readLetter_39 0 rfl ?_
      refine z_if_ge hX 45 dX12_readLetter_40 (by decide) (fun h5 => ?_) (fun h5 => ?_)
      · replace hf := zif_pos h5 hf
        refine z_aload_n hX dX12_readLetter_45 1 rfl ?_
        replace hf := zb_some hf
        obtain ⟨g6, h6, hf⟩ := hf
        refine z_callV0 hX ok_X12_lettersPass q1633 q1635 q39 (zrm_ok hR (by decide)) (ct_X12_lettersPass  h6) (zrec_Model hX zq_493) dX12_readLetter_46 rfl rfl ?_
        refine z_aload_n hX dX12_readLetter_49 1 rfl ?_
        refine gf_Model_point hX zq_493 q1504 dX12_readLetter_50 ?_
        refine z_aload_n hX dX12_readLetter_53 1 rfl ?_
        refine gf_Model_begin hX zq_493 q1506 dX12_readLetter_54 ?_
        refine z_isub hX dX12_readLetter_57 ?_
        refine z_iconst hX dX12_readLetter_58 ci_1 ?_
        refine z_bipush hX dX12_readLetter_59 cb_24 ?_
        replace hf := zb_some hf
        obtain ⟨r_7, h7, hf⟩ := hf
        refine z_callS1 hX ok_X12_in rfl q1666 q1667 (zrm_ok hR (by decide)) (ct_X12_in  h7) dX12_readLetter_61 rfl rfl ?_
        refine z_if_ne hX 69 dX12_readLetter_64 (by decide) (fun h8 => ?_) (fun h8 => ?_)
        · replace hf := zif_neg h8 hf
          refine z_aload_n hX dX12_readLetter_69 1 rfl ?_
          refine z_iload_n hX dX12_readLetter_70 2 rfl ?_
          refine z_iload_n hX dX12_readLetter_71 0 rfl ?_
          replace hf := zb2_some hf
          obtain ⟨r_9, g9, h9, hf⟩ := hf
          refine z_callV1 hX ok_X12_begins q1669 q1671 q46 (zrm_ok hR (by decide)) (ct_X12_begins  h9) (zrec_Model hX zq_493) dX12_readLetter_72 rfl rfl ?_
          refine z_istore_n (lv' := [(3, .int r_9), (2, .int t0_4), (0, .ref (zB X + 493)), (1, .int r_3)]) hX dX12_readLetter_75 hn (by decide) rfl ?_
          refine z_aload_n hX dX12_readLetter_76 2 rfl ?_
          refine gf_Model_begin hX zq_493 q1506 dX12_readLetter_77 ?_
          refine z_istore (lv' := [(4, .int (g9 493 12)), (3, .int r_9), (2, .int t0_4), (0, .ref (zB X + 493)), (1, .int r_3)]) hX dX12_readLetter_80 hn (by decide) rfl ?_
          refine zW.sub [3, 1, 0] rfl ?_
          exact fX12_readLetter_L82_ok hX hT hR hr hn  zFU (g9 493 12) g9 hf
        · replace hf := zif_pos h8 hf
          refine z_iconst hX dX12_readLetter_67 ci_0 ?_
          obtain rfl := Option.some.inj hf
          exact z_iret hX hr (zbn (Or.inl rfl)) (zl rfl) (zl rfl) dX12_readLetter_68
      · replace hf := zif_neg h5 hf
        refine z_iconst hX dX12_readLetter_43 ci_0 ?_
        obtain rfl := Option.some.inj hf
        exact z_iret hX hr (zbn (Or.inl rfl)) (zl rfl) (zl rfl) dX12_readLetter_44
    · refine z_if_ge hX 29 dX12_readLetter_22 (by decide) (fun h17 => ?_) (fun h17 => ?_)
      · replace hf := zif_pos h17 hf
        refine z_aload_n hX dX12_readLetter_29 1 rfl ?_
        refine z_ldcs hX dX12_readLetter_30 (i := 22) rfl ?_
        refine z_iconst hX dX12_readLetter_32 ci_0 ?_
        refine z_bipush hX dX12_readLetter_33 cb_9 ?_
        replace hf := zb2_some hf
        obtain ⟨r_18, g18, h18, hf⟩ := hf
        refine z_callV1 hX ok_X12_after q1657 q1659 q44 (zrm_ok hR (by decide)) (ct_X12_after  h18) (zrec_Model hX zq_493) dX12_readLetter_35 rfl rfl ?_
        refine zW.sub [1, 0] rfl ?_
        exact hk38 r_18 g18 hf
      · replace hf := zif_neg h17 hf
        refine z_iconst hX dX12_readLetter_25 ci_m1 ?_
        refine z_goto hX 38 dX12_readLetter_26 (by decide) ?_
        refine zW.sub [1, 0] rfl ?_
        exact hk38 ((-1)) g3 hf
  · replace hf := zif_pos h2 hf
    refine z_iconst hX dX12_readLetter_9 ci_0 ?_
    obtain rfl := Option.some.inj hf
    exact z_iret hX hr (zbn (Or.inl rfl)) (zl rfl) (zl rfl) dX12_readLetter_10
set_option maxHeartbeats 4000000 in
set_option maxRecDepth 100000 in
theorem ct_X12_readLetter {E : zE} {g : zM} {r : Int32 × zM} (hf : fX12_readLetter g = some r) : zCt yX12_readLetter cX12_readLetter 5 (some .boolean) 7 0 E [.ref (E.1 + 493)] g (.inl (some (.int r.1), r.2)) := by
  refine zmet (by decide) (zl rfl) (fun X hE hX hT hR hr hn => ?_)
  subst hE
  exact fX12_readLetter_ok hX hT hR hr hn  hf
def fX12_readWords (g : zM) : Option (Int32 × zM) := zb2 (fX12_kindNext g) (fun r_1 g1 => zjoin (fun t0_2 g2 => if t0_2 < 0 then if t0_2 < 0 then some (0, g2) else some (1, g2) else zchk (8 + r_1) 2158 (zput g2 494 (8 + r_1).toNatClampNeg t0_2 (fun g6 => if t0_2 < 0 then some (0, g6) else some (1, g6))) : Int32 → zM → Option (Int32 × zM)) (fun k20 => if 0 ≤ r_1 then zb2 (fX12_number 1 9 g1) (fun r_9 g9 => k20 r_9 g9) else k20 ((-1)) g1))
set_option maxHeartbeats 4000000 in
set_option maxRecDepth 100000 in
theorem fX12_readWords_ok {X : zX} (hX : zCX X cX12_readWords RX12) (hT : zNT X) (hR : X.2.2.2.1 = zrm 4 0) (hr : X.2.2.2.2.2.2.2.2.1.sig.returnType = (some .boolean)) (hn : X.2.2.2.2.2.2.2.2.2.1.maxLocals = 3)  {g : zM} {r : Int32 × zM} (hf : fX12_readWords g = some r) : zW X (zQ X (.inl (some (.int r.1), r.2)) 0) 0 0 0 [(0, .ref (zB X + 493))] [] g := by
  unfold fX12_readWords at hf
  refine z_aload_n hX dX12_readWords_0 0 rfl ?_
  replace hf := zb2_some hf
  obtain ⟨r_1, g1, h1, hf⟩ := hf
  refine z_callV1 hX ok_X12_kindNext q1696 q1698 q51 (zrm_ok hR (by decide)) (ct_X12_kindNext  h1) (zrec_Model hX zq_493) dX12_readWords_1 rfl rfl ?_
  refine z_istore_n (lv' := [(1, .int r_1), (0, .ref (zB X + 493))]) hX dX12_readWords_4 hn (by decide) rfl ?_
  refine z_iload_n hX dX12_readWords_5 0 rfl ?_
  refine zjoin_ok (P := fun (k : Int32 → zM → Option (Int32 × zM)) => ∀ (t0_2 : Int32) (g2 : zM), k t0_2 g2 = some r → zW X (zQ X (.inl (some (.int r.1), r.2)) 0) 0 0 20 [(0, .ref (zB X + 493)), (1, .int r_1)] [.int t0_2] g2) hf (fun t0_2 g2 hf => ?_) (fun k20 hk20 hf => ?_)
  · refine z_istore_n (lv' := [(2, .int t0_2), (0, .ref (zB X + 493)), (1, .int r_1)]) hX dX12_readWords_20 hn (by decide) rfl ?_
    refine z_iload_n hX dX12_readWords_21 0 rfl ?_
    refine z_if_lt hX 35 dX12_readWords_22 (by decide) (fun h3 => ?_) (fun h3 => ?_)
    · replace hf := zif_pos h3 hf
      refine z_iload_n hX dX12_readWords_35 0 rfl ?_
      refine z_if_lt hX 43 dX12_readWords_36 (by decide) (fun h4 => ?_) (fun h4 => ?_)
      · replace hf := zif_pos h4 hf
        refine z_iconst hX dX12_readWords_43 ci_0 ?_
        obtain rfl := Option.some.inj hf
        exact z_iret hX hr (zbn (Or.inl rfl)) (zl rfl) (zl rfl) dX12_readWords_44
      · replace hf := zif_neg h4 hf
        refine z_iconst hX dX12_readWords_39 ci_1 ?_
        refine z_goto hX 44 dX12_readWords_40 (by decide) ?_
        obtain rfl := Option.some.inj hf
        exact z_iret hX hr (zbn (Or.inr rfl)) (zl rfl) (zl rfl) dX12_readWords_44
    · replace hf := zif_neg h3 hf
      refine z_aload_n hX dX12_readWords_25 1 rfl ?_
      refine gf_Model_world hX zq_493 q1495 dX12_readWords_26 ?_
      refine z_bipush hX dX12_readWords_29 cb_8 ?_
      refine z_iload_n hX dX12_readWords_31 2 rfl ?_
      refine z_iadd hX dX12_readWords_32 ?_
      refine z_iload_n hX dX12_readWords_33 0 rfl ?_
      replace hf := zchk_some hf
      obtain ⟨h5, hf⟩ := hf
      replace hf := zput_some hf
      obtain ⟨g6, eg6, hf⟩ := hf
      refine z_iast hX zq_494 (by decide) (zc_3158 _ _) h5 dX12_readWords_34 (zW.eqg eg6 ?_)
      refine z_iload_n hX dX12_readWords_35 0 rfl ?_
      refine z_if_lt hX 43 dX12_readWords_36 (by decide) (fun h7 => ?_) (fun h7 => ?_)
      · replace hf := zif_pos h7 hf
        refine z_iconst hX dX12_readWords_43 ci_0 ?_
        obtain rfl := Option.some.inj hf
        exact z_iret hX hr (zbn (Or.inl rfl)) (zl rfl) (zl rfl) dX12_readWords_44
      · replace hf := zif_neg h7 hf
        refine z_iconst hX dX12_readWords_39 ci_1 ?_
        refine z_goto hX 44 dX12_readWords_40 (by decide) ?_
        obtain rfl := Option.some.inj hf
        exact z_iret hX hr (zbn (Or.inr rfl)) (zl rfl) (zl rfl) dX12_readWords_44
  · refine z_if_ge hX 13 dX12_readWords_6 (by decide) (fun h8 => ?_) (fun h8 => ?_)
    · replace hf := zif_pos h8 hf
      refine z_aload_n hX dX12_readWords_13 1 rfl ?_
      refine z_iconst hX dX12_readWords_14 ci_1 ?_
      refine z_bipush hX dX12_readWords_15 cb_9 ?_
      replace hf := zb2_some hf
      obtain ⟨r_9, g9, h9, hf⟩ := hf
      refine z_callV1 hX ok_X12_number q1661 q1663 q45 (zrm_ok hR (by decide)) (ct_X12_number  h9) (zrec_Model hX zq_493) dX12_readWords_17 rfl rfl ?_
      refine zW.sub [1, 0] rfl ?_
      exact hk20 r_9 g9 hf
    · replace hf := zif_neg h8 hf
      refine z_iconst hX dX12_readWords_9 ci_m1 ?_
      refine z_goto hX 20 dX12_readWords_10 (by decide) ?_
      refine zW.sub [1, 0] rfl ?_
      exact hk20 ((-1)) g1 hf
set_option maxHeartbeats 4000000 in
set_option maxRecDepth 100000 in
theorem ct_X12_readWords {E : zE} {g : zM} {r : Int32 × zM} (hf : fX12_readWords g = some r) : zCt yX12_readWords cX12_readWords 3 (some .boolean) 4 0 E [.ref (E.1 + 493)] g (.inl (some (.int r.1), r.2)) := by
  refine zmet (by decide) (zl rfl) (fun X hE hX hT hR hr hn => ?_)
  subst hE
  exact fX12_readWords_ok hX hT hR hr hn  hf
def fX12_readPromise (g : zM) : Option (Int32 × zM) := zb (fX12_promises g) (fun r_1 => zb (fX12_promises g) (fun r_2 => if r_2 = 8 then some (0, g) else zb2 (fX12_kindNext g) (fun r_4 g4 => zjoin (fun t0_5 g5 => if 0 ≤ t0_5 then zchk (20 + (2 * r_1)) 2158 (zput g5 494 (20 + (2 * r_1)).toNatClampNeg r_4 (fun g8 => zchk ((20 + (2 * r_1)) + 1) 2158 (zput g8 494 ((20 + (2 * r_1)) + 1).toNatClampNeg t0_5 (fun g10 => zchk 1 2158 (zchk 1 2158 (zput g10 494 (1 : Int32).toNatClampNeg ((g10 494 (1 : Int32).toNatClampNeg) + 1) (fun g13 => some (1, g13)))))))) else some (0, g5) : Int32 → zM → Option (Int32 × zM)) (fun k38 => if 0 ≤ r_4 then zb2 (fX12_kindNext g4) (fun r_15 g15 => k38 r_15 g15) else k38 ((-1)) g4))))
set_option maxHeartbeats 4000000 in
set_option maxRecDepth 100000 in
theorem fX12_readPromise_ok {X : zX} (hX : zCX X cX12_readPromise RX12) (hT : zNT X) (hR : X.2.2.2.1 = zrm 4 0) (hr : X.2.2.2.2.2.2.2.2.1.sig.returnType = (some .boolean)) (hn : X.2.2.2.2.2.2.2.2.2.1.maxLocals = 4)  {g : zM} {r : Int32 × zM} (hf : fX12_readPromise g = some r) : zW X (zQ X (.inl (some (.int r.1), r.2)) 0) 0 0 0 [(0, .ref (zB X + 493))] [] g := by
  unfold fX12_readPromise at hf
  refine z_bipush hX dX12_readPromise_0 cb_20 ?_
  refine z_iconst hX dX12_readPromise_2 ci_2 ?_
  refine z_aload_n hX dX12_readPromise_3 0 rfl ?_
  replace hf := zb_some hf
  obtain ⟨r_1, h1, hf⟩ := hf
  refine z_callV1 hX ok_X12_promises q1709 q1711 q54 (zrm_ok hR (by decide)) (ct_X12_promises  h1) (zrec_Model hX zq_493) dX12_readPromise_4 rfl rfl ?_
  refine z_imul hX dX12_readPromise_7 ?_
  refine z_iadd hX dX12_readPromise_8 ?_
  refine z_istore_n (lv' := [(1, .int (20 + (2 * r_1))), (0, .ref (zB X + 493))]) hX dX12_readPromise_9 hn (by decide) rfl ?_
  refine z_aload_n hX dX12_readPromise_10 1 rfl ?_
  replace hf := zb_some hf
  obtain ⟨r_2, h2, hf⟩ := hf
  refine z_callV1 hX ok_X12_promises q1709 q1711 q54 (zrm_ok hR (by decide)) (ct_X12_promises  h2) (zrec_Model hX zq_493) dX12_readPromise_11 rfl rfl ?_
  refine z_bipush hX dX12_readPromise_14 cb_8 ?_
  refine z_icmp_ne hX 21 dX12_readPromise_16 (by decide) (fun h3 => ?_) (fun h3 => ?_)
  · replace hf := zif_neg h3 hf
    refine z_aload_n hX dX12_readPromise_21 1 rfl ?_
    replace hf := zb2_some hf
    obtain ⟨r_4, g4, h4, hf⟩ := hf
    refine z_callV1 hX ok_X12_kindNext q1696 q1698 q51 (zrm_ok hR (by decide)) (ct_X12_kindNext  h4) (zrec_Model hX zq_493) dX12_readPromise_22 rfl rfl ?_
    refine z_istore_n (lv' := [(2, .int r_4), (1, .int (20 + (2 * r_1))), (0, .ref (zB X + 493))]) hX dX12_readPromise_25 hn (by decide) rfl ?_
    refine z_iload_n hX dX12_readPromise_26 0 rfl ?_
    refine zjoin_ok (P := fun (k : Int32 → zM → Option (Int32 × zM)) => ∀ (t0_5 : Int32) (g5 : zM), k t0_5 g5 = some r → zW X (zQ X (.inl (some (.int r.1), r.2)) 0) 0 0 38 [(0, .ref (zB X + 493)), (1, .int (20 + (2 * r_1))), (2, .int r_4)] [.int t0_5] g5) hf (fun t0_5 g5 hf => ?_) (fun k38 hk38 hf => ?_)
    · refine z_istore_n (lv' := [(3, .int t0_5), (0, .ref (zB X + 493)), (1, .int (20 + (2 * r_1))), (2, .int r_4)]) hX dX12_readPromise_38 hn (by decide) rfl ?_
      refine z_iload_n hX dX12_readPromise_39 0 rfl ?_
      refine z_if_ge hX 45 dX12_readPromise_40 (by decide) (fun h6 => ?_) (fun h6 => ?_)
      · replace hf := zif_pos h6 hf
        refine z_aload_n hX dX12_readPromise_45 1 rfl ?_
        refine gf_Model_world hX zq_493 q1495 dX12_readPromise_46 ?_
        refine z_iload_n hX dX12_readPromise_49 2 rfl ?_
        refine z_iload_n hX dX12_readPromise_50 3 rfl ?_
        replace hf := zchk_some hf
        obtain ⟨h7, hf⟩ := hf
        replace hf := zput_some hf
        obtain ⟨g8, eg8, hf⟩ := hf
        refine z_iast hX zq_494 (by decide) (zc_3158 _ _) h7 dX12_readPromise_51 (zW.eqg eg8 ?_)
        refine z_aload_n hX dX12_readPromise_52 1 rfl ?_
        refine gf_Model_world hX zq_493 q1495 dX12_readPromise_53 ?_
        refine z_iload_n hX dX12_readPromise_56 2 rfl ?_
        refine z_iconst hX dX12_readPromise_57 ci_1 ?_
        refine z_iadd hX dX12_readPromise_58 ?_
        refine z_iload_n hX dX12_readPromise_59 0 rfl ?_
        replace hf := zchk_some hf
        obtain ⟨h9, hf⟩ := hf
        replace hf := zput_some hf
        obtain ⟨g10, eg10, hf⟩ := hf
        refine z_iast hX zq_494 (by decide) (zc_3158 _ _) h9 dX12_readPromise_60 (zW.eqg eg10 ?_)
        refine z_aload_n hX dX12_readPromise_61 1 rfl ?_
        refine gf_Model_world hX zq_493 q1495 dX12_readPromise_62 ?_
        refine z_iconst hX dX12_readPromise_65 ci_1 ?_
        refine z_dup2 hX dX12_readPromise_66 rfl rfl ?_
        replace hf := zchk_some hf
        obtain ⟨h11, hf⟩ := hf
        refine z_iald hX zq_494 (by decide) (zc_3158 _ _ _) h11 dX12_readPromise_67 ?_
        refine z_iconst hX dX12_readPromise_68 ci_1 ?_
        refine z_iadd hX dX12_readPromise_69 ?_
        replace hf := zchk_some hf
        obtain ⟨h12, hf⟩ := hf
        replace hf := zput_some hf
        obtain ⟨g13, eg13, hf⟩ := hf
        refine z_iast hX zq_494 (by decide) (zc_3158 _ _) h12 dX12_readPromise_70 (zW.eqg eg13 ?_)
        refine z_iconst hX dX12_readPromise_71 ci_1 ?_
        obtain rfl := Option.some.inj hf
        exact z_iret hX hr (zbn (Or.inr rfl)) (zl rfl) (zl rfl) dX12_readPromise_72
      · replace hf := zif_neg h6 hf
        refine z_iconst hX dX12_readPromise_43 ci_0 ?_
        obtain rfl := Option.some.inj hf
        exact z_iret hX hr (zbn (Or.inl rfl)) (zl rfl) (zl rfl) dX12_readPromise_44
    · refine z_if_ge hX 34 dX12_readPromise_27 (by decide) (fun h14 => ?_) (fun h14 => ?_)
      · replace hf := zif_pos h14 hf
        refine z_aload_n hX dX12_readPromise_34 2 rfl ?_
        replace hf := zb2_some hf
        obtain ⟨r_15, g15, h15, hf⟩ := hf
        refine z_callV1 hX ok_X12_kindNext q1696 q1698 q51 (zrm_ok hR (by decide)) (ct_X12_kindNext  h15) (zrec_Model hX zq_493) dX12_readPromise_35 rfl rfl ?_
        refine zW.sub [2, 1, 0] rfl ?_
        exact hk38 r_15 g15 hf
      · replace hf := zif_neg h14 hf
        refine z_iconst hX dX12_readPromise_30 ci_m1 ?_
        refine z_goto hX 38 dX12_readPromise_31 (by decide) ?_
        refine zW.sub [2, 1, 0] rfl ?_
        exact hk38 ((-1)) g4 hf
  · replace hf := zif_pos h3 hf
    refine z_iconst hX dX12_readPromise_19 ci_0 ?_
    obtain rfl := Option.some.inj hf
    exact z_iret hX hr (zbn (Or.inl rfl)) (zl rfl) (zl rfl) dX12_readPromise_20
set_option maxHeartbeats 4000000 in
set_option maxRecDepth 100000 in
theorem ct_X12_readPromise {E : zE} {g : zM} {r : Int32 × zM} (hf : fX12_readPromise g = some r) : zCt yX12_readPromise cX12_readPromise 4 (some .boolean) 4 0 E [.ref (E.1 + 493)] g (.inl (some (.int r.1), r.2)) := by
  refine zmet (by decide) (zl rfl) (fun X hE hX hT hR hr hn => ?_)
  subst hE
  exact fX12_readPromise_ok hX hT hR hr hn  hf
def fX12_readOf (v1 : Int32) (g : zM) : Option (Int32 × zM) := zb (fX12_letters g) (fun r_1 => zb2 (fX12_number 0 (r_1 - 1) g) (fun r_2 g2 => if r_2 < 0 then if r_2 < 0 then some (0, g2) else some (1, g2) else zb (fX12_at r_2 v1 g2) (fun r_5 => zchk r_5 2158 (zput g2 494 r_5.toNatClampNeg 1 (fun g7 => if r_2 < 0 then some (0, g7) else some (1, g7))))))
set_option maxHeartbeats 4000000 in
set_option maxRecDepth 100000 in
theorem fX12_readOf_ok {X : zX} (hX : zCX X cX12_readOf RX12) (hT : zNT X) (hR : X.2.2.2.1 = zrm 3 0) (hr : X.2.2.2.2.2.2.2.2.1.sig.returnType = (some .boolean)) (hn : X.2.2.2.2.2.2.2.2.2.1.maxLocals = 3) {v1 : Int32} {g : zM} {r : Int32 × zM} (hf : fX12_readOf v1 g = some r) : zW X (zQ X (.inl (some (.int r.1), r.2)) 0) 0 0 0 [(0, .ref (zB X + 493)), (1, .int v1)] [] g := by
  unfold fX12_readOf at hf
  refine z_aload_n hX dX12_readOf_0 0 rfl ?_
  refine z_iconst hX dX12_readOf_1 ci_0 ?_
  refine z_aload_n hX dX12_readOf_2 0 rfl ?_
  replace hf := zb_some hf
  obtain ⟨r_1, h1, hf⟩ := hf
  refine z_callV1 hX ok_X12_letters q1652 q1654 q43 (zrm_ok hR (by decide)) (ct_X12_letters  h1) (zrec_Model hX zq_493) dX12_readOf_3 rfl rfl ?_
  refine z_iconst hX dX12_readOf_6 ci_1 ?_
  refine z_isub hX dX12_readOf_7 ?_
  replace hf := zb2_some hf
  obtain ⟨r_2, g2, h2, hf⟩ := hf
  refine z_callV1 hX ok_X12_number q1661 q1663 q45 (zrm_ok hR (by decide)) (ct_X12_number  h2) (zrec_Model hX zq_493) dX12_readOf_8 rfl rfl ?_
  refine z_istore_n (lv' := [(2, .int r_2), (0, .ref (zB X + 493)), (1, .int v1)]) hX dX12_readOf_11 hn (by decide) rfl ?_
  refine z_iload_n hX dX12_readOf_12 0 rfl ?_
  refine z_if_lt hX 27 dX12_readOf_13 (by decide) (fun h3 => ?_) (fun h3 => ?_)
  · replace hf := zif_pos h3 hf
    refine z_iload_n hX dX12_readOf_27 0 rfl ?_
    refine z_if_lt hX 35 dX12_readOf_28 (by decide) (fun h4 => ?_) (fun h4 => ?_)
    · replace hf := zif_pos h4 hf
      refine z_iconst hX dX12_readOf_35 ci_0 ?_
      obtain rfl := Option.some.inj hf
      exact z_iret hX hr (zbn (Or.inl rfl)) (zl rfl) (zl rfl) dX12_readOf_36
    · replace hf := zif_neg h4 hf
      refine z_iconst hX dX12_readOf_31 ci_1 ?_
      refine z_goto hX 36 dX12_readOf_32 (by decide) ?_
      obtain rfl := Option.some.inj hf
      exact z_iret hX hr (zbn (Or.inr rfl)) (zl rfl) (zl rfl) dX12_readOf_36
  · replace hf := zif_neg h3 hf
    refine z_aload_n hX dX12_readOf_16 1 rfl ?_
    refine gf_Model_world hX zq_493 q1495 dX12_readOf_17 ?_
    refine z_iload_n hX dX12_readOf_20 0 rfl ?_
    refine z_iload_n hX dX12_readOf_21 2 rfl ?_
    replace hf := zb_some hf
    obtain ⟨r_5, h5, hf⟩ := hf
    refine z_callS1 hX ok_X12_at rfl q1673 q1674 (zrm_ok hR (by decide)) (ct_X12_at  h5) dX12_readOf_22 rfl rfl ?_
    refine z_iconst hX dX12_readOf_25 ci_1 ?_
    replace hf := zchk_some hf
    obtain ⟨h6, hf⟩ := hf
    replace hf := zput_some hf
    obtain ⟨g7, eg7, hf⟩ := hf
    refine z_iast hX zq_494 (by decide) (zc_3158 _ _) h6 dX12_readOf_26 (zW.eqg eg7 ?_)
    refine z_iload_n hX dX12_readOf_27 0 rfl ?_
    refine z_if_lt hX 35 dX12_readOf_28 (by decide) (fun h8 => ?_) (fun h8 => ?_)
    · replace hf := zif_pos h8 hf
      refine z_iconst hX dX12_readOf_35 ci_0 ?_
      obtain rfl := Option.some.inj hf
      exact z_iret hX hr (zbn (Or.inl rfl)) (zl rfl) (zl rfl) dX12_readOf_36
    · replace hf := zif_neg h8 hf
      refine z_iconst hX dX12_readOf_31 ci_1 ?_
      refine z_goto hX 36 dX12_readOf_32 (by decide) ?_
      obtain rfl := Option.some.inj hf
      exact z_iret hX hr (zbn (Or.inr rfl)) (zl rfl) (zl rfl) dX12_readOf_36
set_option maxHeartbeats 4000000 in
set_option maxRecDepth 100000 in
theorem ct_X12_readOf {E : zE} {v1 : Int32} {g : zM} {r : Int32 × zM} (hf : fX12_readOf v1 g = some r) : zCt yX12_readOf cX12_readOf 3 (some .boolean) 3 0 E [.ref (E.1 + 493), .int v1] g (.inl (some (.int r.1), r.2)) := by
  refine zmet (by decide) (zl rfl) (fun X hE hX hT hR hr hn => ?_)
  subst hE
  exact fX12_readOf_ok hX hT hR hr hn  hf
def fX12_readNumber (v1 : Int32) (v2 : Int32) (v3 : Int32) (g : zM) : Option (Int32 × zM) := zb2 (fX12_number v2 v3 g) (fun r_1 g1 => if 0 ≤ r_1 then zchk v1 2158 (zput g1 494 v1.toNatClampNeg r_1 (fun g4 => if r_1 < 0 then some (0, g4) else some (1, g4))) else zchk v1 2158 (zchk v1 2158 (zput g1 494 v1.toNatClampNeg (g1 494 v1.toNatClampNeg) (fun g8 => if r_1 < 0 then some (0, g8) else some (1, g8)))))
set_option maxHeartbeats 4000000 in
set_option maxRecDepth 100000 in
theorem fX12_readNumber_ok {X : zX} (hX : zCX X cX12_readNumber RX12) (hT : zNT X) (hR : X.2.2.2.1 = zrm 3 0) (hr : X.2.2.2.2.2.2.2.2.1.sig.returnType = (some .boolean)) (hn : X.2.2.2.2.2.2.2.2.2.1.maxLocals = 5) {v1 : Int32} {v2 : Int32} {v3 : Int32} {g : zM} {r : Int32 × zM} (hf : fX12_readNumber v1 v2 v3 g = some r) : zW X (zQ X (.inl (some (.int r.1), r.2)) 0) 0 0 0 [(0, .ref (zB X + 493)), (1, .int v1), (2, .int v2), (3, .int v3)] [] g := by
  unfold fX12_readNumber at hf
  refine z_aload_n hX dX12_readNumber_0 0 rfl ?_
  refine z_iload_n hX dX12_readNumber_1 2 rfl ?_
  refine z_iload_n hX dX12_readNumber_2 3 rfl ?_
  replace hf := zb2_some hf
  obtain ⟨r_1, g1, h1, hf⟩ := hf
  refine z_callV1 hX ok_X12_number q1661 q1663 q45 (zrm_ok hR (by decide)) (ct_X12_number  h1) (zrec_Model hX zq_493) dX12_readNumber_3 rfl rfl ?_
  refine z_istore (lv' := [(4, .int r_1), (0, .ref (zB X + 493)), (1, .int v1), (2, .int v2), (3, .int v3)]) hX dX12_readNumber_6 hn (by decide) rfl ?_
  refine z_aload_n hX dX12_readNumber_8 1 rfl ?_
  refine gf_Model_world hX zq_493 q1495 dX12_readNumber_9 ?_
  refine z_iload_n hX dX12_readNumber_12 2 rfl ?_
  refine z_iload hX dX12_readNumber_13 0 rfl ?_
  refine z_if_ge hX 27 dX12_readNumber_15 (by decide) (fun h2 => ?_) (fun h2 => ?_)
  · replace hf := zif_pos h2 hf
    refine z_iload hX dX12_readNumber_27 0 rfl ?_
    replace hf := zchk_some hf
    obtain ⟨h3, hf⟩ := hf
    replace hf := zput_some hf
    obtain ⟨g4, eg4, hf⟩ := hf
    refine z_iast hX zq_494 (by decide) (zc_3158 _ _) h3 dX12_readNumber_29 (zW.eqg eg4 ?_)
    refine z_iload hX dX12_readNumber_30 0 rfl ?_
    refine z_if_lt hX 39 dX12_readNumber_32 (by decide) (fun h5 => ?_) (fun h5 => ?_)
    · replace hf := zif_pos h5 hf
      refine z_iconst hX dX12_readNumber_39 ci_0 ?_
      obtain rfl := Option.some.inj hf
      exact z_iret hX hr (zbn (Or.inl rfl)) (zl rfl) (zl rfl) dX12_readNumber_40
    · replace hf := zif_neg h5 hf
      refine z_iconst hX dX12_readNumber_35 ci_1 ?_
      refine z_goto hX 40 dX12_readNumber_36 (by decide) ?_
      obtain rfl := Option.some.inj hf
      exact z_iret hX hr (zbn (Or.inr rfl)) (zl rfl) (zl rfl) dX12_readNumber_40
  · replace hf := zif_neg h2 hf
    refine z_aload_n hX dX12_readNumber_18 1 rfl ?_
    refine gf_Model_world hX zq_493 q1495 dX12_readNumber_19 ?_
    refine z_iload_n hX dX12_readNumber_22 2 rfl ?_
    replace hf := zchk_some hf
    obtain ⟨h6, hf⟩ := hf
    refine z_iald hX zq_494 (by decide) (zc_3158 _ _ _) h6 dX12_readNumber_23 ?_
    refine z_goto hX 29 dX12_readNumber_24 (by decide) ?_
    replace hf := zchk_some hf
    obtain ⟨h7, hf⟩ := hf
    replace hf := zput_some hf
    obtain ⟨g8, eg8, hf⟩ := hf
    refine z_iast hX zq_494 (by decide) (zc_3158 _ _) h7 dX12_readNumber_29 (zW.eqg eg8 ?_)
    refine z_iload hX dX12_readNumber_30 0 rfl ?_
    refine z_if_lt hX 39 dX12_readNumber_32 (by decide) (fun h9 => ?_) (fun h9 => ?_)
    · replace hf := zif_pos h9 hf
      refine z_iconst hX dX12_readNumber_39 ci_0 ?_
      obtain rfl := Option.some.inj hf
      exact z_iret hX hr (zbn (Or.inl rfl)) (zl rfl) (zl rfl) dX12_readNumber_40
    · replace hf := zif_neg h9 hf
      refine z_iconst hX dX12_readNumber_35 ci_1 ?_
      refine z_goto hX 40 dX12_readNumber_36 (by decide) ?_
      obtain rfl := Option.some.inj hf
      exact z_iret hX hr (zbn (Or.inr rfl)) (zl rfl) (zl rfl) dX12_readNumber_40
set_option maxHeartbeats 4000000 in
set_option maxRecDepth 100000 in
theorem ct_X12_readNumber {E : zE} {v1 : Int32} {v2 : Int32} {v3 : Int32} {g : zM} {r : Int32 × zM} (hf : fX12_readNumber v1 v2 v3 g = some r) : zCt yX12_readNumber cX12_readNumber 5 (some .boolean) 3 0 E [.ref (E.1 + 493), .int v1, .int v2, .int v3] g (.inl (some (.int r.1), r.2)) := by
  refine zmet (by decide) (zl rfl) (fun X hE hX hT hR hr hn => ?_)
  subst hE
  exact fX12_readNumber_ok hX hT hR hr hn  hf
def fX12_readPostLine (g : zM) : Option (Int32 × zM) := zb (fX12_isWord 20 g) (fun r_1 => if r_1 = 0 then zb (fX12_isWord 23 g) (fun r_3 => if r_3 = 0 then zb (fX12_isWord 24 g) (fun r_5 => if r_5 = 0 then zb (fX12_isWord 25 g) (fun r_7 => if r_7 = 0 then zb (fX12_isWord 26 g) (fun r_9 => if r_9 = 0 then zb (fX12_isWord 27 g) (fun r_11 => if r_11 = 0 then zb (fX12_isWord 28 g) (fun r_13 => if r_13 = 0 then some (0, g) else zchk 4 2158 (zb2 (fX12_readNumber 4 (g 494 (4 : Int32).toNatClampNeg) 999 g) (fun r_16 g16 => if r_16 = 0 then some (0, g16) else some (1, g16)))) else zb2 (fX12_readOf 3 g) (fun r_18 g18 => zbo r_18 (some (r_18, g18)))) else zb2 (fX12_readOf 4 g) (fun r_20 g20 => zbo r_20 (some (r_20, g20)))) else zb2 (fX12_readNumber 5 0 100 g) (fun r_22 g22 => zbo r_22 (some (r_22, g22)))) else zb2 (fX12_readPromise g) (fun r_24 g24 => zbo r_24 (some (r_24, g24)))) else zb2 (fX12_readWords g) (fun r_26 g26 => zbo r_26 (some (r_26, g26)))) else zb2 (fX12_readLetter g) (fun r_28 g28 => zbo r_28 (some (r_28, g28))))
set_option maxHeartbeats 4000000 in
set_option maxRecDepth 100000 in
theorem fX12_readPostLine_ok {X : zX} (hX : zCX X cX12_readPostLine RX12) (hT : zNT X) (hR : X.2.2.2.1 = zrm 8 0) (hr : X.2.2.2.2.2.2.2.2.1.sig.returnType = (some .boolean)) (hn : X.2.2.2.2.2.2.2.2.2.1.maxLocals = 1)  {g : zM} {r : Int32 × zM} (hf : fX12_readPostLine g = some r) : zW X (zQ X (.inl (some (.int r.1), r.2)) 0) 0 0 0 [(0, .ref (zB X + 493))] [] g := by
  unfold fX12_readPostLine at hf
  refine z_aload_n hX dX12_readPostLine_0 0 rfl ?_
  refine z_ldcs hX dX12_readPostLine_1 (i := 20) rfl ?_
  replace hf := zb_some hf
  obtain ⟨r_1, h1, hf⟩ := hf
  refine z_callV1 hX ok_X12_isWord q1642 q1644 q41 (zrm_ok hR (by decide)) (ct_X12_isWord  h1) (zrec_Model hX zq_493) dX12_readPostLine_3 rfl rfl ?_
  refine z_if_eq hX 14 dX12_readPostLine_6 (by decide) (fun h2 => ?_) (fun h2 => ?_)
  · replace hf := zif_pos h2 hf
    refine z_aload_n hX dX12_readPostLine_14 0 rfl ?_
    refine z_ldcs hX dX12_readPostLine_15 (i := 23) rfl ?_
    replace hf := zb_some hf
    obtain ⟨r_3, h3, hf⟩ := hf
    refine z_callV1 hX ok_X12_isWord q1642 q1644 q41 (zrm_ok hR (by decide)) (ct_X12_isWord  h3) (zrec_Model hX zq_493) dX12_readPostLine_17 rfl rfl ?_
    refine z_if_eq hX 28 dX12_readPostLine_20 (by decide) (fun h4 => ?_) (fun h4 => ?_)
    · replace hf := zif_pos h4 hf
      refine z_aload_n hX dX12_readPostLine_28 0 rfl ?_
      refine z_ldcs hX dX12_readPostLine_29 (i := 24) rfl ?_
      replace hf := zb_some hf
      obtain ⟨r_5, h5, hf⟩ := hf
      refine z_callV1 hX ok_X12_isWord q1642 q1644 q41 (zrm_ok hR (by decide)) (ct_X12_isWord  h5) (zrec_Model hX zq_493) dX12_readPostLine_31 rfl rfl ?_
      refine z_if_eq hX 42 dX12_readPostLine_34 (by decide) (fun h6 => ?_) (fun h6 => ?_)
      · replace hf := zif_pos h6 hf
        refine z_aload_n hX dX12_readPostLine_42 0 rfl ?_
        refine z_ldcs hX dX12_readPostLine_43 (i := 25) rfl ?_
        replace hf := zb_some hf
        obtain ⟨r_7, h7, hf⟩ := hf
        refine z_callV1 hX ok_X12_isWord q1642 q1644 q41 (zrm_ok hR (by decide)) (ct_X12_isWord  h7) (zrec_Model hX zq_493) dX12_readPostLine_45 rfl rfl ?_
        refine z_if_eq hX 60 dX12_readPostLine_48 (by decide) (fun h8 => ?_) (fun h8 => ?_)
        · replace hf := zif_pos h8 hf
          refine z_aload_n hX dX12_readPostLine_60 0 rfl ?_
          refine z_ldcs hX dX12_readPostLine_61 (i := 26) rfl ?_
          replace hf := zb_some hf
          obtain ⟨r_9, h9, hf⟩ := hf
          refine z_callV1 hX ok_X12_isWord q1642 q1644 q41 (zrm_ok hR (by decide)) (ct_X12_isWord  h9) (zrec_Model hX zq_493) dX12_readPostLine_63 rfl rfl ?_
          refine z_if_eq hX 75 dX12_readPostLine_66 (by decide) (fun h10 => ?_) (fun h10 => ?_)
          · replace hf := zif_pos h10 hf
            refine z_aload_n hX dX12_readPostLine_75 0 rfl ?_
            refine z_ldcs hX dX12_readPostLine_76 (i := 27) rfl ?_
            replace hf := zb_some hf
            obtain ⟨r_11, h11, hf⟩ := hf
            refine z_callV1 hX ok_X12_isWord q1642 q1644 q41 (zrm_ok hR (by decide)) (ct_X12_isWord  h11) (zrec_Model hX zq_493) dX12_readPostLine_78 rfl rfl ?_
            refine z_if_eq hX 90 dX12_readPostLine_81 (by decide) (fun h12 => ?_) (fun h12 => ?_)
            · replace hf := zif_pos h12 hf
              refine z_aload_n hX dX12_readPostLine_90 0 rfl ?_
              refine z_ldcs hX dX12_readPostLine_91 (i := 28) rfl ?_
              replace hf := zb_some hf
              obtain ⟨r_13, h13, hf⟩ := hf
              refine z_callV1 hX ok_X12_isWord q1642 q1644 q41 (zrm_ok hR (by decide)) (ct_X12_isWord  h13) (zrec_Model hX zq_493) dX12_readPostLine_93 rfl rfl ?_
              refine z_if_eq hX 120 dX12_readPostLine_96 (by decide) (fun h14 => ?_) (fun h14 => ?_)
              · replace hf := zif_pos h14 hf
                refine z_iconst hX dX12_readPostLine_120 ci_0 ?_
                obtain rfl := Option.some.inj hf
                exact z_iret hX hr (zbn (Or.inl rfl)) (zl rfl) (zl rfl) dX12_readPostLine_121
              · replace hf := zif_neg h14 hf
                refine z_aload_n hX dX12_readPostLine_99 0 rfl ?_
                refine z_iconst hX dX12_readPostLine_100 ci_4 ?_
                refine z_aload_n hX dX12_readPostLine_101 0 rfl ?_
                refine gf_Model_world hX zq_493 q1495 dX12_readPostLine_102 ?_
                refine z_iconst hX dX12_readPostLine_105 ci_4 ?_
                replace hf := zchk_some hf
                obtain ⟨h15, hf⟩ := hf
                refine z_iald hX zq_494 (by decide) (zc_3158 _ _ _) h15 dX12_readPostLine_106 ?_
                refine z_sipush hX dX12_readPostLine_107 cs_999 ?_
                replace hf := zb2_some hf
                obtain ⟨r_16, g16, h16, hf⟩ := hf
                refine z_callV1 hX ok_X12_readNumber q1714 q1716 q55 (zrm_ok hR (by decide)) (ct_X12_readNumber  h16) (zrec_Model hX zq_493) dX12_readPostLine_110 rfl rfl ?_
                refine z_if_eq hX 120 dX12_readPostLine_113 (by decide) (fun h17 => ?_) (fun h17 => ?_)
                · replace hf := zif_pos h17 hf
                  refine z_iconst hX dX12_readPostLine_120 ci_0 ?_
                  obtain rfl := Option.some.inj hf
                  exact z_iret hX hr (zbn (Or.inl rfl)) (zl rfl) (zl rfl) dX12_readPostLine_121
                · replace hf := zif_neg h17 hf
                  refine z_iconst hX dX12_readPostLine_116 ci_1 ?_
                  refine z_goto hX 121 dX12_readPostLine_117 (by decide) ?_
                  obtain rfl := Option.some.inj hf
                  exact z_iret hX hr (zbn (Or.inr rfl)) (zl rfl) (zl rfl) dX12_readPostLine_121
            · replace hf := zif_neg h12 hf
              refine z_aload_n hX dX12_readPostLine_84 0 rfl ?_
              refine z_iconst hX dX12_readPostLine_85 ci_3 ?_
              replace hf := zb2_some hf
              obtain ⟨r_18, g18, h18, hf⟩ := hf
              refine z_callV1 hX ok_X12_readOf q1719 q1721 q56 (zrm_ok hR (by decide)) (ct_X12_readOf  h18) (zrec_Model hX zq_493) dX12_readPostLine_86 rfl rfl ?_
              replace hf := zbo_some hf
              obtain ⟨h19, hf⟩ := hf
              obtain rfl := Option.some.inj hf
              exact z_iret hX hr (zbn h19) (zl rfl) (zl rfl) dX12_readPostLine_89
          · replace hf := zif_neg h10 hf
            refine z_aload_n hX dX12_readPostLine_69 0 rfl ?_
            refine z_iconst hX dX12_readPostLine_70 ci_4 ?_
            replace hf := zb2_some hf
            obtain ⟨r_20, g20, h20, hf⟩ := hf
            refine z_callV1 hX ok_X12_readOf q1719 q1721 q56 (zrm_ok hR (by decide)) (ct_X12_readOf  h20) (zrec_Model hX zq_493) dX12_readPostLine_71 rfl rfl ?_
            replace hf := zbo_some hf
            obtain ⟨h21, hf⟩ := hf
            obtain rfl := Option.some.inj hf
            exact z_iret hX hr (zbn h21) (zl rfl) (zl rfl) dX12_readPostLine_74
        · replace hf := zif_neg h8 hf
          refine z_aload_n hX dX12_readPostLine_51 0 rfl ?_
          refine z_iconst hX dX12_readPostLine_52 ci_5 ?_
          refine z_iconst hX dX12_readPostLine_53 ci_0 ?_
          refine z_bipush hX dX12_readPostLine_54 cb_100 ?_
          replace hf := zb2_some hf
          obtain ⟨r_22, g22, h22, hf⟩ := hf
          refine z_callV1 hX ok_X12_readNumber q1714 q1716 q55 (zrm_ok hR (by decide)) (ct_X12_readNumber  h22) (zrec_Model hX zq_493) dX12_readPostLine_56 rfl rfl ?_
          replace hf := zbo_some hf
          obtain ⟨h23, hf⟩ := hf
          obtain rfl := Option.some.inj hf
          exact z_iret hX hr (zbn h23) (zl rfl) (zl rfl) dX12_readPostLine_59
      · replace hf := zif_neg h6 hf
        refine z_aload_n hX dX12_readPostLine_37 0 rfl ?_
        replace hf := zb2_some hf
        obtain ⟨r_24, g24, h24, hf⟩ := hf
        refine z_callV1 hX ok_X12_readPromise q1705 q1707 q53 (zrm_ok hR (by decide)) (ct_X12_readPromise  h24) (zrec_Model hX zq_493) dX12_readPostLine_38 rfl rfl ?_
        replace hf := zbo_some hf
        obtain ⟨h25, hf⟩ := hf
        obtain rfl := Option.some.inj hf
        exact z_iret hX hr (zbn h25) (zl rfl) (zl rfl) dX12_readPostLine_41
    · replace hf := zif_neg h4 hf
      refine z_aload_n hX dX12_readPostLine_23 0 rfl ?_
      replace hf := zb2_some hf
      obtain ⟨r_26, g26, h26, hf⟩ := hf
      refine z_callV1 hX ok_X12_readWords q1692 q1694 q50 (zrm_ok hR (by decide)) (ct_X12_readWords  h26) (zrec_Model hX zq_493) dX12_readPostLine_24 rfl rfl ?_
      replace hf := zbo_some hf
      obtain ⟨h27, hf⟩ := hf
      obtain rfl := Option.some.inj hf
      exact z_iret hX hr (zbn h27) (zl rfl) (zl rfl) dX12_readPostLine_27
  · replace hf := zif_neg h2 hf
    refine z_aload_n hX dX12_readPostLine_9 0 rfl ?_
    replace hf := zb2_some hf
    obtain ⟨r_28, g28, h28, hf⟩ := hf
    refine z_callV1 hX ok_X12_readLetter q1648 q1650 q42 (zrm_ok hR (by decide)) (ct_X12_readLetter  h28) (zrec_Model hX zq_493) dX12_readPostLine_10 rfl rfl ?_
    replace hf := zbo_some hf
    obtain ⟨h29, hf⟩ := hf
    obtain rfl := Option.some.inj hf
    exact z_iret hX hr (zbn h29) (zl rfl) (zl rfl) dX12_readPostLine_13
set_option maxHeartbeats 4000000 in
set_option maxRecDepth 100000 in
theorem ct_X12_readPostLine {E : zE} {g : zM} {r : Int32 × zM} (hf : fX12_readPostLine g = some r) : zCt yX12_readPostLine cX12_readPostLine 1 (some .boolean) 8 0 E [.ref (E.1 + 493)] g (.inl (some (.int r.1), r.2)) := by
  refine zmet (by decide) (zl rfl) (fun X hE hX hT hR hr hn => ?_)
  subst hE
  exact fX12_readPostLine_ok hX hT hR hr hn  hf
def fX12_emits (v1 : Int32) (v2 : Int32) (g : zM) : Option zM := zchk (1358 + (2 * (g 493 16))) 2158 (zput g 494 (1358 + (2 * (g 493 16))).toNatClampNeg v1 (fun g2 => zchk ((1358 + (2 * (g2 493 16))) + 1) 2158 (zput g2 494 ((1358 + (2 * (g2 493 16))) + 1).toNatClampNeg v2 (fun g4 => zput g4 493 16 ((g4 493 16) + 1) (fun g5 => some g5)))))
set_option maxHeartbeats 4000000 in
set_option maxRecDepth 100000 in
theorem fX12_emits_ok {X : zX} (hX : zCX X cX12_emits RX12) (hT : zNT X) (hR : X.2.2.2.1 = zrm 0 0) (hr : X.2.2.2.2.2.2.2.2.1.sig.returnType = none) (hn : X.2.2.2.2.2.2.2.2.2.1.maxLocals = 3) {v1 : Int32} {v2 : Int32} {g : zM} {r : zM} (hf : fX12_emits v1 v2 g = some r) : zW X (zQ X (.inl (none, r)) 0) 0 0 0 [(0, .ref (zB X + 493)), (1, .int v1), (2, .int v2)] [] g := by
  unfold fX12_emits at hf
  refine z_aload_n hX dX12_emits_0 0 rfl ?_
  refine gf_Model_world hX zq_493 q1495 dX12_emits_1 ?_
  refine z_sipush hX dX12_emits_4 cs_1358 ?_
  refine z_iconst hX dX12_emits_7 ci_2 ?_
  refine z_aload_n hX dX12_emits_8 0 rfl ?_
  refine gf_Model_steps hX zq_493 q1510 dX12_emits_9 ?_
  refine z_imul hX dX12_emits_12 ?_
  refine z_iadd hX dX12_emits_13 ?_
  refine z_iload_n hX dX12_emits_14 1 rfl ?_
  replace hf := zchk_some hf
  obtain ⟨h1, hf⟩ := hf
  replace hf := zput_some hf
  obtain ⟨g2, eg2, hf⟩ := hf
  refine z_iast hX zq_494 (by decide) (zc_3158 _ _) h1 dX12_emits_15 (zW.eqg eg2 ?_)
  refine z_aload_n hX dX12_emits_16 0 rfl ?_
  refine gf_Model_world hX zq_493 q1495 dX12_emits_17 ?_
  refine z_sipush hX dX12_emits_20 cs_1358 ?_
  refine z_iconst hX dX12_emits_23 ci_2 ?_
  refine z_aload_n hX dX12_emits_24 0 rfl ?_
  refine gf_Model_steps hX zq_493 q1510 dX12_emits_25 ?_
  refine z_imul hX dX12_emits_28 ?_
  refine z_iadd hX dX12_emits_29 ?_
  refine z_iconst hX dX12_emits_30 ci_1 ?_
  refine z_iadd hX dX12_emits_31 ?_
  refine z_iload_n hX dX12_emits_32 2 rfl ?_
  replace hf := zchk_some hf
  obtain ⟨h3, hf⟩ := hf
  replace hf := zput_some hf
  obtain ⟨g4, eg4, hf⟩ := hf
  refine z_iast hX zq_494 (by decide) (zc_3158 _ _) h3 dX12_emits_33 (zW.eqg eg4 ?_)
  refine z_aload_n hX dX12_emits_34 0 rfl ?_
  refine z_dup hX dX12_emits_35 rfl ?_
  refine gf_Model_steps hX zq_493 q1510 dX12_emits_36 ?_
  refine z_iconst hX dX12_emits_39 ci_1 ?_
  refine z_iadd hX dX12_emits_40 ?_
  replace hf := zput_some hf
  obtain ⟨g5, eg5, hf⟩ := hf
  refine gp_Model_steps hX zq_493 q1510 dX12_emits_41 (zW.eqg eg5 ?_)
  obtain rfl := Option.some.inj hf
  exact z_vret hX hr (zl rfl) (zl rfl) dX12_emits_44
set_option maxHeartbeats 4000000 in
set_option maxRecDepth 100000 in
theorem ct_X12_emits {E : zE} {v1 : Int32} {v2 : Int32} {g : zM} {r : zM} (hf : fX12_emits v1 v2 g = some r) : zCt yX12_emits cX12_emits 3 none 0 0 E [.ref (E.1 + 493), .int v1, .int v2] g (.inl (none, r)) := by
  refine zmet (by decide) (zl rfl) (fun X hE hX hT hR hr hn => ?_)
  subst hE
  exact fX12_emits_ok hX hT hR hr hn  hf
