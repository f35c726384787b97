def fX12_forks_L48 (v1 : Int32) (v2 : Int32) : Nat → Int32 → Int32 → zM → Option (Int32 × zM)
  | 0, _, _, _ => none
  | n + 1, v3, v4, g => if 12 ≤ v4 then some (v3, g) else zb2 (fX12_forkOf v1 v2 v4 g) (fun r_10 g10 => fX12_forks_L48 v1 v2 n (v3 ||| ((1 : Int32) <<< (r_10 &&& 31))) (v4 + 1) g10)
def fX12_forks (v1 : Int32) (v2 : Int32) (g : zM) : Option (Int32 × zM) := zput g 493 0 0 (fun g1 => zb (fX12_noLetter v1 g1) (fun r_2 => zb2 (fX12_throwsIf r_2 1 g1) (fun r_3 g3 => if r_3 = 0 then zb (fX12_in v2 1 40 g3) (fun r_5 => if r_5 = 0 then zb2 (fX12_throwsIf 1 2 g3) (fun r_11 g11 => if r_11 = 0 then fX12_forks_L48 v1 v2 zFU 0 0 g11 else some (0, g11)) else zb2 (fX12_throwsIf 0 2 g3) (fun r_7 g7 => if r_7 = 0 then fX12_forks_L48 v1 v2 zFU 0 0 g7 else some (0, g7))) else some (0, g3))))
set_option maxHeartbeats 4000000 in
set_option maxRecDepth 100000 in
theorem fX12_forks_L48_ok {X : zX} (hX : zCX X cX12_forks RX12) (hT : zNT X) (hR : X.2.2.2.1 = zrm 7 0) (hr : X.2.2.2.2.2.2.2.2.1.sig.returnType = (some .int)) (hn : X.2.2.2.2.2.2.2.2.2.1.maxLocals = 5) {v1 : Int32} {v2 : Int32} {r : Int32 × zM}  : ∀ (n : Nat) (v3 : Int32) (v4 : Int32) (g : zM), fX12_forks_L48 v1 v2 n v3 v4 g = some r → zW X (zQ X (.inl (some (.int r.1), r.2)) 0) 0 0 48 [(0, .ref (zB X + 493)), (1, .int v1), (2, .int v2), (3, .int v3), (4, .int v4)] [] g := by
  intro n
  induction n with
  | zero => intro v3 v4 g hf; exact zno hf
  | succ n ih =>
    intro v3 v4 g hf
    rw [fX12_forks_L48] at hf
    refine z_iload hX dX12_forks_48 4 rfl ?_
    refine z_bipush hX dX12_forks_50 cb_12 ?_
    refine z_icmp_ge hX 74 dX12_forks_52 (by decide) (fun h9 => ?_) (fun h9 => ?_)
    · replace hf := zif_pos h9 hf
      refine z_iload_n hX dX12_forks_74 3 rfl ?_
      obtain rfl := Option.some.inj hf
      exact z_iret hX hr rfl (zl rfl) (zl rfl) dX12_forks_75
    · replace hf := zif_neg h9 hf
      refine z_iload_n hX dX12_forks_55 3 rfl ?_
      refine z_iconst hX dX12_forks_56 ci_1 ?_
      refine z_aload_n hX dX12_forks_57 0 rfl ?_
      refine z_iload_n hX dX12_forks_58 1 rfl ?_
      refine z_iload_n hX dX12_forks_59 2 rfl ?_
      refine z_iload hX dX12_forks_60 4 rfl ?_
      replace hf := zb2_some hf
      obtain ⟨r_10, g10, h10, hf⟩ := hf
      refine z_callV1 hX ok_X12_forkOf q2107 q2109 q106 (zrm_ok hR (by decide)) (ct_X12_forkOf  h10) (zrec_Model hX zq_493) dX12_forks_62 rfl rfl ?_
      refine z_ishl hX dX12_forks_65 ?_
      refine z_ior hX dX12_forks_66 ?_
      refine z_istore_n (lv' := [(3, .int (v3 ||| ((1 : Int32) <<< (r_10 &&& 31)))), (0, .ref (zB X + 493)), (1, .int v1), (2, .int v2), (4, .int v4)]) hX dX12_forks_67 hn (by decide) rfl ?_
      refine z_iincc (lv' := [(4, .int (v4 + 1)), (3, .int (v3 ||| ((1 : Int32) <<< (r_10 &&& 31)))), (0, .ref (zB X + 493)), (1, .int v1), (2, .int v2)]) hX dX12_forks_68 hn (by decide) 4 rfl ci_1 rfl ?_
      refine z_goto hX 48 dX12_forks_71 (by decide) ?_
      refine zW.sub [2, 3, 4, 1, 0] rfl ?_
      exact ih (v3 ||| ((1 : Int32) <<< (r_10 &&& 31))) (v4 + 1) g10 hf
set_option maxHeartbeats 4000000 in
set_option maxRecDepth 100000 in
theorem fX12_forks_ok {X : zX} (hX : zCX X cX12_forks RX12) (hT : zNT X) (hR : X.2.2.2.1 = zrm 7 0) (hr : X.2.2.2.2.2.2.2.2.1.sig.returnType = (some .int)) (hn : X.2.2.2.2.2.2.2.2.2.1.maxLocals = 5) {v1 : Int32} {v2 : Int32} {g : zM} {r : Int32 × zM} (hf : fX12_forks v1 v2 g = some r) : zW X (zQ X (.inl (some (.int r.1), r.2)) 0) 0 0 0 [(0, .ref (zB X + 493)), (1, .int v1), (2, .int v2)] [] g := by
  unfold fX12_forks at hf
  refine z_aload_n hX dX12_forks_0 0 rfl ?_
  refine z_iconst hX dX12_forks_1 ci_0 ?_
  replace hf := zput_some hf
  obtain ⟨g1, eg1, hf⟩ := hf
  refine gp_Model_thrown hX zq_493 q1494 dX12_forks_2 (zW.eqg eg1 ?_)
  refine z_aload_n hX dX12_forks_5 0 rfl ?_
  refine z_aload_n hX dX12_forks_6 0 rfl ?_
  refine z_iload_n hX dX12_forks_7 1 rfl ?_
  replace hf := zb_some hf
  obtain ⟨r_2, h2, hf⟩ := hf
  refine z_callV1 hX ok_X12_noLetter q1787 q1789 q68 (zrm_ok hR (by decide)) (ct_X12_noLetter  h2) (zrec_Model hX zq_493) dX12_forks_8 rfl rfl ?_
  refine z_iconst hX dX12_forks_11 ci_1 ?_
  replace hf := zb2_some hf
  obtain ⟨r_3, g3, h3, hf⟩ := hf
  refine z_callV1 hX ok_X12_throwsIf q1775 q1777 q67 (zrm_ok hR (by decide)) (ct_X12_throwsIf  h3) (zrec_Model hX zq_493) dX12_forks_12 rfl rfl ?_
  refine z_if_ne hX 41 dX12_forks_15 (by decide) (fun h4 => ?_) (fun h4 => ?_)
  · replace hf := zif_neg h4 hf
    refine z_iconst hX dX12_forks_41 ci_0 ?_
    obtain rfl := Option.some.inj hf
    exact z_iret hX hr rfl (zl rfl) (zl rfl) dX12_forks_42
  · replace hf := zif_pos h4 hf
    refine z_aload_n hX dX12_forks_18 0 rfl ?_
    refine z_iload_n hX dX12_forks_19 2 rfl ?_
    refine z_iconst hX dX12_forks_20 ci_1 ?_
    refine z_bipush hX dX12_forks_21 cb_40 ?_
    replace hf := zb_some hf
    obtain ⟨r_5, h5, hf⟩ := hf
    refine z_callS1 hX ok_X12_in rfl q1666 q1667 (zrm_ok hR (by decide)) (ct_X12_in  h5) dX12_forks_23 rfl rfl ?_
    refine z_if_ne hX 33 dX12_forks_26 (by decide) (fun h6 => ?_) (fun h6 => ?_)
    · replace hf := zif_neg h6 hf
      refine z_iconst hX dX12_forks_33 ci_0 ?_
      refine z_iconst hX dX12_forks_34 ci_2 ?_
      replace hf := zb2_some hf
      obtain ⟨r_7, g7, h7, hf⟩ := hf
      refine z_callV1 hX ok_X12_throwsIf q1775 q1777 q67 (zrm_ok hR (by decide)) (ct_X12_throwsIf  h7) (zrec_Model hX zq_493) dX12_forks_35 rfl rfl ?_
      refine z_if_eq hX 43 dX12_forks_38 (by decide) (fun h8 => ?_) (fun h8 => ?_)
      · replace hf := zif_pos h8 hf
        refine z_iconst hX dX12_forks_43 ci_0 ?_
        refine z_istore_n (lv' := [(3, .int 0), (0, .ref (zB X + 493)), (1, .int v1), (2, .int v2)]) hX dX12_forks_44 hn (by decide) rfl ?_
        refine z_iconst hX dX12_forks_45 ci_0 ?_
        refine z_istore (lv' := [(4, .int 0), (3, .int 0), (0, .ref (zB X + 493)), (1, .int v1), (2, .int v2)]) hX dX12_forks_46 hn (by decide) rfl ?_
        refine zW.sub [2, 3, 4, 1, 0] rfl ?_
        exact fX12_forks_L48_ok hX hT hR hr hn  zFU 0 0 g7 hf
      · replace hf := zif_neg h8 hf
        refine z_iconst hX dX12_forks_41 ci_0 ?_
        obtain rfl := Option.some.inj hf
        exact z_iret hX hr rfl (zl rfl) (zl rfl) dX12_forks_42
    · replace hf := zif_pos h6 hf
      refine z_iconst hX dX12_forks_29 ci_1 ?_
      refine z_goto hX 34 dX12_forks_30 (by decide) ?_
      refine z_iconst hX dX12_forks_34 ci_2 ?_
      replace hf := zb2_some hf
      obtain ⟨r_11, g11, h11, hf⟩ := hf
      refine z_callV1 hX ok_X12_throwsIf q1775 q1777 q67 (zrm_ok hR (by decide)) (ct_X12_throwsIf  h11) (zrec_Model hX zq_493) dX12_forks_35 rfl rfl ?_
      refine z_if_eq hX 43 dX12_forks_38 (by decide) (fun h12 => ?_) (fun h12 => ?_)
      · replace hf := zif_pos h12 hf
        refine z_iconst hX dX12_forks_43 ci_0 ?_
        refine z_istore_n (lv' := [(3, .int 0), (0, .ref (zB X + 493)), (1, .int v1), (2, .int v2)]) hX dX12_forks_44 hn (by decide) rfl ?_
        refine z_iconst hX dX12_forks_45 ci_0 ?_
        refine z_istore (lv' := [(4, .int 0), (3, .int 0), (0, .ref (zB X + 493)), (1, .int v1), (2, .int v2)]) hX dX12_forks_46 hn (by decide) rfl ?_
        refine zW.sub [2, 3, 4, 1, 0] rfl ?_
        exact fX12_forks_L48_ok hX hT hR hr hn  zFU 0 0 g11 hf
      · replace hf := zif_neg h12 hf
        refine z_iconst hX dX12_forks_41 ci_0 ?_
        obtain rfl := Option.some.inj hf
        exact z_iret hX hr rfl (zl rfl) (zl rfl) dX12_forks_42
set_option maxHeartbeats 4000000 in
set_option maxRecDepth 100000 in
theorem ct_X12_forks {E : zE} {v1 : Int32} {v2 : Int32} {g : zM} {r : Int32 × zM} (hf : fX12_forks v1 v2 g = some r) : zCt yX12_forks cX12_forks 5 (some .int) 7 0 E [.ref (E.1 + 493), .int v1, .int v2] g (.inl (some (.int r.1), r.2)) := by
  refine zmet (by decide) (zl rfl) (fun X hE hX hT hR hr hn => ?_)
  subst hE
  exact fX12_forks_ok hX hT hR hr hn  hf
def fX12_lengthOf_L4 (v1 : Int32) (g : zM) : Nat → Int32 → Int32 → Option Int32
  | 0, _, _ => none
  | n + 1, v2, v3 => zb (fX12_letters g) (fun r_1 => if r_1 ≤ v3 then some v2 else zb (fX12_hasBit v1 v3 g) (fun r_3 => if r_3 = 0 then fX12_lengthOf_L4 v1 g n (v2 + 0) (v3 + 1) else zchk v3 8 (fX12_lengthOf_L4 v1 g n (v2 + (g 505 v3.toNatClampNeg)) (v3 + 1))))
def fX12_lengthOf (v1 : Int32) (g : zM) : Option Int32 := fX12_lengthOf_L4 v1 g zFU 0 0
set_option maxHeartbeats 4000000 in
set_option maxRecDepth 100000 in
theorem fX12_lengthOf_L4_ok {X : zX} (hX : zCX X cX12_lengthOf RX12) (hT : zNT X) (hR : X.2.2.2.1 = zrm 1 0) (hr : X.2.2.2.2.2.2.2.2.1.sig.returnType = (some .int)) (hn : X.2.2.2.2.2.2.2.2.2.1.maxLocals = 4) {v1 : Int32} {g : zM} {r : Int32}  : ∀ (n : Nat) (v2 : Int32) (v3 : Int32), fX12_lengthOf_L4 v1 g n v2 v3 = some r → zW X (zQ X (.inl (some (.int r), g)) 0) 0 0 4 [(0, .ref (zB X + 493)), (1, .int v1), (2, .int v2), (3, .int v3)] [] g := by
  intro n
  induction n with
  | zero => intro v2 v3 hf; exact zno hf
  | succ n ih =>
    intro v2 v3 hf
    rw [fX12_lengthOf_L4] at hf
    refine z_iload_n hX dX12_lengthOf_4 3 rfl ?_
    refine z_aload_n hX dX12_lengthOf_5 0 rfl ?_
    replace hf := zb_some hf
    obtain ⟨r_1, h1, hf⟩ := hf
    refine z_callV1 hX ok_X12_letters q1652 q1654 q43 (zrm_ok hR (by decide)) (ct_X12_letters  h1) (zrec_Model hX zq_493) dX12_lengthOf_6 rfl rfl ?_
    refine z_icmp_ge hX 39 dX12_lengthOf_9 (by decide) (fun h2 => ?_) (fun h2 => ?_)
    · replace hf := zif_pos h2 hf
      refine z_iload_n hX dX12_lengthOf_39 2 rfl ?_
      obtain rfl := Option.some.inj hf
      exact z_iret hX hr rfl (zl rfl) (zl rfl) dX12_lengthOf_40
    · replace hf := zif_neg h2 hf
      refine z_iload_n hX dX12_lengthOf_12 2 rfl ?_
      refine z_iload_n hX dX12_lengthOf_13 1 rfl ?_
      refine z_iload_n hX dX12_lengthOf_14 3 rfl ?_
      replace hf := zb_some hf
      obtain ⟨r_3, h3, hf⟩ := hf
      refine z_callS1 hX ok_X12_hasBit rfl q2123 q2124 (zrm_ok hR (by decide)) (ct_X12_hasBit  h3) dX12_lengthOf_15 rfl rfl ?_
      refine z_if_eq hX 30 dX12_lengthOf_18 (by decide) (fun h4 => ?_) (fun h4 => ?_)
      · replace hf := zif_pos h4 hf
        refine z_iconst hX dX12_lengthOf_30 ci_0 ?_
        refine z_iadd hX dX12_lengthOf_31 ?_
        refine z_istore_n (lv' := [(2, .int (v2 + 0)), (0, .ref (zB X + 493)), (1, .int v1), (3, .int v3)]) hX dX12_lengthOf_32 hn (by decide) rfl ?_
        refine z_iincc (lv' := [(3, .int (v3 + 1)), (2, .int (v2 + 0)), (0, .ref (zB X + 493)), (1, .int v1)]) hX dX12_lengthOf_33 hn (by decide) 3 rfl ci_1 rfl ?_
        refine z_goto hX 4 dX12_lengthOf_36 (by decide) ?_
        refine zW.sub [2, 3, 1, 0] rfl ?_
        exact ih (v2 + 0) (v3 + 1) hf
      · replace hf := zif_neg h4 hf
        refine z_aload_n hX dX12_lengthOf_21 0 rfl ?_
        refine gf_Model_lengths hX zq_493 q1521 dX12_lengthOf_22 ?_
        refine z_iload_n hX dX12_lengthOf_25 3 rfl ?_
        replace hf := zchk_some hf
        obtain ⟨h5, hf⟩ := hf
        refine z_iald hX zq_505 (by decide) (zc_1008 _ _ _) h5 dX12_lengthOf_26 ?_
        refine z_goto hX 31 dX12_lengthOf_27 (by decide) ?_
        refine z_iadd hX dX12_lengthOf_31 ?_
        refine z_istore_n (lv' := [(2, .int (v2 + (g 505 v3.toNatClampNeg))), (0, .ref (zB X + 493)), (1, .int v1), (3, .int v3)]) hX dX12_lengthOf_32 hn (by decide) rfl ?_
        refine z_iincc (lv' := [(3, .int (v3 + 1)), (2, .int (v2 + (g 505 v3.toNatClampNeg))), (0, .ref (zB X + 493)), (1, .int v1)]) hX dX12_lengthOf_33 hn (by decide) 3 rfl ci_1 rfl ?_
        refine z_goto hX 4 dX12_lengthOf_36 (by decide) ?_
        refine zW.sub [2, 3, 1, 0] rfl ?_
        exact ih (v2 + (g 505 v3.toNatClampNeg)) (v3 + 1) hf
set_option maxHeartbeats 4000000 in
set_option maxRecDepth 100000 in
theorem fX12_lengthOf_ok {X : zX} (hX : zCX X cX12_lengthOf RX12) (hT : zNT X) (hR : X.2.2.2.1 = zrm 1 0) (hr : X.2.2.2.2.2.2.2.2.1.sig.returnType = (some .int)) (hn : X.2.2.2.2.2.2.2.2.2.1.maxLocals = 4) {v1 : Int32} {g : zM} {r : Int32} (hf : fX12_lengthOf v1 g = some r) : zW X (zQ X (.inl (some (.int r), g)) 0) 0 0 0 [(0, .ref (zB X + 493)), (1, .int v1)] [] g := by
  unfold fX12_lengthOf at hf
  refine z_iconst hX dX12_lengthOf_0 ci_0 ?_
  refine z_istore_n (lv' := [(2, .int 0), (0, .ref (zB X + 493)), (1, .int v1)]) hX dX12_lengthOf_1 hn (by decide) rfl ?_
  refine z_iconst hX dX12_lengthOf_2 ci_0 ?_
  refine z_istore_n (lv' := [(3, .int 0), (2, .int 0), (0, .ref (zB X + 493)), (1, .int v1)]) hX dX12_lengthOf_3 hn (by decide) rfl ?_
  refine zW.sub [2, 3, 1, 0] rfl ?_
  exact fX12_lengthOf_L4_ok hX hT hR hr hn  zFU 0 0 hf
set_option maxHeartbeats 4000000 in
set_option maxRecDepth 100000 in
theorem ct_X12_lengthOf {E : zE} {v1 : Int32} {g : zM} {r : Int32} (hf : fX12_lengthOf v1 g = some r) : zCt yX12_lengthOf cX12_lengthOf 4 (some .int) 1 0 E [.ref (E.1 + 493), .int v1] g (.inl (some (.int r), g)) := by
  refine zmet (by decide) (zl rfl) (fun X hE hX hT hR hr hn => ?_)
  subst hE
  exact fX12_lengthOf_ok hX hT hR hr hn  hf
def fX12_fewestOf_L7 (v1 : Int32) (v2 : Int32) (g : zM) : Nat → Int32 → Int32 → Option Int32
  | 0, _, _ => none
  | n + 1, v3, v4 => if v4 ≤ 0 then some v3 else zb (fX12_lengthOf v4 g) (fun r_2 => if v2 < r_2 then fX12_fewestOf_L7 v1 v2 g n v3 ((v4 - 1) &&& v1) else zchk (v1 &&& (v4 ^^^ ((-1)))) 256 (fX12_fewestOf_L7 v1 v2 g n (if 1 + (g 506 (v1 &&& (v4 ^^^ ((-1)))).toNatClampNeg) < v3 then 1 + (g 506 (v1 &&& (v4 ^^^ ((-1)))).toNatClampNeg) else v3) ((v4 - 1) &&& v1)))
def fX12_fewestOf (v1 : Int32) (v2 : Int32) (g : zM) : Option Int32 := fX12_fewestOf_L7 v1 v2 g zFU 1000 v1
set_option maxHeartbeats 4000000 in
set_option maxRecDepth 100000 in
theorem fX12_fewestOf_L7_ok {X : zX} (hX : zCX X cX12_fewestOf RX12) (hT : zNT X) (hR : X.2.2.2.1 = zrm 5 0) (hr : X.2.2.2.2.2.2.2.2.1.sig.returnType = (some .int)) (hn : X.2.2.2.2.2.2.2.2.2.1.maxLocals = 5) {v1 : Int32} {v2 : Int32} {g : zM} {r : Int32}  : ∀ (n : Nat) (v3 : Int32) (v4 : Int32), fX12_fewestOf_L7 v1 v2 g n v3 v4 = some r → zW X (zQ X (.inl (some (.int r), g)) 0) 0 0 7 [(0, .ref (zB X + 493)), (1, .int v1), (2, .int v2), (3, .int v3), (4, .int v4)] [] g := by
  intro n
  induction n with
  | zero => intro v3 v4 hf; exact zno hf
  | succ n ih =>
    intro v3 v4 hf
    rw [fX12_fewestOf_L7] at hf
    refine z_iload hX dX12_fewestOf_7 4 rfl ?_
    refine z_if_le hX 51 dX12_fewestOf_9 (by decide) (fun h1 => ?_) (fun h1 => ?_)
    · replace hf := zif_pos h1 hf
      refine z_iload_n hX dX12_fewestOf_51 3 rfl ?_
      obtain rfl := Option.some.inj hf
      exact z_iret hX hr rfl (zl rfl) (zl rfl) dX12_fewestOf_52
    · replace hf := zif_neg h1 hf
      refine z_aload_n hX dX12_fewestOf_12 0 rfl ?_
      refine z_iload hX dX12_fewestOf_13 4 rfl ?_
      replace hf := zb_some hf
      obtain ⟨r_2, h2, hf⟩ := hf
      refine z_callV1 hX ok_X12_lengthOf q2119 q2121 q108 (zrm_ok hR (by decide)) (ct_X12_lengthOf  h2) (zrec_Model hX zq_493) dX12_fewestOf_15 rfl rfl ?_
      refine z_iload_n hX dX12_fewestOf_18 2 rfl ?_
      refine z_icmp_gt hX 40 dX12_fewestOf_19 (by decide) (fun h3 => ?_) (fun h3 => ?_)
      · replace hf := zif_pos h3 hf
        refine z_iload hX dX12_fewestOf_40 4 rfl ?_
        refine z_iconst hX dX12_fewestOf_42 ci_1 ?_
        refine z_isub hX dX12_fewestOf_43 ?_
        refine z_iload_n hX dX12_fewestOf_44 1 rfl ?_
        refine z_iand hX dX12_fewestOf_45 ?_
        refine z_istore (lv' := [(4, .int ((v4 - 1) &&& v1)), (0, .ref (zB X + 493)), (1, .int v1), (2, .int v2), (3, .int v3)]) hX dX12_fewestOf_46 hn (by decide) rfl ?_
        refine z_goto hX 7 dX12_fewestOf_48 (by decide) ?_
        refine zW.sub [1, 2, 3, 4, 0] rfl ?_
        exact ih v3 ((v4 - 1) &&& v1) hf
      · replace hf := zif_neg h3 hf
        refine z_iload_n hX dX12_fewestOf_22 3 rfl ?_
        refine z_iconst hX dX12_fewestOf_23 ci_1 ?_
        refine z_aload_n hX dX12_fewestOf_24 0 rfl ?_
        refine gf_Model_fewest hX zq_493 q1522 dX12_fewestOf_25 ?_
        refine z_iload_n hX dX12_fewestOf_28 1 rfl ?_
        refine z_iload hX dX12_fewestOf_29 4 rfl ?_
        refine z_iconst hX dX12_fewestOf_31 ci_m1 ?_
        refine z_ixor hX dX12_fewestOf_32 ?_
        refine z_iand hX dX12_fewestOf_33 ?_
        replace hf := zchk_some hf
        obtain ⟨h4, hf⟩ := hf
        refine z_iald hX zq_506 (by decide) (zc_1256 _ _ _) h4 dX12_fewestOf_34 ?_
        refine z_iadd hX dX12_fewestOf_35 ?_
        refine z_min hX hR ⟨zl rfl, zl rfl⟩ q1929 dX12_fewestOf_36 (zl rfl) ?_
        refine z_istore_n (lv' := [(3, .int (if 1 + (g 506 (v1 &&& (v4 ^^^ ((-1)))).toNatClampNeg) < v3 then 1 + (g 506 (v1 &&& (v4 ^^^ ((-1)))).toNatClampNeg) else v3)), (0, .ref (zB X + 493)), (1, .int v1), (2, .int v2), (4, .int v4)]) hX dX12_fewestOf_39 hn (by decide) rfl ?_
        refine z_iload hX dX12_fewestOf_40 4 rfl ?_
        refine z_iconst hX dX12_fewestOf_42 ci_1 ?_
        refine z_isub hX dX12_fewestOf_43 ?_
        refine z_iload_n hX dX12_fewestOf_44 2 rfl ?_
        refine z_iand hX dX12_fewestOf_45 ?_
        refine z_istore (lv' := [(4, .int ((v4 - 1) &&& v1)), (3, .int (if 1 + (g 506 (v1 &&& (v4 ^^^ ((-1)))).toNatClampNeg) < v3 then 1 + (g 506 (v1 &&& (v4 ^^^ ((-1)))).toNatClampNeg) else v3)), (0, .ref (zB X + 493)), (1, .int v1), (2, .int v2)]) hX dX12_fewestOf_46 hn (by decide) rfl ?_
        refine z_goto hX 7 dX12_fewestOf_48 (by decide) ?_
        refine zW.sub [2, 3, 4, 1, 0] rfl ?_
        exact ih (if 1 + (g 506 (v1 &&& (v4 ^^^ ((-1)))).toNatClampNeg) < v3 then 1 + (g 506 (v1 &&& (v4 ^^^ ((-1)))).toNatClampNeg) else v3) ((v4 - 1) &&& v1) hf
set_option maxHeartbeats 4000000 in
set_option maxRecDepth 100000 in
theorem fX12_fewestOf_ok {X : zX} (hX : zCX X cX12_fewestOf RX12) (hT : zNT X) (hR : X.2.2.2.1 = zrm 5 0) (hr : X.2.2.2.2.2.2.2.2.1.sig.returnType = (some .int)) (hn : X.2.2.2.2.2.2.2.2.2.1.maxLocals = 5) {v1 : Int32} {v2 : Int32} {g : zM} {r : Int32} (hf : fX12_fewestOf v1 v2 g = some r) : zW X (zQ X (.inl (some (.int r), g)) 0) 0 0 0 [(0, .ref (zB X + 493)), (1, .int v1), (2, .int v2)] [] g := by
  unfold fX12_fewestOf at hf
  refine z_sipush hX dX12_fewestOf_0 cs_1000 ?_
  refine z_istore_n (lv' := [(3, .int 1000), (0, .ref (zB X + 493)), (1, .int v1), (2, .int v2)]) hX dX12_fewestOf_3 hn (by decide) rfl ?_
  refine z_iload_n hX dX12_fewestOf_4 2 rfl ?_
  refine z_istore (lv' := [(4, .int v1), (3, .int 1000), (0, .ref (zB X + 493)), (1, .int v1), (2, .int v2)]) hX dX12_fewestOf_5 hn (by decide) rfl ?_
  refine zW.sub [2, 3, 4, 1, 0] rfl ?_
  exact fX12_fewestOf_L7_ok hX hT hR hr hn  zFU 1000 v1 hf
set_option maxHeartbeats 4000000 in
set_option maxRecDepth 100000 in
theorem ct_X12_fewestOf {E : zE} {v1 : Int32} {v2 : Int32} {g : zM} {r : Int32} (hf : fX12_fewestOf v1 v2 g = some r) : zCt yX12_fewestOf cX12_fewestOf 5 (some .int) 5 0 E [.ref (E.1 + 493), .int v1, .int v2] g (.inl (some (.int r), g)) := by
  refine zmet (by decide) (zl rfl) (fun X hE hX hT hR hr hn => ?_)
  subst hE
  exact fX12_fewestOf_ok hX hT hR hr hn  hf
def fX12_shelves_L40 (v1 : Int32) (v2 : Int32) (v3 : Int32) (k73 : zM → Option (Int32 × zM)) : Nat → Int32 → zM → Option (Int32 × zM)
  | 0, _, _ => none
  | n + 1, v4, g => zb (fX12_letters g) (fun r_6 => if r_6 ≤ v4 then k73 g else zb (fX12_looksAhead v4 v2 g) (fun g8 => zchk v4 8 (zput g8 505 v4.toNatClampNeg (g8 493 19) (fun g10 => fX12_shelves_L40 v1 v2 v3 k73 n (v4 + 1) g10))))
def fX12_shelves_L79 (v1 : Int32) (v3 : Int32) (k146 : Int32 → zM → Option (Int32 × zM)) : Nat → Int32 → Int32 → zM → Option (Int32 × zM)
  | 0, _, _, _ => none
  | n + 1, v4, v5, g => zb (fX12_letters g) (fun r_12 => if ((1 : Int32) <<< (r_12 &&& 31)) ≤ v5 then k146 v4 g else zjoin (fun t0_14 => zchk v5 256 (zput g 506 v5.toNatClampNeg t0_14 (fun g16 => zb (fX12_lengthOf v5 g16) (fun r_17 => if v1 < r_17 then fX12_shelves_L79 v1 v3 k146 n v4 (v5 + 1) g16 else zb (fJ6_bitCount_0f7a4 v5 g16) (fun r_19 => fX12_shelves_L79 v1 v3 k146 n (if v4 < r_19 then r_19 else v4) (v5 + 1) g16)))) : Int32 → Option (Int32 × zM)) (fun k112 => if v5 = 0 then k112 0 else zb (fX12_fewestOf v5 v1 g) (fun r_21 => k112 r_21)))
def fX12_shelves (v1 : Int32) (v2 : Int32) (v3 : Int32) (g : zM) : Option (Int32 × zM) := zput g 493 0 0 (fun g1 => zb (fX12_in v1 1 99 g1) (fun r_2 => if r_2 = 0 then zb2 (fX12_throwsIf 1 1 g1) (fun r_4 g4 => if r_4 = 0 then fX12_shelves_L40 v1 v2 v3 (fun g11 => fX12_shelves_L79 v1 v3 (fun v4_22 g22 => zb (fX12_letters g22) (fun r_23 => zchk (((1 : Int32) <<< (r_23 &&& 31)) - 1) 256 (if v3 = 0 then if (g22 506 (((1 : Int32) <<< (r_23 &&& 31)) - 1).toNatClampNeg) < 1000 then some (g22 506 (((1 : Int32) <<< (r_23 &&& 31)) - 1).toNatClampNeg, g22) else some ((-1), g22) else some (v4_22, g22)))) zFU 0 0 g11) zFU 0 g4 else some (0, g4)) else zb (fX12_noAhead v2 g1) (fun r_27 => if r_27 = 0 then zb2 (fX12_throwsIf 0 1 g1) (fun r_29 g29 => if r_29 = 0 then fX12_shelves_L40 v1 v2 v3 (fun g31 => fX12_shelves_L79 v1 v3 (fun v4_32 g32 => zb (fX12_letters g32) (fun r_33 => zchk (((1 : Int32) <<< (r_33 &&& 31)) - 1) 256 (if v3 = 0 then if (g32 506 (((1 : Int32) <<< (r_33 &&& 31)) - 1).toNatClampNeg) < 1000 then some (g32 506 (((1 : Int32) <<< (r_33 &&& 31)) - 1).toNatClampNeg, g32) else some ((-1), g32) else some (v4_32, g32)))) zFU 0 0 g31) zFU 0 g29 else some (0, g29)) else zb2 (fX12_throwsIf 1 1 g1) (fun r_37 g37 => if r_37 = 0 then fX12_shelves_L40 v1 v2 v3 (fun g39 => fX12_shelves_L79 v1 v3 (fun v4_40 g40 => zb (fX12_letters g40) (fun r_41 => zchk (((1 : Int32) <<< (r_41 &&& 31)) - 1) 256 (if v3 = 0 then if (g40 506 (((1 : Int32) <<< (r_41 &&& 31)) - 1).toNatClampNeg) < 1000 then some (g40 506 (((1 : Int32) <<< (r_41 &&& 31)) - 1).toNatClampNeg, g40) else some ((-1), g40) else some (v4_40, g40)))) zFU 0 0 g39) zFU 0 g37 else some (0, g37)))))
set_option maxHeartbeats 4000000 in
set_option maxRecDepth 100000 in
theorem fX12_shelves_L40_ok {X : zX} (hX : zCX X cX12_shelves RX12) (hT : zNT X) (hR : X.2.2.2.1 = zrm 9 0) (hr : X.2.2.2.2.2.2.2.2.1.sig.returnType = (some .int)) (hn : X.2.2.2.2.2.2.2.2.2.1.maxLocals = 6) {v1 : Int32} {v2 : Int32} {v3 : Int32} {k73 : zM → Option (Int32 × zM)} {r : Int32 × zM} (hk73 : ∀ (g : zM), k73 g = some r → zW X (zQ X (.inl (some (.int r.1), r.2)) 0) 0 0 73 [(0, .ref (zB X + 493)), (1, .int v1), (3, .int v3)] [] g) : ∀ (n : Nat) (v4 : Int32) (g : zM), fX12_shelves_L40 v1 v2 v3 k73 n v4 g = some r → zW X (zQ X (.inl (some (.int r.1), r.2)) 0) 0 0 40 [(0, .ref (zB X + 493)), (1, .int v1), (2, .int v2), (3, .int v3), (4, .int v4)] [] g := by
  intro n
  induction n with
  | zero => intro v4 g hf; exact zno hf
  | succ n ih =>
    intro v4 g hf
    rw [fX12_shelves_L40] at hf
    refine z_iload hX dX12_shelves_40 4 rfl ?_
    refine z_aload_n hX dX12_shelves_42 0 rfl ?_
    replace hf := zb_some hf
    obtain ⟨r_6, h6, hf⟩ := hf
    refine z_callV1 hX ok_X12_letters q1652 q1654 q43 (zrm_ok hR (by decide)) (ct_X12_letters  h6) (zrec_Model hX zq_493) dX12_shelves_43 rfl rfl ?_
    refine z_icmp_ge hX 73 dX12_shelves_46 (by decide) (fun h7 => ?_) (fun h7 => ?_)
    · replace hf := zif_pos h7 hf
      refine zW.sub [0, 1, 3] rfl ?_
      exact hk73 g hf
    · replace hf := zif_neg h7 hf
      refine z_aload_n hX dX12_shelves_49 0 rfl ?_
      refine z_iload hX dX12_shelves_50 4 rfl ?_
      refine z_iload_n hX dX12_shelves_52 2 rfl ?_
      replace hf := zb_some hf
      obtain ⟨g8, h8, hf⟩ := hf
      refine z_callV0 hX ok_X12_looksAhead q1937 q1939 q89 (zrm_ok hR (by decide)) (ct_X12_looksAhead  h8) (zrec_Model hX zq_493) dX12_shelves_53 rfl rfl ?_
      refine z_aload_n hX dX12_shelves_56 0 rfl ?_
      refine gf_Model_lengths hX zq_493 q1521 dX12_shelves_57 ?_
      refine z_iload hX dX12_shelves_60 4 rfl ?_
      refine z_aload_n hX dX12_shelves_62 0 rfl ?_
      refine gf_Model_many hX zq_493 q1513 dX12_shelves_63 ?_
      replace hf := zchk_some hf
      obtain ⟨h9, hf⟩ := hf
      replace hf := zput_some hf
      obtain ⟨g10, eg10, hf⟩ := hf
      refine z_iast hX zq_505 (by decide) (zc_1008 _ _) h9 dX12_shelves_66 (zW.eqg eg10 ?_)
      refine z_iincc (lv' := [(4, .int (v4 + 1)), (0, .ref (zB X + 493)), (1, .int v1), (2, .int v2), (3, .int v3)]) hX dX12_shelves_67 hn (by decide) 4 rfl ci_1 rfl ?_
      refine z_goto hX 40 dX12_shelves_70 (by decide) ?_
      refine zW.sub [1, 2, 3, 4, 0] rfl ?_
      exact ih (v4 + 1) g10 hf
set_option maxHeartbeats 4000000 in
set_option maxRecDepth 100000 in
theorem fX12_shelves_L79_ok {X : zX} (hX : zCX X cX12_shelves RX12) (hT : zNT X) (hR : X.2.2.2.1 = zrm 9 0) (hr : X.2.2.2.2.2.2.2.2.1.sig.returnType = (some .int)) (hn : X.2.2.2.2.2.2.2.2.2.1.maxLocals = 6) {v1 : Int32} {v3 : Int32} {k146 : Int32 → zM → Option (Int32 × zM)} {r : Int32 × zM} (hk146 : ∀ (v4 : Int32) (g : zM), k146 v4 g = some r → zW X (zQ X (.inl (some (.int r.1), r.2)) 0) 0 0 146 [(0, .ref (zB X + 493)), (3, .int v3), (4, .int v4)] [] g) : ∀ (n : Nat) (v4 : Int32) (v5 : Int32) (g : zM), fX12_shelves_L79 v1 v3 k146 n v4 v5 g = some r → zW X (zQ X (.inl (some (.int r.1), r.2)) 0) 0 0 79 [(0, .ref (zB X + 493)), (1, .int v1), (3, .int v3), (4, .int v4), (5, .int v5)] [] g := by
  intro n
  induction n with
  | zero => intro v4 v5 g hf; exact zno hf
  | succ n ih =>
    intro v4 v5 g hf
    rw [fX12_shelves_L79] at hf
    refine z_iload hX dX12_shelves_79 4 rfl ?_
    refine z_iconst hX dX12_shelves_81 ci_1 ?_
    refine z_aload_n hX dX12_shelves_82 0 rfl ?_
    replace hf := zb_some hf
    obtain ⟨r_12, h12, hf⟩ := hf
    refine z_callV1 hX ok_X12_letters q1652 q1654 q43 (zrm_ok hR (by decide)) (ct_X12_letters  h12) (zrec_Model hX zq_493) dX12_shelves_83 rfl rfl ?_
    refine z_ishl hX dX12_shelves_86 ?_
    refine z_icmp_ge hX 146 dX12_shelves_87 (by decide) (fun h13 => ?_) (fun h13 => ?_)
    · replace hf := zif_pos h13 hf
      refine zW.sub [0, 2, 3] rfl ?_
      exact hk146 v4 g hf
    · replace hf := zif_neg h13 hf
      refine z_aload_n hX dX12_shelves_90 0 rfl ?_
      refine gf_Model_fewest hX zq_493 q1522 dX12_shelves_91 ?_
      refine z_iload hX dX12_shelves_94 4 rfl ?_
      refine z_iload hX dX12_shelves_96 4 rfl ?_
      refine zjoin_ok (P := fun (k : Int32 → Option (Int32 × zM)) => ∀ (t0_14 : Int32), k t0_14 = some r → zW X (zQ X (.inl (some (.int r.1), r.2)) 0) 0 0 112 [(0, .ref (zB X + 493)), (1, .int v1), (3, .int v3), (4, .int v4), (5, .int v5)] [.int t0_14, .int v5, .ref (zB X + 506)] g) hf (fun t0_14 hf => ?_) (fun k112 hk112 hf => ?_)
      · replace hf := zchk_some hf
        obtain ⟨h15, hf⟩ := hf
        replace hf := zput_some hf
        obtain ⟨g16, eg16, hf⟩ := hf
        refine z_iast hX zq_506 (by decide) (zc_1256 _ _) h15 dX12_shelves_112 (zW.eqg eg16 ?_)
        refine z_aload_n hX dX12_shelves_113 0 rfl ?_
        refine z_iload hX dX12_shelves_114 4 rfl ?_
        replace hf := zb_some hf
        obtain ⟨r_17, h17, hf⟩ := hf
        refine z_callV1 hX ok_X12_lengthOf q2119 q2121 q108 (zrm_ok hR (by decide)) (ct_X12_lengthOf  h17) (zrec_Model hX zq_493) dX12_shelves_116 rfl rfl ?_
        refine z_iload_n hX dX12_shelves_119 1 rfl ?_
        refine z_icmp_gt hX 136 dX12_shelves_120 (by decide) (fun h18 => ?_) (fun h18 => ?_)
        · replace hf := zif_pos h18 hf
          refine z_iload hX dX12_shelves_136 3 rfl ?_
          refine z_istore (lv' := [(4, .int v4), (0, .ref (zB X + 493)), (1, .int v1), (3, .int v3), (5, .int v5)]) hX dX12_shelves_138 hn (by decide) rfl ?_
          refine z_iincc (lv' := [(5, .int (v5 + 1)), (4, .int v4), (0, .ref (zB X + 493)), (1, .int v1), (3, .int v3)]) hX dX12_shelves_140 hn (by decide) 4 rfl ci_1 rfl ?_
          refine z_goto hX 79 dX12_shelves_143 (by decide) ?_
          refine zW.sub [2, 3, 4, 1, 0] rfl ?_
          exact ih v4 (v5 + 1) g16 hf
        · replace hf := zif_neg h18 hf
          refine z_iload hX dX12_shelves_123 3 rfl ?_
          refine z_iload hX dX12_shelves_125 4 rfl ?_
          replace hf := zb_some hf
          obtain ⟨r_19, h19, hf⟩ := hf
          refine z_callJ1 hX ok_J6_bitCount_0f7a4 q2017 q1373 (zrm_ok hR (by decide)) (ct_J6_bitCount_0f7a4  h19) dX12_shelves_127 rfl rfl ?_
          refine z_max hX hR ⟨zl rfl, zl rfl⟩ q2050 dX12_shelves_130 (zl rfl) ?_
          refine z_goto hX 138 dX12_shelves_133 (by decide) ?_
          refine z_istore (lv' := [(4, .int (if v4 < r_19 then r_19 else v4)), (0, .ref (zB X + 493)), (1, .int v1), (3, .int v3), (5, .int v5)]) hX dX12_shelves_138 hn (by decide) rfl ?_
          refine z_iincc (lv' := [(5, .int (v5 + 1)), (4, .int (if v4 < r_19 then r_19 else v4)), (0, .ref (zB X + 493)), (1, .int v1), (3, .int v3)]) hX dX12_shelves_140 hn (by decide) 4 rfl ci_1 rfl ?_
          refine z_goto hX 79 dX12_shelves_143 (by decide) ?_
          refine zW.sub [2, 3, 4, 1, 0] rfl ?_
          exact ih (if v4 < r_19 then r_19 else v4) (v5 + 1) g16 hf
      · refine z_if_ne hX 105 dX12_shelves_98 (by decide) (fun h20 => ?_) (fun h20 => ?_)
        · replace hf := zif_neg h20 hf
          refine z_aload_n hX dX12_shelves_105 0 rfl ?_
          refine z_iload hX dX12_shelves_106 4 rfl ?_
          refine z_iload_n hX dX12_shelves_108 1 rfl ?_
          replace hf := zb_some hf
          obtain ⟨r_21, h21, hf⟩ := hf
          refine z_callV1 hX ok_X12_fewestOf q2115 q2117 q107 (zrm_ok hR (by decide)) (ct_X12_fewestOf  h21) (zrec_Model hX zq_493) dX12_shelves_109 rfl rfl ?_
          exact hk112 r_21 hf
        · replace hf := zif_pos h20 hf
          refine z_iconst hX dX12_shelves_101 ci_0 ?_
          refine z_goto hX 112 dX12_shelves_102 (by decide) ?_
          exact hk112 0 hf
set_option maxHeartbeats 4000000 in
set_option maxRecDepth 100000 in
theorem fX12_shelves_ok {X : zX} (hX : zCX X cX12_shelves RX12) (hT : zNT X) (hR : X.2.2.2.1 = zrm 9 0) (hr : X.2.2.2.2.2.2.2.2.1.sig.returnType = (some .int)) (hn : X.2.2.2.2.2.2.2.2.2.1.maxLocals = 6) {v1 : Int32} {v2 : Int32} {v3 : Int32} {g : zM} {r : Int32 × zM} (hf : fX12_shelves v1 v2 v3 g = some r) : zW X (zQ X (.inl (some (.int r.1), r.2)) 0) 0 0 0 [(0, .ref (zB X + 493)), (1, .int v1), (2, .int v2), (3, .int v3)] [] g := by
  unfold fX12_shelves at hf
  refine z_aload_n hX dX12_shelves_0 0 rfl ?_
  refine z_iconst hX dX12_shelves_1 ci_0 ?_
  replace hf := zput_some hf
  obtain ⟨g1, eg1, hf⟩ := hf
  refine gp_Model_thrown hX zq_493 q1494 dX12_shelves_2 (zW.eqg eg1 ?_)
  refine z_aload_n hX dX12_shelves_5 0 rfl ?_
  refine z_iload_n hX dX12_shelves_6 1 rfl ?_
  refine z_iconst hX dX12_shelves_7 ci_1 ?_
  refine z_bipush hX dX12_shelves_8 cb_99 ?_
  replace hf := zb_some hf
  obtain ⟨r_2, h2, hf⟩ := hf
  refine z_callS1 hX ok_X12_in rfl q1666 q1667 (zrm_ok hR (by decide)) (ct_X12_in  h2) dX12_shelves_10 rfl rfl ?_
  refine z_if_eq hX 23 dX12_shelves_13 (by decide) (fun h3 => ?_) (fun h3 => ?_)
  · replace hf := zif_pos h3 hf
    refine z_iconst hX dX12_shelves_23 ci_1 ?_
    refine z_goto hX 28 dX12_shelves_24 (by decide) ?_
    refine z_iconst hX dX12_shelves_28 ci_1 ?_
    replace hf := zb2_some hf
    obtain ⟨r_4, g4, h4, hf⟩ := hf
    refine z_callV1 hX ok_X12_throwsIf q1775 q1777 q67 (zrm_ok hR (by decide)) (ct_X12_throwsIf  h4) (zrec_Model hX zq_493) dX12_shelves_29 rfl rfl ?_
    refine z_if_eq hX 37 dX12_shelves_32 (by decide) (fun h5 => ?_) (fun h5 => ?_)
    · replace hf := zif_pos h5 hf
      refine z_iconst hX dX12_shelves_37 ci_0 ?_
      refine z_istore (lv' := [(4, .int 0), (0, .ref (zB X + 493)), (1, .int v1), (2, .int v2), (3, .int v3)]) hX dX12_shelves_38 hn (by decide) rfl ?_
      refine zW.sub [1, 2, 3, 4, 0] rfl ?_
      refine fX12_shelves_L40_ok hX hT hR hr hn (fun g11 hf => ?_) zFU 0 g4 hf
      · refine z_iconst hX dX12_shelves_73 ci_0 ?_
        refine z_istore (lv' := [(4, .int 0), (0, .ref (zB X + 493)), (1, .int v1), (3, .int v3)]) hX dX12_shelves_74 hn (by decide) rfl ?_
        refine z_iconst hX dX12_shelves_76 ci_0 ?_
        refine z_istore (lv' := [(5, .int 0), (4, .int 0), (0, .ref (zB X + 493)), (1, .int v1), (3, .int v3)]) hX dX12_shelves_77 hn (by decide) rfl ?_
        refine zW.sub [2, 3, 4, 1, 0] rfl ?_
        refine fX12_shelves_L79_ok hX hT hR hr hn (fun v4_22 g22 hf => ?_) zFU 0 0 g11 hf
        · refine z_aload_n hX dX12_shelves_146 0 rfl ?_
          refine gf_Model_fewest hX zq_493 q1522 dX12_shelves_147 ?_
          refine z_iconst hX dX12_shelves_150 ci_1 ?_
          refine z_aload_n hX dX12_shelves_151 0 rfl ?_
          replace hf := zb_some hf
          obtain ⟨r_23, h23, hf⟩ := hf
          refine z_callV1 hX ok_X12_letters q1652 q1654 q43 (zrm_ok hR (by decide)) (ct_X12_letters  h23) (zrec_Model hX zq_493) dX12_shelves_152 rfl rfl ?_
          refine z_ishl hX dX12_shelves_155 ?_
          refine z_iconst hX dX12_shelves_156 ci_1 ?_
          refine z_isub hX dX12_shelves_157 ?_
          replace hf := zchk_some hf
          obtain ⟨h24, hf⟩ := hf
          refine z_iald hX zq_506 (by decide) (zc_1256 _ _ _) h24 dX12_shelves_158 ?_
          refine z_istore (lv' := [(5, .int (g22 506 (((1 : Int32) <<< (r_23 &&& 31)) - 1).toNatClampNeg)), (0, .ref (zB X + 493)), (3, .int v3), (4, .int v4_22)]) hX dX12_shelves_159 hn (by decide) rfl ?_
          refine z_iload_n hX dX12_shelves_161 2 rfl ?_
          refine z_if_eq hX 170 dX12_shelves_162 (by decide) (fun h25 => ?_) (fun h25 => ?_)
          · replace hf := zif_pos h25 hf
            refine z_iload hX dX12_shelves_170 0 rfl ?_
            refine z_sipush hX dX12_shelves_172 cs_1000 ?_
            refine z_icmp_lt hX 182 dX12_shelves_175 (by decide) (fun h26 => ?_) (fun h26 => ?_)
            · replace hf := zif_pos h26 hf
              refine z_iload hX dX12_shelves_182 0 rfl ?_
              obtain rfl := Option.some.inj hf
              exact z_iret hX hr rfl (zl rfl) (zl rfl) dX12_shelves_184
            · replace hf := zif_neg h26 hf
              refine z_iconst hX dX12_shelves_178 ci_m1 ?_
              refine z_goto hX 184 dX12_shelves_179 (by decide) ?_
              obtain rfl := Option.some.inj hf
              exact z_iret hX hr rfl (zl rfl) (zl rfl) dX12_shelves_184
          · replace hf := zif_neg h25 hf
            refine z_iload hX dX12_shelves_165 3 rfl ?_
            refine z_goto hX 184 dX12_shelves_167 (by decide) ?_
            obtain rfl := Option.some.inj hf
            exact z_iret hX hr rfl (zl rfl) (zl rfl) dX12_shelves_184
    · replace hf := zif_neg h5 hf
      refine z_iconst hX dX12_shelves_35 ci_0 ?_
      obtain rfl := Option.some.inj hf
      exact z_iret hX hr rfl (zl rfl) (zl rfl) dX12_shelves_36
  · replace hf := zif_neg h3 hf
    refine z_iload_n hX dX12_shelves_16 2 rfl ?_
    replace hf := zb_some hf
    obtain ⟨r_27, h27, hf⟩ := hf
    refine z_callS1 hX ok_X12_noAhead rfl q1934 q1935 (zrm_ok hR (by decide)) (ct_X12_noAhead  h27) dX12_shelves_17 rfl rfl ?_
    refine z_if_eq hX 27 dX12_shelves_20 (by decide) (fun h28 => ?_) (fun h28 => ?_)
    · replace hf := zif_pos h28 hf
      refine z_iconst hX dX12_shelves_27 ci_0 ?_
      refine z_iconst hX dX12_shelves_28 ci_1 ?_
      replace hf := zb2_some hf
      obtain ⟨r_29, g29, h29, hf⟩ := hf
      refine z_callV1 hX ok_X12_throwsIf q1775 q1777 q67 (zrm_ok hR (by decide)) (ct_X12_throwsIf  h29) (zrec_Model hX zq_493) dX12_shelves_29 rfl rfl ?_
      refine z_if_eq hX 37 dX12_shelves_32 (by decide) (fun h30 => ?_) (fun h30 => ?_)
      · replace hf := zif_pos h30 hf
        refine z_iconst hX dX12_shelves_37 ci_0 ?_
        refine z_istore (lv' := [(4, .int 0), (0, .ref (zB X + 493)), (1, .int v1), (2, .int v2), (3, .int v3)]) hX dX12_shelves_38 hn (by decide) rfl ?_
        refine zW.sub [1, 2, 3, 4, 0] rfl ?_
        refine fX12_shelves_L40_ok hX hT hR hr hn (fun g31 hf => ?_) zFU 0 g29 hf
        · refine z_iconst hX dX12_shelves_73 ci_0 ?_
          refine z_istore (lv' := [(4, .int 0), (0, .ref (zB X + 493)), (1, .int v1), (3, .int v3)]) hX dX12_shelves_74 hn (by decide) rfl ?_
          refine z_iconst hX dX12_shelves_76 ci_0 ?_
          refine z_istore (lv' := [(5, .int 0), (4, .int 0), (0, .ref (zB X + 493)), (1, .int v1), (3, .int v3)]) hX dX12_shelves_77 hn (by decide) rfl ?_
          refine zW.sub [2, 3, 4, 1, 0] rfl ?_
          refine fX12_shelves_L79_ok hX hT hR hr hn (fun v4_32 g32 hf => ?_) zFU 0 0 g31 hf
          · refine z_aload_n hX dX12_shelves_146 0 rfl ?_
            refine gf_Model_fewest hX zq_493 q1522 dX12_shelves_147 ?_
            refine z_iconst hX dX12_shelves_150 ci_1 ?_
            refine z_aload_n hX dX12_shelves_151 0 rfl ?_
            replace hf := zb_some hf
            obtain ⟨r_33, h33, hf⟩ := hf
            refine z_callV1 hX ok_X12_letters q1652 q1654 q43 (zrm_ok hR (by decide)) (ct_X12_letters  h33) (zrec_Model hX zq_493) dX12_shelves_152 rfl rfl ?_
            refine z_ishl hX dX12_shelves_155 ?_
            refine z_iconst hX dX12_shelves_156 ci_1 ?_
            refine z_isub hX dX12_shelves_157 ?_
            replace hf := zchk_some hf
            obtain ⟨h34, hf⟩ := hf
            refine z_iald hX zq_506 (by decide) (zc_1256 _ _ _) h34 dX12_shelves_158 ?_
            refine z_istore (lv' := [(5, .int (g32 506 (((1 : Int32) <<< (r_33 &&& 31)) - 1).toNatClampNeg)), (0, .ref (zB X + 493)), (3, .int v3), (4, .int v4_32)]) hX dX12_shelves_159 hn (by decide) rfl ?_
            refine z_iload_n hX dX12_shelves_161 2 rfl ?_
            refine z_if_eq hX 170 dX12_shelves_162 (by decide) (fun h35 => ?_) (fun h35 => ?_)
            · replace hf := zif_pos h35 hf
              refine z_iload hX dX12_shelves_170 0 rfl ?_
              refine z_sipush hX dX12_shelves_172 cs_1000 ?_
              refine z_icmp_lt hX 182 dX12_shelves_175 (by decide) (fun h36 => ?_) (fun h36 => ?_)
              · replace hf := zif_pos h36 hf
                refine z_iload hX dX12_shelves_182 0 rfl ?_
                obtain rfl := Option.some.inj hf
                exact z_iret hX hr rfl (zl rfl) (zl rfl) dX12_shelves_184
              · replace hf := zif_neg h36 hf
                refine z_iconst hX dX12_shelves_178 ci_m1 ?_
                refine z_goto hX 184 dX12_shelves_179 (by decide) ?_
                obtain rfl := Option.some.inj hf
                exact z_iret hX hr rfl (zl rfl) (zl rfl) dX12_shelves_184
            · replace hf := zif_neg h35 hf
              refine z_iload hX dX12_shelves_165 3 rfl ?_
              refine z_goto hX 184 dX12_shelves_167 (by decide) ?_
              obtain rfl := Option.some.inj hf
              exact z_iret hX hr rfl (zl rfl) (zl rfl) dX12_shelves_184
      · replace hf := zif_neg h30 hf
        refine z_iconst hX dX12_shelves_35 ci_0 ?_
        obtain rfl := Option.some.inj hf
        exact z_iret hX hr rfl (zl rfl) (zl rfl) dX12_shelves_36
    · replace hf := zif_neg h28 hf
      refine z_iconst hX dX12_shelves_23 ci_1 ?_
      refine z_goto hX 28 dX12_shelves_24 (by decide) ?_
      refine z_iconst hX dX12_shelves_28 ci_1 ?_
      replace hf := zb2_some hf
      obtain ⟨r_37, g37, h37, hf⟩ := hf
      refine z_callV1 hX ok_X12_throwsIf q1775 q1777 q67 (zrm_ok hR (by decide)) (ct_X12_throwsIf  h37) (zrec_Model hX zq_493) dX12_shelves_29 rfl rfl ?_
      refine z_if_eq hX 37 dX12_shelves_32 (by decide) (fun h38 => ?_) (fun h38 => ?_)
      · replace hf := zif_pos h38 hf
        refine z_iconst hX dX12_shelves_37 ci_0 ?_
        refine z_istore (lv' := [(4, .int 0), (0, .ref (zB X + 493)), (1, .int v1), (2, .int v2), (3, .int v3)]) hX dX12_shelves_38 hn (by decide) rfl ?_
        refine zW.sub [1, 2, 3, 4, 0] rfl ?_
        refine fX12_shelves_L40_ok hX hT hR hr hn (fun g39 hf => ?_) zFU 0 g37 hf
        · refine z_iconst hX dX12_shelves_73 ci_0 ?_
          refine z_istore (lv' := [(4, .int 0), (0, .ref (zB X + 493)), (1, .int v1), (3, .int v3)]) hX dX12_shelves_74 hn (by decide) rfl ?_
          refine z_iconst hX dX12_shelves_76 ci_0 ?_
          refine z_istore (lv' := [(5, .int 0), (4, .int 0), (0, .ref (zB X + 493)), (1, .int v1), (3, .int v3)]) hX dX12_shelves_77 hn (by decide) rfl ?_
          refine zW.sub [2, 3, 4, 1, 0] rfl ?_
          refine fX12_shelves_L79_ok hX hT hR hr hn (fun v4_40 g40 hf => ?_) zFU 0 0 g39 hf
          · refine z_aload_n hX dX12_shelves_146 0 rfl ?_
            refine gf_Model_fewest hX zq_493 q1522 dX12_shelves_147 ?_
            refine z_iconst hX dX12_shelves_150 ci_1 ?_
            refine z_aload_n hX dX12_shelves_151 0 rfl ?_
            replace hf := zb_some hf
            obtain ⟨r_41, h41, hf⟩ := hf
            refine z_callV1 hX ok_X12_letters q1652 q1654 q43 (zrm_ok hR (by decide)) (ct_X12_letters  h41) (zrec_Model hX zq_493) dX12_shelves_152 rfl rfl ?_
            refine z_ishl hX dX12_shelves_155 ?_
            refine z_iconst hX dX12_shelves_156 ci_1 ?_
            refine z_isub hX dX12_shelves_157 ?_
            replace hf := zchk_some hf
            obtain ⟨h42, hf⟩ := hf
            refine z_iald hX zq_506 (by decide) (zc_1256 _ _ _) h42 dX12_shelves_158 ?_
            refine z_istore (lv' := [(5, .int (g40 506 (((1 : Int32) <<< (r_41 &&& 31)) - 1).toNatClampNeg)), (0, .ref (zB X + 493)), (3, .int v3), (4, .int v4_40)]) hX dX12_shelves_159 hn (by decide) rfl ?_
            refine z_iload_n hX dX12_shelves_161 2 rfl ?_
            refine z_if_eq hX 170 dX12_shelves_162 (by decide) (fun h43 => ?_) (fun h43 => ?_)
            · replace hf := zif_pos h43 hf
              refine z_iload hX dX12_shelves_170 0 rfl ?_
              refine z_sipush hX dX12_shelves_172 cs_1000 ?_
              refine z_icmp_lt hX 182 dX12_shelves_175 (by decide) (fun h44 => ?_) (fun h44 => ?_)
              · replace hf := zif_pos h44 hf
                refine z_iload hX dX12_shelves_182 0 rfl ?_
                obtain rfl := Option.some.inj hf
                exact z_iret hX hr rfl (zl rfl) (zl rfl) dX12_shelves_184
              · replace hf := zif_neg h44 hf
                refine z_iconst hX dX12_shelves_178 ci_m1 ?_
                refine z_goto hX 184 dX12_shelves_179 (by decide) ?_
                obtain rfl := Option.some.inj hf
                exact z_iret hX hr rfl (zl rfl) (zl rfl) dX12_shelves_184
            · replace hf := zif_neg h43 hf
              refine z_iload hX dX12_shelves_165 3 rfl ?_
              refine z_goto hX 184 dX12_shelves_167 (by decide) ?_
              obtain rfl := Option.some.inj hf
              exact z_iret hX hr rfl (zl rfl) (zl rfl) dX12_shelves_184
      · replace hf := zif_neg h38 hf
        refine z_iconst hX dX12_shelves_35 ci_0 ?_
        obtain rfl := Option.some.inj hf
        exact z_iret hX hr rfl (zl rfl) (zl rfl) dX12_shelves_36
set_option maxHeartbeats 4000000 in
set_option maxRecDepth 100000 in
theorem ct_X12_shelves {E : zE} {v1 : Int32} {v2 : Int32} {v3 : Int32} {g : zM} {r : Int32 × zM} (hf : fX12_shelves v1 v2 v3 g = some r) : zCt yX12_shelves cX12_shelves 6 (some .int) 9 0 E [.ref (E.1 + 493), .int v1, .int v2, .int v3] g (.inl (some (.int r.1), r.2)) := by
  refine zmet (by decide) (zl rfl) (fun X hE hX hT hR hr hn => ?_)
  subst hE
  exact fX12_shelves_ok hX hT hR hr hn  hf
def fX12_tempers_L55 (v1 : Int32) (v2 : Int32) (v3 : Int32) (k76 : zM → Option (Int32 × zM)) : Nat → Int32 → zM → Option (Int32 × zM)
  | 0, _, _ => none
  | n + 1, v4, g => if 12 ≤ v4 then k76 g else zchk v4 12 (zput g 507 v4.toNatClampNeg 0 (fun g11 => fX12_tempers_L55 v1 v2 v3 k76 n (v4 + 1) g11))
def fX12_tempers_L79 (v1 : Int32) (v2 : Int32) (v3 : Int32) (k121 : zM → Option (Int32 × zM)) : Nat → Int32 → zM → Option (Int32 × zM)
  | 0, _, _ => none
  | n + 1, v4, g => if 10 ≤ v4 then k121 g else zb (fX12_looksAt v1 g) (fun g14 => zput g14 493 20 v4 (fun g15 => zb (fX12_goesFor v2 g15) (fun g16 => zb (fX12_last g16) (fun r_17 => zchk r_17 12 (zchk r_17 12 (zput g16 507 r_17.toNatClampNeg ((g16 507 r_17.toNatClampNeg) + 1) (fun g20 => fX12_tempers_L79 v1 v2 v3 k121 n (v4 + 1) g20)))))))
def fX12_tempers_L139 (g : zM) : Nat → Int32 → Int32 → Option (Int32 × zM)
  | 0, _, _ => none
  | n + 1, v4, v5 => if 12 ≤ v5 then some (v4, g) else zchk v5 12 (zchk v4 12 (if (g 507 v5.toNatClampNeg) ≤ (g 507 v4.toNatClampNeg) then fX12_tempers_L139 g n v4 (v5 + 1) else fX12_tempers_L139 g n v5 (v5 + 1)))
def fX12_tempers (v1 : Int32) (v2 : Int32) (v3 : Int32) (g : zM) : Option (Int32 × zM) := zput g 493 0 0 (fun g1 => zb (fX12_noLetter v1 g1) (fun r_2 => zjoin (fun t0_3 => zb2 (fX12_throwsIf t0_3 1 g1) (fun r_4 g4 => if r_4 = 0 then zb (fX12_noAhead v2 g4) (fun r_6 => zb2 (fX12_throwsIf r_6 2 g4) (fun r_7 g7 => if r_7 = 0 then fX12_tempers_L55 v1 v2 v3 (fun g12 => fX12_tempers_L79 v1 v2 v3 (fun g21 => if v3 = ((-1)) then fX12_tempers_L139 g21 zFU 0 1 else zchk v3 12 (some (g21 507 v3.toNatClampNeg, g21))) zFU 0 g12) zFU 0 g7 else some (0, g7))) else some (0, g4)) : Int32 → Option (Int32 × zM)) (fun k31 => if r_2 = 0 then if v3 = ((-1)) then k31 0 else zb (fX12_noKind v3 g1) (fun r_30 => if r_30 = 0 then k31 0 else k31 1) else k31 1)))
set_option maxHeartbeats 4000000 in
set_option maxRecDepth 100000 in
theorem fX12_tempers_L55_ok {X : zX} (hX : zCX X cX12_tempers RX12) (hT : zNT X) (hR : X.2.2.2.1 = zrm 8 0) (hr : X.2.2.2.2.2.2.2.2.1.sig.returnType = (some .int)) (hn : X.2.2.2.2.2.2.2.2.2.1.maxLocals = 6) {v1 : Int32} {v2 : Int32} {v3 : Int32} {k76 : zM → Option (Int32 × zM)} {r : Int32 × zM} (hk76 : ∀ (g : zM), k76 g = some r → zW X (zQ X (.inl (some (.int r.1), r.2)) 0) 0 0 76 [(0, .ref (zB X + 493)), (1, .int v1), (2, .int v2), (3, .int v3)] [] g) : ∀ (n : Nat) (v4 : Int32) (g : zM), fX12_tempers_L55 v1 v2 v3 k76 n v4 g = some r → zW X (zQ X (.inl (some (.int r.1), r.2)) 0) 0 0 55 [(0, .ref (zB X + 493)), (1, .int v1), (2, .int v2), (3, .int v3), (4, .int v4)] [] g := by
  intro n
  induction n with
  | zero => intro v4 g hf; exact zno hf
  | succ n ih =>
    intro v4 g hf
    rw [fX12_tempers_L55] at hf
    refine z_iload hX dX12_tempers_55 4 rfl ?_
    refine z_bipush hX dX12_tempers_57 cb_12 ?_
    refine z_icmp_ge hX 76 dX12_tempers_59 (by decide) (fun h9 => ?_) (fun h9 => ?_)
    · replace hf := zif_pos h9 hf
      refine zW.sub [0, 1, 2, 3] rfl ?_
      exact hk76 g hf
    · replace hf := zif_neg h9 hf
      refine z_aload_n hX dX12_tempers_62 0 rfl ?_
      refine gf_Model_leading hX zq_493 q1523 dX12_tempers_63 ?_
      refine z_iload hX dX12_tempers_66 4 rfl ?_
      refine z_iconst hX dX12_tempers_68 ci_0 ?_
      replace hf := zchk_some hf
      obtain ⟨h10, hf⟩ := hf
      replace hf := zput_some hf
      obtain ⟨g11, eg11, hf⟩ := hf
      refine z_iast hX zq_507 (by decide) (zc_1012 _ _) h10 dX12_tempers_69 (zW.eqg eg11 ?_)
      refine z_iincc (lv' := [(4, .int (v4 + 1)), (0, .ref (zB X + 493)), (1, .int v1), (2, .int v2), (3, .int v3)]) hX dX12_tempers_70 hn (by decide) 4 rfl ci_1 rfl ?_
      refine z_goto hX 55 dX12_tempers_73 (by decide) ?_
      refine zW.sub [1, 2, 3, 4, 0] rfl ?_
      exact ih (v4 + 1) g11 hf
set_option maxHeartbeats 4000000 in
set_option maxRecDepth 100000 in
theorem fX12_tempers_L79_ok {X : zX} (hX : zCX X cX12_tempers RX12) (hT : zNT X) (hR : X.2.2.2.1 = zrm 8 0) (hr : X.2.2.2.2.2.2.2.2.1.sig.returnType = (some .int)) (hn : X.2.2.2.2.2.2.2.2.2.1.maxLocals = 6) {v1 : Int32} {v2 : Int32} {v3 : Int32} {k121 : zM → Option (Int32 × zM)} {r : Int32 × zM} (hk121 : ∀ (g : zM), k121 g = some r → zW X (zQ X (.inl (some (.int r.1), r.2)) 0) 0 0 121 [(0, .ref (zB X + 493)), (3, .int v3)] [] g) : ∀ (n : Nat) (v4 : Int32) (g : zM), fX12_tempers_L79 v1 v2 v3 k121 n v4 g = some r → zW X (zQ X (.inl (some (.int r.1), r.2)) 0) 0 0 79 [(0, .ref (zB X + 493)), (1, .int v1), (2, .int v2), (3, .int v3), (4, .int v4)] [] g := by
  intro n
  induction n with
  | zero => intro v4 g hf; exact zno hf
  | succ n ih =>
    intro v4 g hf
    rw [fX12_tempers_L79] at hf
    refine z_iload hX dX12_tempers_79 4 rfl ?_
    refine z_bipush hX dX12_tempers_81 cb_10 ?_
    refine z_icmp_ge hX 121 dX12_tempers_83 (by decide) (fun h13 => ?_) (fun h13 => ?_)
    · replace hf := zif_pos h13 hf
      refine zW.sub [0, 3] rfl ?_
      exact hk121 g hf
    · replace hf := zif_neg h13 hf
      refine z_aload_n hX dX12_tempers_86 0 rfl ?_
      refine z_iload_n hX dX12_tempers_87 1 rfl ?_
      replace hf := zb_some hf
      obtain ⟨g14, h14, hf⟩ := hf
      refine z_callV0 hX ok_X12_looksAt q1791 q1793 q69 (zrm_ok hR (by decide)) (ct_X12_looksAt  h14) (zrec_Model hX zq_493) dX12_tempers_88 rfl rfl ?_
      refine z_aload_n hX dX12_tempers_91 0 rfl ?_
      refine z_iload hX dX12_tempers_92 4 rfl ?_
      replace hf := zput_some hf
      obtain ⟨g15, eg15, hf⟩ := hf
      refine gp_Model_temper hX zq_493 q1514 dX12_tempers_94 (zW.eqg eg15 ?_)
      refine z_aload_n hX dX12_tempers_97 0 rfl ?_
      refine z_iload_n hX dX12_tempers_98 2 rfl ?_
      replace hf := zb_some hf
      obtain ⟨g16, h16, hf⟩ := hf
      refine z_callV0 hX ok_X12_goesFor q1941 q1943 q90 (zrm_ok hR (by decide)) (ct_X12_goesFor  h16) (zrec_Model hX zq_493) dX12_tempers_99 rfl rfl ?_
      refine z_aload_n hX dX12_tempers_102 0 rfl ?_
      refine gf_Model_leading hX zq_493 q1523 dX12_tempers_103 ?_
      refine z_aload_n hX dX12_tempers_106 0 rfl ?_
      replace hf := zb_some hf
      obtain ⟨r_17, h17, hf⟩ := hf
      refine z_callV1 hX ok_X12_last q1807 q1809 q73 (zrm_ok hR (by decide)) (ct_X12_last  h17) (zrec_Model hX zq_493) dX12_tempers_107 rfl rfl ?_
      refine z_dup2 hX dX12_tempers_110 rfl rfl ?_
      replace hf := zchk_some hf
      obtain ⟨h18, hf⟩ := hf
      refine z_iald hX zq_507 (by decide) (zc_1012 _ _ _) h18 dX12_tempers_111 ?_
      refine z_iconst hX dX12_tempers_112 ci_1 ?_
      refine z_iadd hX dX12_tempers_113 ?_
      replace hf := zchk_some hf
      obtain ⟨h19, hf⟩ := hf
      replace hf := zput_some hf
      obtain ⟨g20, eg20, hf⟩ := hf
      refine z_iast hX zq_507 (by decide) (zc_1012 _ _) h19 dX12_tempers_114 (zW.eqg eg20 ?_)
      refine z_iincc (lv' := [(4, .int (v4 + 1)), (0, .ref (zB X + 493)), (1, .int v1), (2, .int v2), (3, .int v3)]) hX dX12_tempers_115 hn (by decide) 4 rfl ci_1 rfl ?_
      refine z_goto hX 79 dX12_tempers_118 (by decide) ?_
      refine zW.sub [1, 2, 3, 4, 0] rfl ?_
      exact ih (v4 + 1) g20 hf
set_option maxHeartbeats 4000000 in
set_option maxRecDepth 100000 in
theorem fX12_tempers_L139_ok {X : zX} (hX : zCX X cX12_tempers RX12) (hT : zNT X) (hR : X.2.2.2.1 = zrm 8 0) (hr : X.2.2.2.2.2.2.2.2.1.sig.returnType = (some .int)) (hn : X.2.2.2.2.2.2.2.2.2.1.maxLocals = 6) {g : zM} {r : Int32 × zM}  : ∀ (n : Nat) (v4 : Int32) (v5 : Int32), fX12_tempers_L139 g n v4 v5 = some r → zW X (zQ X (.inl (some (.int r.1), r.2)) 0) 0 0 139 [(0, .ref (zB X + 493)), (4, .int v4), (5, .int v5)] [] g := by
  intro n
  induction n with
  | zero => intro v4 v5 hf; exact zno hf
  | succ n ih =>
    intro v4 v5 hf
    rw [fX12_tempers_L139] at hf
    refine z_iload hX dX12_tempers_139 2 rfl ?_
    refine z_bipush hX dX12_tempers_141 cb_12 ?_
    refine z_icmp_ge hX 178 dX12_tempers_143 (by decide) (fun h23 => ?_) (fun h23 => ?_)
    · replace hf := zif_pos h23 hf
      refine z_iload hX dX12_tempers_178 1 rfl ?_
      obtain rfl := Option.some.inj hf
      exact z_iret hX hr rfl (zl rfl) (zl rfl) dX12_tempers_180
    · replace hf := zif_neg h23 hf
      refine z_aload_n hX dX12_tempers_146 0 rfl ?_
      refine gf_Model_leading hX zq_493 q1523 dX12_tempers_147 ?_
      refine z_iload hX dX12_tempers_150 2 rfl ?_
      replace hf := zchk_some hf
      obtain ⟨h24, hf⟩ := hf
      refine z_iald hX zq_507 (by decide) (zc_1012 _ _ _) h24 dX12_tempers_152 ?_
      refine z_aload_n hX dX12_tempers_153 0 rfl ?_
      refine gf_Model_leading hX zq_493 q1523 dX12_tempers_154 ?_
      refine z_iload hX dX12_tempers_157 1 rfl ?_
      replace hf := zchk_some hf
      obtain ⟨h25, hf⟩ := hf
      refine z_iald hX zq_507 (by decide) (zc_1012 _ _ _) h25 dX12_tempers_159 ?_
      refine z_icmp_le hX 168 dX12_tempers_160 (by decide) (fun h26 => ?_) (fun h26 => ?_)
      · replace hf := zif_pos h26 hf
        refine z_iload hX dX12_tempers_168 1 rfl ?_
        refine z_istore (lv' := [(4, .int v4), (0, .ref (zB X + 493)), (5, .int v5)]) hX dX12_tempers_170 hn (by decide) rfl ?_
        refine z_iincc (lv' := [(5, .int (v5 + 1)), (4, .int v4), (0, .ref (zB X + 493))]) hX dX12_tempers_172 hn (by decide) 2 rfl ci_1 rfl ?_
        refine z_goto hX 139 dX12_tempers_175 (by decide) ?_
        refine zW.sub [2, 1, 0] rfl ?_
        exact ih v4 (v5 + 1) hf
      · replace hf := zif_neg h26 hf
        refine z_iload hX dX12_tempers_163 2 rfl ?_
        refine z_goto hX 170 dX12_tempers_165 (by decide) ?_
        refine z_istore (lv' := [(4, .int v5), (0, .ref (zB X + 493)), (5, .int v5)]) hX dX12_tempers_170 hn (by decide) rfl ?_
        refine z_iincc (lv' := [(5, .int (v5 + 1)), (4, .int v5), (0, .ref (zB X + 493))]) hX dX12_tempers_172 hn (by decide) 2 rfl ci_1 rfl ?_
        refine z_goto hX 139 dX12_tempers_175 (by decide) ?_
        refine zW.sub [2, 1, 0] rfl ?_
        exact ih v5 (v5 + 1) hf
set_option maxHeartbeats 4000000 in
set_option maxRecDepth 100000 in
theorem fX12_tempers_ok {X : zX} (hX : zCX X cX12_tempers RX12) (hT : zNT X) (hR : X.2.2.2.1 = zrm 8 0) (hr : X.2.2.2.2.2.2.2.2.1.sig.returnType = (some .int)) (hn : X.2.2.2.2.2.2.2.2.2.1.maxLocals = 6) {v1 : Int32} {v2 : Int32} {v3 : Int32} {g : zM} {r : Int32 × zM} (hf : fX12_tempers v1 v2 v3 g = some r) : zW X (zQ X (.inl (some (.int r.1), r.2)) 0) 0 0 0 [(0, .ref (zB X + 493)), (1, .int v1), (2, .int v2), (3, .int v3)] [] g := by
  unfold fX12_tempers at hf
  refine z_aload_n hX dX12_tempers_0 0 rfl ?_
  refine z_iconst hX dX12_tempers_1 ci_0 ?_
  replace hf := zput_some hf
  obtain ⟨g1, eg1, hf⟩ := hf
  refine gp_Model_thrown hX zq_493 q1494 dX12_tempers_2 (zW.eqg eg1 ?_)
  refine z_aload_n hX dX12_tempers_5 0 rfl ?_
  refine z_aload_n hX dX12_tempers_6 0 rfl ?_
  refine z_iload_n hX dX12_tempers_7 1 rfl ?_
  replace hf := zb_some hf
  obtain ⟨r_2, h2, hf⟩ := hf
  refine z_callV1 hX ok_X12_noLetter q1787 q1789 q68 (zrm_ok hR (by decide)) (ct_X12_noLetter  h2) (zrec_Model hX zq_493) dX12_tempers_8 rfl rfl ?_
  refine zjoin_ok (P := fun (k : Int32 → Option (Int32 × zM)) => ∀ (t0_3 : Int32), k t0_3 = some r → zW X (zQ X (.inl (some (.int r.1), r.2)) 0) 0 0 31 [(0, .ref (zB X + 493)), (1, .int v1), (2, .int v2), (3, .int v3)] [.int t0_3, .ref (zB X + 493)] g1) hf (fun t0_3 hf => ?_) (fun k31 hk31 hf => ?_)
  · refine z_iconst hX dX12_tempers_31 ci_1 ?_
    replace hf := zb2_some hf
    obtain ⟨r_4, g4, h4, hf⟩ := hf
    refine z_callV1 hX ok_X12_throwsIf q1775 q1777 q67 (zrm_ok hR (by decide)) (ct_X12_throwsIf  h4) (zrec_Model hX zq_493) dX12_tempers_32 rfl rfl ?_
    refine z_if_ne hX 50 dX12_tempers_35 (by decide) (fun h5 => ?_) (fun h5 => ?_)
    · replace hf := zif_neg h5 hf
      refine z_iconst hX dX12_tempers_50 ci_0 ?_
      obtain rfl := Option.some.inj hf
      exact z_iret hX hr rfl (zl rfl) (zl rfl) dX12_tempers_51
    · replace hf := zif_pos h5 hf
      refine z_aload_n hX dX12_tempers_38 0 rfl ?_
      refine z_iload_n hX dX12_tempers_39 2 rfl ?_
      replace hf := zb_some hf
      obtain ⟨r_6, h6, hf⟩ := hf
      refine z_callS1 hX ok_X12_noAhead rfl q1934 q1935 (zrm_ok hR (by decide)) (ct_X12_noAhead  h6) dX12_tempers_40 rfl rfl ?_
      refine z_iconst hX dX12_tempers_43 ci_2 ?_
      replace hf := zb2_some hf
      obtain ⟨r_7, g7, h7, hf⟩ := hf
      refine z_callV1 hX ok_X12_throwsIf q1775 q1777 q67 (zrm_ok hR (by decide)) (ct_X12_throwsIf  h7) (zrec_Model hX zq_493) dX12_tempers_44 rfl rfl ?_
      refine z_if_eq hX 52 dX12_tempers_47 (by decide) (fun h8 => ?_) (fun h8 => ?_)
      · replace hf := zif_pos h8 hf
        refine z_iconst hX dX12_tempers_52 ci_0 ?_
        refine z_istore (lv' := [(4, .int 0), (0, .ref (zB X + 493)), (1, .int v1), (2, .int v2), (3, .int v3)]) hX dX12_tempers_53 hn (by decide) rfl ?_
        refine zW.sub [1, 2, 3, 4, 0] rfl ?_
        refine fX12_tempers_L55_ok hX hT hR hr hn (fun g12 hf => ?_) zFU 0 g7 hf
        · refine z_iconst hX dX12_tempers_76 ci_0 ?_
          refine z_istore (lv' := [(4, .int 0), (0, .ref (zB X + 493)), (1, .int v1), (2, .int v2), (3, .int v3)]) hX dX12_tempers_77 hn (by decide) rfl ?_
          refine zW.sub [1, 2, 3, 4, 0] rfl ?_
          refine fX12_tempers_L79_ok hX hT hR hr hn (fun g21 hf => ?_) zFU 0 g12 hf
          · refine z_iload_n hX dX12_tempers_121 1 rfl ?_
            refine z_iconst hX dX12_tempers_122 ci_m1 ?_
            refine z_icmp_eq hX 133 dX12_tempers_123 (by decide) (fun h22 => ?_) (fun h22 => ?_)
            · replace hf := zif_pos h22 hf
              refine z_iconst hX dX12_tempers_133 ci_0 ?_
              refine z_istore (lv' := [(4, .int 0), (0, .ref (zB X + 493)), (3, .int v3)]) hX dX12_tempers_134 hn (by decide) rfl ?_
              refine z_iconst hX dX12_tempers_136 ci_1 ?_
              refine z_istore (lv' := [(5, .int 1), (4, .int 0), (0, .ref (zB X + 493)), (3, .int v3)]) hX dX12_tempers_137 hn (by decide) rfl ?_
              refine zW.sub [2, 1, 0] rfl ?_
              exact fX12_tempers_L139_ok hX hT hR hr hn  zFU 0 1 hf
            · replace hf := zif_neg h22 hf
              refine z_aload_n hX dX12_tempers_126 0 rfl ?_
              refine gf_Model_leading hX zq_493 q1523 dX12_tempers_127 ?_
              refine z_iload_n hX dX12_tempers_130 1 rfl ?_
              replace hf := zchk_some hf
              obtain ⟨h27, hf⟩ := hf
              refine z_iald hX zq_507 (by decide) (zc_1012 _ _ _) h27 dX12_tempers_131 ?_
              obtain rfl := Option.some.inj hf
              exact z_iret hX hr rfl (zl rfl) (zl rfl) dX12_tempers_132
      · replace hf := zif_neg h8 hf
        refine z_iconst hX dX12_tempers_50 ci_0 ?_
        obtain rfl := Option.some.inj hf
        exact z_iret hX hr rfl (zl rfl) (zl rfl) dX12_tempers_51
  · refine z_if_ne hX 26 dX12_tempers_11 (by decide) (fun h28 => ?_) (fun h28 => ?_)
    · replace hf := zif_neg h28 hf
      refine z_iconst hX dX12_tempers_26 ci_1 ?_
      refine z_goto hX 31 dX12_tempers_27 (by decide) ?_
      exact hk31 1 hf
    · replace hf := zif_pos h28 hf
      refine z_iload_n hX dX12_tempers_14 3 rfl ?_
      refine z_iconst hX dX12_tempers_15 ci_m1 ?_
      refine z_icmp_eq hX 30 dX12_tempers_16 (by decide) (fun h29 => ?_) (fun h29 => ?_)
      · replace hf := zif_pos h29 hf
        refine z_iconst hX dX12_tempers_30 ci_0 ?_
        exact hk31 0 hf
      · replace hf := zif_neg h29 hf
        refine z_iload_n hX dX12_tempers_19 3 rfl ?_
        replace hf := zb_some hf
        obtain ⟨r_30, h30, hf⟩ := hf
        refine z_callS1 hX ok_X12_noKind rfl q1854 q1855 (zrm_ok hR (by decide)) (ct_X12_noKind  h30) dX12_tempers_20 rfl rfl ?_
        refine z_if_eq hX 30 dX12_tempers_23 (by decide) (fun h31 => ?_) (fun h31 => ?_)
        · replace hf := zif_pos h31 hf
          refine z_iconst hX dX12_tempers_30 ci_0 ?_
          exact hk31 0 hf
        · replace hf := zif_neg h31 hf
          refine z_iconst hX dX12_tempers_26 ci_1 ?_
          refine z_goto hX 31 dX12_tempers_27 (by decide) ?_
          exact hk31 1 hf
set_option maxHeartbeats 4000000 in
set_option maxRecDepth 100000 in
theorem ct_X12_tempers {E : zE} {v1 : Int32} {v2 : Int32} {v3 : Int32} {g : zM} {r : Int32 × zM} (hf : fX12_tempers v1 v2 v3 g = some r) : zCt yX12_tempers cX12_tempers 6 (some .int) 8 0 E [.ref (E.1 + 493), .int v1, .int v2, .int v3] g (.inl (some (.int r.1), r.2)) := by
  refine zmet (by decide) (zl rfl) (fun X hE hX hT hR hr hn => ?_)
  subst hE
  exact fX12_tempers_ok hX hT hR hr hn  hf
def fX12_allLines_L4 (g : zM) : Nat → Int32 → Int32 → Option Int32
  | 0, _, _ => none
  | n + 1, v1, v2 => zb (fX12_letters g) (fun r_1 => if r_1 ≤ v2 then some v1 else zb (fX12_lines v2 g) (fun r_3 => fX12_allLines_L4 g n (v1 + r_3) (v2 + 1)))
def fX12_allLines (g : zM) : Option Int32 := fX12_allLines_L4 g zFU 0 0
set_option maxHeartbeats 4000000 in
set_option maxRecDepth 100000 in
theorem fX12_allLines_L4_ok {X : zX} (hX : zCX X cX12_allLines RX12) (hT : zNT X) (hR : X.2.2.2.1 = zrm 3 0) (hr : X.2.2.2.2.2.2.2.2.1.sig.returnType = (some .int)) (hn : X.2.2.2.2.2.2.2.2.2.1.maxLocals = 3) {g : zM} {r : Int32}  : ∀ (n : Nat) (v1 : Int32) (v2 : Int32), fX12_allLines_L4 g n v1 v2 = some r → zW X (zQ X (.inl (some (.int r), g)) 0) 0 0 4 [(0, .ref (zB X + 493)), (1, .int v1), (2, .int v2)] [] g := by
  intro n
  induction n with
  | zero => intro v1 v2 hf; exact zno hf
  | succ n ih =>
    intro v1 v2 hf
    rw [fX12_allLines_L4] at hf
    refine z_iload_n hX dX12_allLines_4 2 rfl ?_
    refine z_aload_n hX dX12_allLines_5 0 rfl ?_
    replace hf := zb_some hf
    obtain ⟨r_1, h1, hf⟩ := hf
    refine z_callV1 hX ok_X12_letters q1652 q1654 q43 (zrm_ok hR (by decide)) (ct_X12_letters  h1) (zrec_Model hX zq_493) dX12_allLines_6 rfl rfl ?_
    refine z_icmp_ge hX 26 dX12_allLines_9 (by decide) (fun h2 => ?_) (fun h2 => ?_)
    · replace hf := zif_pos h2 hf
      refine z_iload_n hX dX12_allLines_26 1 rfl ?_
      obtain rfl := Option.some.inj hf
      exact z_iret hX hr rfl (zl rfl) (zl rfl) dX12_allLines_27
    · replace hf := zif_neg h2 hf
      refine z_iload_n hX dX12_allLines_12 1 rfl ?_
      refine z_aload_n hX dX12_allLines_13 0 rfl ?_
      refine z_iload_n hX dX12_allLines_14 2 rfl ?_
      replace hf := zb_some hf
      obtain ⟨r_3, h3, hf⟩ := hf
      refine z_callV1 hX ok_X12_lines q1683 q1685 q48 (zrm_ok hR (by decide)) (ct_X12_lines  h3) (zrec_Model hX zq_493) dX12_allLines_15 rfl rfl ?_
      refine z_iadd hX dX12_allLines_18 ?_
      refine z_istore_n (lv' := [(1, .int (v1 + r_3)), (0, .ref (zB X + 493)), (2, .int v2)]) hX dX12_allLines_19 hn (by decide) rfl ?_
      refine z_iincc (lv' := [(2, .int (v2 + 1)), (1, .int (v1 + r_3)), (0, .ref (zB X + 493))]) hX dX12_allLines_20 hn (by decide) 2 rfl ci_1 rfl ?_
      refine z_goto hX 4 dX12_allLines_23 (by decide) ?_
      refine zW.sub [2, 1, 0] rfl ?_
      exact ih (v1 + r_3) (v2 + 1) hf
set_option maxHeartbeats 4000000 in
set_option maxRecDepth 100000 in
theorem fX12_allLines_ok {X : zX} (hX : zCX X cX12_allLines RX12) (hT : zNT X) (hR : X.2.2.2.1 = zrm 3 0) (hr : X.2.2.2.2.2.2.2.2.1.sig.returnType = (some .int)) (hn : X.2.2.2.2.2.2.2.2.2.1.maxLocals = 3)  {g : zM} {r : Int32} (hf : fX12_allLines g = some r) : zW X (zQ X (.inl (some (.int r), g)) 0) 0 0 0 [(0, .ref (zB X + 493))] [] g := by
  unfold fX12_allLines at hf
  refine z_iconst hX dX12_allLines_0 ci_0 ?_
  refine z_istore_n (lv' := [(1, .int 0), (0, .ref (zB X + 493))]) hX dX12_allLines_1 hn (by decide) rfl ?_
  refine z_iconst hX dX12_allLines_2 ci_0 ?_
  refine z_istore_n (lv' := [(2, .int 0), (1, .int 0), (0, .ref (zB X + 493))]) hX dX12_allLines_3 hn (by decide) rfl ?_
  refine zW.sub [2, 1, 0] rfl ?_
  exact fX12_allLines_L4_ok hX hT hR hr hn  zFU 0 0 hf
set_option maxHeartbeats 4000000 in
set_option maxRecDepth 100000 in
theorem ct_X12_allLines {E : zE} {g : zM} {r : Int32} (hf : fX12_allLines g = some r) : zCt yX12_allLines cX12_allLines 3 (some .int) 3 0 E [.ref (E.1 + 493)] g (.inl (some (.int r), g)) := by
  refine zmet (by decide) (zl rfl) (fun X hE hX hT hR hr hn => ?_)
  subst hE
  exact fX12_allLines_ok hX hT hR hr hn  hf
def fX12_keepsAll_L2  : Nat → Int32 → zM → Option zM
  | 0, _, _ => none
  | n + 1, v1, g => if 460 ≤ v1 then some g else zchk v1 2158 (zchk v1 460 (zput g 497 v1.toNatClampNeg (g 494 v1.toNatClampNeg) (fun g4 => fX12_keepsAll_L2 n (v1 + 1) g4)))
def fX12_keepsAll (g : zM) : Option zM := fX12_keepsAll_L2 zFU 0 g
set_option maxHeartbeats 4000000 in
set_option maxRecDepth 100000 in
theorem fX12_keepsAll_L2_ok {X : zX} (hX : zCX X cX12_keepsAll RX12) (hT : zNT X) (hR : X.2.2.2.1 = zrm 0 0) (hr : X.2.2.2.2.2.2.2.2.1.sig.returnType = none) (hn : X.2.2.2.2.2.2.2.2.2.1.maxLocals = 2)  {r : zM}  : ∀ (n : Nat) (v1 : Int32) (g : zM), fX12_keepsAll_L2 n v1 g = some r → zW X (zQ X (.inl (none, r)) 0) 0 0 2 [(0, .ref (zB X + 493)), (1, .int v1)] [] g := by
  intro n
  induction n with
  | zero => intro v1 g hf; exact zno hf
  | succ n ih =>
    intro v1 g hf
    rw [fX12_keepsAll_L2] at hf
    refine z_iload_n hX dX12_keepsAll_2 1 rfl ?_
    refine z_sipush hX dX12_keepsAll_3 cs_460 ?_
    refine z_icmp_ge hX 27 dX12_keepsAll_6 (by decide) (fun h1 => ?_) (fun h1 => ?_)
    · replace hf := zif_pos h1 hf
      obtain rfl := Option.some.inj hf
      exact z_vret hX hr (zl rfl) (zl rfl) dX12_keepsAll_27
    · replace hf := zif_neg h1 hf
      refine z_aload_n hX dX12_keepsAll_9 0 rfl ?_
      refine gf_Model_trial hX zq_493 q1498 dX12_keepsAll_10 ?_
      refine z_iload_n hX dX12_keepsAll_13 1 rfl ?_
      refine z_aload_n hX dX12_keepsAll_14 0 rfl ?_
      refine gf_Model_world hX zq_493 q1495 dX12_keepsAll_15 ?_
      refine z_iload_n hX dX12_keepsAll_18 1 rfl ?_
      replace hf := zchk_some hf
      obtain ⟨h2, hf⟩ := hf
      refine z_iald hX zq_494 (by decide) (zc_3158 _ _ _) h2 dX12_keepsAll_19 ?_
      replace hf := zchk_some hf
      obtain ⟨h3, hf⟩ := hf
      replace hf := zput_some hf
      obtain ⟨g4, eg4, hf⟩ := hf
      refine z_iast hX zq_497 (by decide) (zc_1460 _ _) h3 dX12_keepsAll_20 (zW.eqg eg4 ?_)
      refine z_iincc (lv' := [(1, .int (v1 + 1)), (0, .ref (zB X + 493))]) hX dX12_keepsAll_21 hn (by decide) 1 rfl ci_1 rfl ?_
      refine z_goto hX 2 dX12_keepsAll_24 (by decide) ?_
      refine zW.sub [1, 0] rfl ?_
      exact ih (v1 + 1) g4 hf
set_option maxHeartbeats 4000000 in
set_option maxRecDepth 100000 in
theorem fX12_keepsAll_ok {X : zX} (hX : zCX X cX12_keepsAll RX12) (hT : zNT X) (hR : X.2.2.2.1 = zrm 0 0) (hr : X.2.2.2.2.2.2.2.2.1.sig.returnType = none) (hn : X.2.2.2.2.2.2.2.2.2.1.maxLocals = 2)  {g : zM} {r : zM} (hf : fX12_keepsAll g = some r) : zW X (zQ X (.inl (none, r)) 0) 0 0 0 [(0, .ref (zB X + 493))] [] g := by
  unfold fX12_keepsAll at hf
  refine z_iconst hX dX12_keepsAll_0 ci_0 ?_
  refine z_istore_n (lv' := [(1, .int 0), (0, .ref (zB X + 493))]) hX dX12_keepsAll_1 hn (by decide) rfl ?_
  refine zW.sub [1, 0] rfl ?_
  exact fX12_keepsAll_L2_ok hX hT hR hr hn  zFU 0 g hf
set_option maxHeartbeats 4000000 in
set_option maxRecDepth 100000 in
theorem ct_X12_keepsAll {E : zE} {g : zM} {r : zM} (hf : fX12_keepsAll g = some r) : zCt yX12_keepsAll cX12_keepsAll 2 none 0 0 E [.ref (E.1 + 493)] g (.inl (none, r)) := by
  refine zmet (by decide) (zl rfl) (fun X hE hX hT hR hr hn => ?_)
  subst hE
  exact fX12_keepsAll_ok hX hT hR hr hn  hf
def fX12_bringsBack_L2  : Nat → Int32 → zM → Option zM
  | 0, _, _ => none
  | n + 1, v1, g => if 460 ≤ v1 then some g else zchk v1 460 (zchk v1 2158 (zput g 494 v1.toNatClampNeg (g 497 v1.toNatClampNeg) (fun g4 => fX12_bringsBack_L2 n (v1 + 1) g4)))
def fX12_bringsBack (g : zM) : Option zM := fX12_bringsBack_L2 zFU 0 g
set_option maxHeartbeats 4000000 in
set_option maxRecDepth 100000 in
theorem fX12_bringsBack_L2_ok {X : zX} (hX : zCX X cX12_bringsBack RX12) (hT : zNT X) (hR : X.2.2.2.1 = zrm 0 0) (hr : X.2.2.2.2.2.2.2.2.1.sig.returnType = none) (hn : X.2.2.2.2.2.2.2.2.2.1.maxLocals = 2)  {r : zM}  : ∀ (n : Nat) (v1 : Int32) (g : zM), fX12_bringsBack_L2 n v1 g = some r → zW X (zQ X (.inl (none, r)) 0) 0 0 2 [(0, .ref (zB X + 493)), (1, .int v1)] [] g := by
  intro n
  induction n with
  | zero => intro v1 g hf; exact zno hf
  | succ n ih =>
    intro v1 g hf
    rw [fX12_bringsBack_L2] at hf
    refine z_iload_n hX dX12_bringsBack_2 1 rfl ?_
    refine z_sipush hX dX12_bringsBack_3 cs_460 ?_
    refine z_icmp_ge hX 27 dX12_bringsBack_6 (by decide) (fun h1 => ?_) (fun h1 => ?_)
    · replace hf := zif_pos h1 hf
      obtain rfl := Option.some.inj hf
      exact z_vret hX hr (zl rfl) (zl rfl) dX12_bringsBack_27
    · replace hf := zif_neg h1 hf
      refine z_aload_n hX dX12_bringsBack_9 0 rfl ?_
      refine gf_Model_world hX zq_493 q1495 dX12_bringsBack_10 ?_
      refine z_iload_n hX dX12_bringsBack_13 1 rfl ?_
      refine z_aload_n hX dX12_bringsBack_14 0 rfl ?_
      refine gf_Model_trial hX zq_493 q1498 dX12_bringsBack_15 ?_
      refine z_iload_n hX dX12_bringsBack_18 1 rfl ?_
      replace hf := zchk_some hf
      obtain ⟨h2, hf⟩ := hf
      refine z_iald hX zq_497 (by decide) (zc_1460 _ _ _) h2 dX12_bringsBack_19 ?_
      replace hf := zchk_some hf
      obtain ⟨h3, hf⟩ := hf
      replace hf := zput_some hf
      obtain ⟨g4, eg4, hf⟩ := hf
      refine z_iast hX zq_494 (by decide) (zc_3158 _ _) h3 dX12_bringsBack_20 (zW.eqg eg4 ?_)
      refine z_iincc (lv' := [(1, .int (v1 + 1)), (0, .ref (zB X + 493))]) hX dX12_bringsBack_21 hn (by decide) 1 rfl ci_1 rfl ?_
      refine z_goto hX 2 dX12_bringsBack_24 (by decide) ?_
      refine zW.sub [1, 0] rfl ?_
      exact ih (v1 + 1) g4 hf
set_option maxHeartbeats 4000000 in
set_option maxRecDepth 100000 in
theorem fX12_bringsBack_ok {X : zX} (hX : zCX X cX12_bringsBack RX12) (hT : zNT X) (hR : X.2.2.2.1 = zrm 0 0) (hr : X.2.2.2.2.2.2.2.2.1.sig.returnType = none) (hn : X.2.2.2.2.2.2.2.2.2.1.maxLocals = 2)  {g : zM} {r : zM} (hf : fX12_bringsBack g = some r) : zW X (zQ X (.inl (none, r)) 0) 0 0 0 [(0, .ref (zB X + 493))] [] g := by
  unfold fX12_bringsBack at hf
  refine z_iconst hX dX12_bringsBack_0 ci_0 ?_
  refine z_istore_n (lv' := [(1, .int 0), (0, .ref (zB X + 493))]) hX dX12_bringsBack_1 hn (by decide) rfl ?_
  refine zW.sub [1, 0] rfl ?_
  exact fX12_bringsBack_L2_ok hX hT hR hr hn  zFU 0 g hf
set_option maxHeartbeats 4000000 in
set_option maxRecDepth 100000 in
theorem ct_X12_bringsBack {E : zE} {g : zM} {r : zM} (hf : fX12_bringsBack g = some r) : zCt yX12_bringsBack cX12_bringsBack 2 none 0 0 E [.ref (E.1 + 493)] g (.inl (none, r)) := by
  refine zmet (by decide) (zl rfl) (fun X hE hX hT hR hr hn => ?_)
  subst hE
  exact fX12_bringsBack_ok hX hT hR hr hn  hf
def fX12_trial_L51 (v1 : Int32) (v2 : Int32) (k67 : zM → Option (Int32 × zM)) : Nat → Int32 → zM → Option (Int32 × zM)
  | 0, _, _ => none
  | n + 1, v3, g => if v1 ≤ v3 then k67 g else zb2 (fX12_oneWeek g) (fun r_10 g10 => fX12_trial_L51 v1 v2 k67 n (v3 + 1) g10)
def fX12_trial (v1 : Int32) (v2 : Int32) (g : zM) : Option (Int32 × zM) := zput g 493 0 0 (fun g1 => zjoin (fun t0_2 => zb2 (fX12_throwsIf t0_2 1 g1) (fun r_3 g3 => if r_3 = 0 then zb (fX12_noAhead v1 g3) (fun r_5 => zb2 (fX12_throwsIf r_5 2 g3) (fun r_6 g6 => if r_6 = 0 then zb (fX12_keepsAll g6) (fun g8 => fX12_trial_L51 v1 v2 (fun g11 => if v2 = ((-1)) then zb (fX12_allLines g11) (fun r_16 => zb (fX12_bringsBack g11) (fun g17 => some (r_16, g17))) else zb (fX12_lines v2 g11) (fun r_13 => zb (fX12_kindOf v2 (r_13 - 1) g11) (fun r_14 => zb (fX12_bringsBack g11) (fun g15 => some (r_14, g15))))) zFU 0 g8) else some (0, g6))) else some (0, g3)) : Int32 → Option (Int32 × zM)) (fun k24 => if v2 = ((-1)) then k24 0 else zb (fX12_noLetter v2 g1) (fun r_19 => if r_19 = 0 then k24 0 else k24 1)))
set_option maxHeartbeats 4000000 in
set_option maxRecDepth 100000 in
theorem fX12_trial_L51_ok {X : zX} (hX : zCX X cX12_trial RX12) (hT : zNT X) (hR : X.2.2.2.1 = zrm 7 0) (hr : X.2.2.2.2.2.2.2.2.1.sig.returnType = (some .int)) (hn : X.2.2.2.2.2.2.2.2.2.1.maxLocals = 4) {v1 : Int32} {v2 : Int32} {k67 : zM → Option (Int32 × zM)} {r : Int32 × zM} (hk67 : ∀ (g : zM), k67 g = some r → zW X (zQ X (.inl (some (.int r.1), r.2)) 0) 0 0 67 [(0, .ref (zB X + 493)), (2, .int v2)] [] g) : ∀ (n : Nat) (v3 : Int32) (g : zM), fX12_trial_L51 v1 v2 k67 n v3 g = some r → zW X (zQ X (.inl (some (.int r.1), r.2)) 0) 0 0 51 [(0, .ref (zB X + 493)), (1, .int v1), (2, .int v2), (3, .int v3)] [] g := by
  intro n
  induction n with
  | zero => intro v3 g hf; exact zno hf
  | succ n ih =>
    intro v3 g hf
    rw [fX12_trial_L51] at hf
    refine z_iload_n hX dX12_trial_51 3 rfl ?_
    refine z_iload_n hX dX12_trial_52 1 rfl ?_
    refine z_icmp_ge hX 67 dX12_trial_53 (by decide) (fun h9 => ?_) (fun h9 => ?_)
    · replace hf := zif_pos h9 hf
      refine zW.sub [0, 2] rfl ?_
      exact hk67 g hf
    · replace hf := zif_neg h9 hf
      refine z_aload_n hX dX12_trial_56 0 rfl ?_
      replace hf := zb2_some hf
      obtain ⟨r_10, g10, h10, hf⟩ := hf
      refine z_callV1 hX ok_X12_oneWeek q1916 q1918 q86 (zrm_ok hR (by decide)) (ct_X12_oneWeek  h10) (zrec_Model hX zq_493) dX12_trial_57 rfl rfl ?_
      refine z_pop hX dX12_trial_60 rfl ?_
      refine z_iincc (lv' := [(3, .int (v3 + 1)), (0, .ref (zB X + 493)), (1, .int v1), (2, .int v2)]) hX dX12_trial_61 hn (by decide) 3 rfl ci_1 rfl ?_
      refine z_goto hX 51 dX12_trial_64 (by decide) ?_
      refine zW.sub [1, 2, 3, 0] rfl ?_
      exact ih (v3 + 1) g10 hf
set_option maxHeartbeats 4000000 in
set_option maxRecDepth 100000 in
theorem fX12_trial_ok {X : zX} (hX : zCX X cX12_trial RX12) (hT : zNT X) (hR : X.2.2.2.1 = zrm 7 0) (hr : X.2.2.2.2.2.2.2.2.1.sig.returnType = (some .int)) (hn : X.2.2.2.2.2.2.2.2.2.1.maxLocals = 4) {v1 : Int32} {v2 : Int32} {g : zM} {r : Int32 × zM} (hf : fX12_trial v1 v2 g = some r) : zW X (zQ X (.inl (some (.int r.1), r.2)) 0) 0 0 0 [(0, .ref (zB X + 493)), (1, .int v1), (2, .int v2)] [] g := by
  unfold fX12_trial at hf
  refine z_aload_n hX dX12_trial_0 0 rfl ?_
  refine z_iconst hX dX12_trial_1 ci_0 ?_
  replace hf := zput_some hf
  obtain ⟨g1, eg1, hf⟩ := hf
  refine gp_Model_thrown hX zq_493 q1494 dX12_trial_2 (zW.eqg eg1 ?_)
  refine z_aload_n hX dX12_trial_5 0 rfl ?_
  refine z_iload_n hX dX12_trial_6 2 rfl ?_
  refine z_iconst hX dX12_trial_7 ci_m1 ?_
  refine zjoin_ok (P := fun (k : Int32 → Option (Int32 × zM)) => ∀ (t0_2 : Int32), k t0_2 = some r → zW X (zQ X (.inl (some (.int r.1), r.2)) 0) 0 0 24 [(0, .ref (zB X + 493)), (1, .int v1), (2, .int v2)] [.int t0_2, .ref (zB X + 493)] g1) hf (fun t0_2 hf => ?_) (fun k24 hk24 hf => ?_)
  · refine z_iconst hX dX12_trial_24 ci_1 ?_
    replace hf := zb2_some hf
    obtain ⟨r_3, g3, h3, hf⟩ := hf
    refine z_callV1 hX ok_X12_throwsIf q1775 q1777 q67 (zrm_ok hR (by decide)) (ct_X12_throwsIf  h3) (zrec_Model hX zq_493) dX12_trial_25 rfl rfl ?_
    refine z_if_ne hX 43 dX12_trial_28 (by decide) (fun h4 => ?_) (fun h4 => ?_)
    · replace hf := zif_neg h4 hf
      refine z_iconst hX dX12_trial_43 ci_0 ?_
      obtain rfl := Option.some.inj hf
      exact z_iret hX hr rfl (zl rfl) (zl rfl) dX12_trial_44
    · replace hf := zif_pos h4 hf
      refine z_aload_n hX dX12_trial_31 0 rfl ?_
      refine z_iload_n hX dX12_trial_32 1 rfl ?_
      replace hf := zb_some hf
      obtain ⟨r_5, h5, hf⟩ := hf
      refine z_callS1 hX ok_X12_noAhead rfl q1934 q1935 (zrm_ok hR (by decide)) (ct_X12_noAhead  h5) dX12_trial_33 rfl rfl ?_
      refine z_iconst hX dX12_trial_36 ci_2 ?_
      replace hf := zb2_some hf
      obtain ⟨r_6, g6, h6, hf⟩ := hf
      refine z_callV1 hX ok_X12_throwsIf q1775 q1777 q67 (zrm_ok hR (by decide)) (ct_X12_throwsIf  h6) (zrec_Model hX zq_493) dX12_trial_37 rfl rfl ?_
      refine z_if_eq hX 45 dX12_trial_40 (by decide) (fun h7 => ?_) (fun h7 => ?_)
      · replace hf := zif_pos h7 hf
        refine z_aload_n hX dX12_trial_45 0 rfl ?_
        replace hf := zb_some hf
        obtain ⟨g8, h8, hf⟩ := hf
        refine z_callV0 hX ok_X12_keepsAll q2134 q2136 q109 (zrm_ok hR (by decide)) (ct_X12_keepsAll  h8) (zrec_Model hX zq_493) dX12_trial_46 rfl rfl ?_
        refine z_iconst hX dX12_trial_49 ci_0 ?_
        refine z_istore_n (lv' := [(3, .int 0), (0, .ref (zB X + 493)), (1, .int v1), (2, .int v2)]) hX dX12_trial_50 hn (by decide) rfl ?_
        refine zW.sub [1, 2, 3, 0] rfl ?_
        refine fX12_trial_L51_ok hX hT hR hr hn (fun g11 hf => ?_) zFU 0 g8 hf
        · refine z_iload_n hX dX12_trial_67 1 rfl ?_
          refine z_iconst hX dX12_trial_68 ci_m1 ?_
          refine z_icmp_ne hX 79 dX12_trial_69 (by decide) (fun h12 => ?_) (fun h12 => ?_)
          · replace hf := zif_neg h12 hf
            refine z_aload_n hX dX12_trial_79 0 rfl ?_
            refine z_iload_n hX dX12_trial_80 1 rfl ?_
            refine z_aload_n hX dX12_trial_81 0 rfl ?_
            refine z_iload_n hX dX12_trial_82 1 rfl ?_
            replace hf := zb_some hf
            obtain ⟨r_13, h13, hf⟩ := hf
            refine z_callV1 hX ok_X12_lines q1683 q1685 q48 (zrm_ok hR (by decide)) (ct_X12_lines  h13) (zrec_Model hX zq_493) dX12_trial_83 rfl rfl ?_
            refine z_iconst hX dX12_trial_86 ci_1 ?_
            refine z_isub hX dX12_trial_87 ?_
            replace hf := zb_some hf
            obtain ⟨r_14, h14, hf⟩ := hf
            refine z_callV1 hX ok_X12_kindOf q1795 q1797 q70 (zrm_ok hR (by decide)) (ct_X12_kindOf  h14) (zrec_Model hX zq_493) dX12_trial_88 rfl rfl ?_
            refine z_istore_n (lv' := [(3, .int r_14), (0, .ref (zB X + 493)), (2, .int v2)]) hX dX12_trial_91 hn (by decide) rfl ?_
            refine z_aload_n hX dX12_trial_92 1 rfl ?_
            replace hf := zb_some hf
            obtain ⟨g15, h15, hf⟩ := hf
            refine z_callV0 hX ok_X12_bringsBack q2142 q2144 q111 (zrm_ok hR (by decide)) (ct_X12_bringsBack  h15) (zrec_Model hX zq_493) dX12_trial_93 rfl rfl ?_
            refine z_iload_n hX dX12_trial_96 0 rfl ?_
            obtain rfl := Option.some.inj hf
            exact z_iret hX hr rfl (zl rfl) (zl rfl) dX12_trial_97
          · replace hf := zif_pos h12 hf
            refine z_aload_n hX dX12_trial_72 0 rfl ?_
            replace hf := zb_some hf
            obtain ⟨r_16, h16, hf⟩ := hf
            refine z_callV1 hX ok_X12_allLines q2138 q2140 q110 (zrm_ok hR (by decide)) (ct_X12_allLines  h16) (zrec_Model hX zq_493) dX12_trial_73 rfl rfl ?_
            refine z_goto hX 91 dX12_trial_76 (by decide) ?_
            refine z_istore_n (lv' := [(3, .int r_16), (0, .ref (zB X + 493)), (2, .int v2)]) hX dX12_trial_91 hn (by decide) rfl ?_
            refine z_aload_n hX dX12_trial_92 1 rfl ?_
            replace hf := zb_some hf
            obtain ⟨g17, h17, hf⟩ := hf
            refine z_callV0 hX ok_X12_bringsBack q2142 q2144 q111 (zrm_ok hR (by decide)) (ct_X12_bringsBack  h17) (zrec_Model hX zq_493) dX12_trial_93 rfl rfl ?_
            refine z_iload_n hX dX12_trial_96 0 rfl ?_
            obtain rfl := Option.some.inj hf
            exact z_iret hX hr rfl (zl rfl) (zl rfl) dX12_trial_97
      · replace hf := zif_neg h7 hf
        refine z_iconst hX dX12_trial_43 ci_0 ?_
        obtain rfl := Option.some.inj hf
        exact z_iret hX hr rfl (zl rfl) (zl rfl) dX12_trial_44
  · refine z_icmp_eq hX 23 dX12_trial_8 (by decide) (fun h18 => ?_) (fun h18 => ?_)
    · replace hf := zif_pos h18 hf
      refine z_iconst hX dX12_trial_23 ci_0 ?_
      exact hk24 0 hf
    · replace hf := zif_neg h18 hf
      refine z_aload_n hX dX12_trial_11 0 rfl ?_
      refine z_iload_n hX dX12_trial_12 2 rfl ?_
      replace hf := zb_some hf
      obtain ⟨r_19, h19, hf⟩ := hf
      refine z_callV1 hX ok_X12_noLetter q1787 q1789 q68 (zrm_ok hR (by decide)) (ct_X12_noLetter  h19) (zrec_Model hX zq_493) dX12_trial_13 rfl rfl ?_
      refine z_if_eq hX 23 dX12_trial_16 (by decide) (fun h20 => ?_) (fun h20 => ?_)
      · replace hf := zif_pos h20 hf
        refine z_iconst hX dX12_trial_23 ci_0 ?_
        exact hk24 0 hf
      · replace hf := zif_neg h20 hf
        refine z_iconst hX dX12_trial_19 ci_1 ?_
        refine z_goto hX 24 dX12_trial_20 (by decide) ?_
        exact hk24 1 hf
set_option maxHeartbeats 4000000 in
set_option maxRecDepth 100000 in
theorem ct_X12_trial {E : zE} {v1 : Int32} {v2 : Int32} {g : zM} {r : Int32 × zM} (hf : fX12_trial v1 v2 g = some r) : zCt yX12_trial cX12_trial 4 (some .int) 7 0 E [.ref (E.1 + 493), .int v1, .int v2] g (.inl (some (.int r.1), r.2)) := by
  refine zmet (by decide) (zl rfl) (fun X hE hX hT hR hr hn => ?_)
  subst hE
  exact fX12_trial_ok hX hT hR hr hn  hf
def fX12_span_L47 (v1 : Int32) (v2 : Int32) (v3 : Int32) (v4 : Int32) (k64 : zM → Option (Int32 × zM)) : Nat → Int32 → zM → Option (Int32 × zM)
  | 0, _, _ => none
  | n + 1, v5, g => if v1 ≤ v5 then k64 g else zb2 (fX12_oneWeek g) (fun r_10 g10 => fX12_span_L47 v1 v2 v3 v4 k64 n (v5 + 1) g10)
def fX12_span_L28 (v1 : Int32) (v2 : Int32) : Nat → Int32 → Int32 → zM → Option (Int32 × zM)
  | 0, _, _, _ => none
  | n + 1, v3, v4, g => if 6 < v4 then some (v3, g) else zchk 7 2158 (zput g 494 (7 : Int32).toNatClampNeg v4 (fun g8 => fX12_span_L47 v1 v2 v3 v4 (fun g11 => zb (fX12_allLines g11) (fun r_12 => zb (fX12_bringsBack g11) (fun g13 => if 0 ≤ v3 then if v2 = 0 then fX12_span_L28 v1 v2 n (if r_12 < v3 then r_12 else v3) (v4 + 1) g13 else fX12_span_L28 v1 v2 n (if v3 < r_12 then r_12 else v3) (v4 + 1) g13 else fX12_span_L28 v1 v2 n r_12 (v4 + 1) g13))) zFU 0 g8))
def fX12_span (v1 : Int32) (v2 : Int32) (g : zM) : Option (Int32 × zM) := zput g 493 0 0 (fun g1 => zb (fX12_noAhead v1 g1) (fun r_2 => zb2 (fX12_throwsIf r_2 1 g1) (fun r_3 g3 => if r_3 = 0 then zb (fX12_keepsAll g3) (fun g5 => fX12_span_L28 v1 v2 zFU ((-1)) 1 g5) else some (0, g3))))
set_option maxHeartbeats 4000000 in
set_option maxRecDepth 100000 in
theorem fX12_span_L47_ok {X : zX} (hX : zCX X cX12_span RX12) (hT : zNT X) (hR : X.2.2.2.1 = zrm 7 0) (hr : X.2.2.2.2.2.2.2.2.1.sig.returnType = (some .int)) (hn : X.2.2.2.2.2.2.2.2.2.1.maxLocals = 6) {v1 : Int32} {v2 : Int32} {v3 : Int32} {v4 : Int32} {k64 : zM → Option (Int32 × zM)} {r : Int32 × zM} (hk64 : ∀ (g : zM), k64 g = some r → zW X (zQ X (.inl (some (.int r.1), r.2)) 0) 0 0 64 [(0, .ref (zB X + 493)), (1, .int v1), (2, .int v2), (3, .int v3), (4, .int v4)] [] g) : ∀ (n : Nat) (v5 : Int32) (g : zM), fX12_span_L47 v1 v2 v3 v4 k64 n v5 g = some r → zW X (zQ X (.inl (some (.int r.1), r.2)) 0) 0 0 47 [(0, .ref (zB X + 493)), (1, .int v1), (2, .int v2), (3, .int v3), (4, .int v4), (5, .int v5)] [] g := by
  intro n
  induction n with
  | zero => intro v5 g hf; exact zno hf
  | succ n ih =>
    intro v5 g hf
    rw [fX12_span_L47] at hf
    refine z_iload hX dX12_span_47 5 rfl ?_
    refine z_iload_n hX dX12_span_49 1 rfl ?_
    refine z_icmp_ge hX 64 dX12_span_50 (by decide) (fun h9 => ?_) (fun h9 => ?_)
    · replace hf := zif_pos h9 hf
      refine zW.sub [0, 1, 2, 3, 4] rfl ?_
      exact hk64 g hf
    · replace hf := zif_neg h9 hf
      refine z_aload_n hX dX12_span_53 0 rfl ?_
      replace hf := zb2_some hf
      obtain ⟨r_10, g10, h10, hf⟩ := hf
      refine z_callV1 hX ok_X12_oneWeek q1916 q1918 q86 (zrm_ok hR (by decide)) (ct_X12_oneWeek  h10) (zrec_Model hX zq_493) dX12_span_54 rfl rfl ?_
      refine z_pop hX dX12_span_57 rfl ?_
      refine z_iincc (lv' := [(5, .int (v5 + 1)), (0, .ref (zB X + 493)), (1, .int v1), (2, .int v2), (3, .int v3), (4, .int v4)]) hX dX12_span_58 hn (by decide) 5 rfl ci_1 rfl ?_
      refine z_goto hX 47 dX12_span_61 (by decide) ?_
      refine zW.sub [1, 2, 3, 4, 5, 0] rfl ?_
      exact ih (v5 + 1) g10 hf
set_option maxHeartbeats 4000000 in
set_option maxRecDepth 100000 in
theorem fX12_span_L28_ok {X : zX} (hX : zCX X cX12_span RX12) (hT : zNT X) (hR : X.2.2.2.1 = zrm 7 0) (hr : X.2.2.2.2.2.2.2.2.1.sig.returnType = (some .int)) (hn : X.2.2.2.2.2.2.2.2.2.1.maxLocals = 6) {v1 : Int32} {v2 : Int32} {r : Int32 × zM}  : ∀ (n : Nat) (v3 : Int32) (v4 : Int32) (g : zM), fX12_span_L28 v1 v2 n v3 v4 g = some r → zW X (zQ X (.inl (some (.int r.1), r.2)) 0) 0 0 28 [(0, .ref (zB X + 493)), (1, .int v1), (2, .int v2), (3, .int v3), (4, .int v4)] [] g := by
  intro n
  induction n with
  | zero => intro v3 v4 g hf; exact zno hf
  | succ n ih =>
    intro v3 v4 g hf
    rw [fX12_span_L28] at hf
    refine z_iload hX dX12_span_28 4 rfl ?_
    refine z_bipush hX dX12_span_30 cb_6 ?_
    refine z_icmp_gt hX 109 dX12_span_32 (by decide) (fun h6 => ?_) (fun h6 => ?_)
    · replace hf := zif_pos h6 hf
      refine z_iload_n hX dX12_span_109 3 rfl ?_
      obtain rfl := Option.some.inj hf
      exact z_iret hX hr rfl (zl rfl) (zl rfl) dX12_span_110
    · replace hf := zif_neg h6 hf
      refine z_aload_n hX dX12_span_35 0 rfl ?_
      refine gf_Model_world hX zq_493 q1495 dX12_span_36 ?_
      refine z_bipush hX dX12_span_39 cb_7 ?_
      refine z_iload hX dX12_span_41 4 rfl ?_
      replace hf := zchk_some hf
      obtain ⟨h7, hf⟩ := hf
      replace hf := zput_some hf
      obtain ⟨g8, eg8, hf⟩ := hf
      refine z_iast hX zq_494 (by decide) (zc_3158 _ _) h7 dX12_span_43 (zW.eqg eg8 ?_)
      refine z_iconst hX dX12_span_44 ci_0 ?_
      refine z_istore (lv' := [(5, .int 0), (0, .ref (zB X + 493)), (1, .int v1), (2, .int v2), (3, .int v3), (4, .int v4)]) hX dX12_span_45 hn (by decide) rfl ?_
      refine zW.sub [1, 2, 3, 4, 5, 0] rfl ?_
      refine fX12_span_L47_ok hX hT hR hr hn (fun g11 hf => ?_) zFU 0 g8 hf
      · refine z_aload_n hX dX12_span_64 0 rfl ?_
        replace hf := zb_some hf
        obtain ⟨r_12, h12, hf⟩ := hf
        refine z_callV1 hX ok_X12_allLines q2138 q2140 q110 (zrm_ok hR (by decide)) (ct_X12_allLines  h12) (zrec_Model hX zq_493) dX12_span_65 rfl rfl ?_
        refine z_istore (lv' := [(5, .int r_12), (0, .ref (zB X + 493)), (1, .int v1), (2, .int v2), (3, .int v3), (4, .int v4)]) hX dX12_span_68 hn (by decide) rfl ?_
        refine z_aload_n hX dX12_span_70 1 rfl ?_
        replace hf := zb_some hf
        obtain ⟨g13, h13, hf⟩ := hf
        refine z_callV0 hX ok_X12_bringsBack q2142 q2144 q111 (zrm_ok hR (by decide)) (ct_X12_bringsBack  h13) (zrec_Model hX zq_493) dX12_span_71 rfl rfl ?_
        refine z_iload_n hX dX12_span_74 4 rfl ?_
        refine z_if_ge hX 83 dX12_span_75 (by decide) (fun h14 => ?_) (fun h14 => ?_)
        · replace hf := zif_pos h14 hf
          refine z_iload_n hX dX12_span_83 3 rfl ?_
          refine z_if_eq hX 96 dX12_span_84 (by decide) (fun h15 => ?_) (fun h15 => ?_)
          · replace hf := zif_pos h15 hf
            refine z_iload_n hX dX12_span_96 4 rfl ?_
            refine z_iload hX dX12_span_97 0 rfl ?_
            refine z_min hX hR ⟨zl rfl, zl rfl⟩ q1929 dX12_span_99 (zl rfl) ?_
            refine z_istore_n (lv' := [(3, .int (if r_12 < v3 then r_12 else v3)), (5, .int r_12), (0, .ref (zB X + 493)), (1, .int v1), (2, .int v2), (4, .int v4)]) hX dX12_span_102 hn (by decide) rfl ?_
            refine z_iincc (lv' := [(4, .int (v4 + 1)), (3, .int (if r_12 < v3 then r_12 else v3)), (5, .int r_12), (0, .ref (zB X + 493)), (1, .int v1), (2, .int v2)]) hX dX12_span_103 hn (by decide) 5 rfl ci_1 rfl ?_
            refine z_goto hX 28 dX12_span_106 (by decide) ?_
            refine zW.sub [3, 4, 5, 1, 0] rfl ?_
            exact ih (if r_12 < v3 then r_12 else v3) (v4 + 1) g13 hf
          · replace hf := zif_neg h15 hf
            refine z_iload_n hX dX12_span_87 4 rfl ?_
            refine z_iload hX dX12_span_88 0 rfl ?_
            refine z_max hX hR ⟨zl rfl, zl rfl⟩ q2050 dX12_span_90 (zl rfl) ?_
            refine z_goto hX 102 dX12_span_93 (by decide) ?_
            refine z_istore_n (lv' := [(3, .int (if v3 < r_12 then r_12 else v3)), (5, .int r_12), (0, .ref (zB X + 493)), (1, .int v1), (2, .int v2), (4, .int v4)]) hX dX12_span_102 hn (by decide) rfl ?_
            refine z_iincc (lv' := [(4, .int (v4 + 1)), (3, .int (if v3 < r_12 then r_12 else v3)), (5, .int r_12), (0, .ref (zB X + 493)), (1, .int v1), (2, .int v2)]) hX dX12_span_103 hn (by decide) 5 rfl ci_1 rfl ?_
            refine z_goto hX 28 dX12_span_106 (by decide) ?_
            refine zW.sub [3, 4, 5, 1, 0] rfl ?_
            exact ih (if v3 < r_12 then r_12 else v3) (v4 + 1) g13 hf
        · replace hf := zif_neg h14 hf
          refine z_iload hX dX12_span_78 0 rfl ?_
          refine z_goto hX 102 dX12_span_80 (by decide) ?_
          refine z_istore_n (lv' := [(3, .int r_12), (5, .int r_12), (0, .ref (zB X + 493)), (1, .int v1), (2, .int v2), (4, .int v4)]) hX dX12_span_102 hn (by decide) rfl ?_
          refine z_iincc (lv' := [(4, .int (v4 + 1)), (3, .int r_12), (5, .int r_12), (0, .ref (zB X + 493)), (1, .int v1), (2, .int v2)]) hX dX12_span_103 hn (by decide) 5 rfl ci_1 rfl ?_
          refine z_goto hX 28 dX12_span_106 (by decide) ?_
          refine zW.sub [3, 4, 5, 1, 0] rfl ?_
          exact ih r_12 (v4 + 1) g13 hf
set_option maxHeartbeats 4000000 in
set_option maxRecDepth 100000 in
theorem fX12_span_ok {X : zX} (hX : zCX X cX12_span RX12) (hT : zNT X) (hR : X.2.2.2.1 = zrm 7 0) (hr : X.2.2.2.2.2.2.2.2.1.sig.returnType = (some .int)) (hn : X.2.2.2.2.2.2.2.2.2.1.maxLocals = 6) {v1 : Int32} {v2 : Int32} {g : zM} {r : Int32 × zM} (hf : fX12_span v1 v2 g = some r) : zW X (zQ X (.inl (some (.int r.1), r.2)) 0) 0 0 0 [(0, .ref (zB X + 493)), (1, .int v1), (2, .int v2)] [] g := by
  unfold fX12_span at hf
  refine z_aload_n hX dX12_span_0 0 rfl ?_
  refine z_iconst hX dX12_span_1 ci_0 ?_
  replace hf := zput_some hf
  obtain ⟨g1, eg1, hf⟩ := hf
  refine gp_Model_thrown hX zq_493 q1494 dX12_span_2 (zW.eqg eg1 ?_)
  refine z_aload_n hX dX12_span_5 0 rfl ?_
  refine z_iload_n hX dX12_span_6 1 rfl ?_
  replace hf := zb_some hf
  obtain ⟨r_2, h2, hf⟩ := hf
  refine z_callS1 hX ok_X12_noAhead rfl q1934 q1935 (zrm_ok hR (by decide)) (ct_X12_noAhead  h2) dX12_span_7 rfl rfl ?_
  refine z_iconst hX dX12_span_10 ci_1 ?_
  replace hf := zb2_some hf
  obtain ⟨r_3, g3, h3, hf⟩ := hf
  refine z_callV1 hX ok_X12_throwsIf q1775 q1777 q67 (zrm_ok hR (by decide)) (ct_X12_throwsIf  h3) (zrec_Model hX zq_493) dX12_span_11 rfl rfl ?_
  refine z_if_eq hX 19 dX12_span_14 (by decide) (fun h4 => ?_) (fun h4 => ?_)
  · replace hf := zif_pos h4 hf
    refine z_aload_n hX dX12_span_19 0 rfl ?_
    replace hf := zb_some hf
    obtain ⟨g5, h5, hf⟩ := hf
    refine z_callV0 hX ok_X12_keepsAll q2134 q2136 q109 (zrm_ok hR (by decide)) (ct_X12_keepsAll  h5) (zrec_Model hX zq_493) dX12_span_20 rfl rfl ?_
    refine z_iconst hX dX12_span_23 ci_m1 ?_
    refine z_istore_n (lv' := [(3, .int ((-1))), (0, .ref (zB X + 493)), (1, .int v1), (2, .int v2)]) hX dX12_span_24 hn (by decide) rfl ?_
    refine z_iconst hX dX12_span_25 ci_1 ?_
    refine z_istore (lv' := [(4, .int 1), (3, .int ((-1))), (0, .ref (zB X + 493)), (1, .int v1), (2, .int v2)]) hX dX12_span_26 hn (by decide) rfl ?_
    refine zW.sub [2, 3, 4, 1, 0] rfl ?_
    exact fX12_span_L28_ok hX hT hR hr hn  zFU ((-1)) 1 g5 hf
  · replace hf := zif_neg h4 hf
    refine z_iconst hX dX12_span_17 ci_0 ?_
    obtain rfl := Option.some.inj hf
    exact z_iret hX hr rfl (zl rfl) (zl rfl) dX12_span_18
set_option maxHeartbeats 4000000 in
set_option maxRecDepth 100000 in
theorem ct_X12_span {E : zE} {v1 : Int32} {v2 : Int32} {g : zM} {r : Int32 × zM} (hf : fX12_span v1 v2 g = some r) : zCt yX12_span cX12_span 6 (some .int) 7 0 E [.ref (E.1 + 493), .int v1, .int v2] g (.inl (some (.int r.1), r.2)) := by
  refine zmet (by decide) (zl rfl) (fun X hE hX hT hR hr hn => ?_)
  subst hE
  exact fX12_span_ok hX hT hR hr hn  hf
def fX12_cameIn_L5 (v1 : Int32) (v2 : Int32) (g : zM) : Nat → Int32 → Int32 → Option Int32
  | 0, _, _ => none
  | n + 1, v3, v4 => zb (fX12_lines v1 g) (fun r_1 => if r_1 ≤ v4 then some v3 else zb (fX12_of v1 (29 + v4) g) (fun r_3 => if r_3 = v2 then fX12_cameIn_L5 v1 v2 g n (v3 + 1) (v4 + 1) else fX12_cameIn_L5 v1 v2 g n (v3 + 0) (v4 + 1)))
def fX12_cameIn (v1 : Int32) (v2 : Int32) (g : zM) : Option Int32 := fX12_cameIn_L5 v1 v2 g zFU 0 0
set_option maxHeartbeats 4000000 in
set_option maxRecDepth 100000 in
theorem fX12_cameIn_L5_ok {X : zX} (hX : zCX X cX12_cameIn RX12) (hT : zNT X) (hR : X.2.2.2.1 = zrm 3 0) (hr : X.2.2.2.2.2.2.2.2.1.sig.returnType = (some .int)) (hn : X.2.2.2.2.2.2.2.2.2.1.maxLocals = 5) {v1 : Int32} {v2 : Int32} {g : zM} {r : Int32}  : ∀ (n : Nat) (v3 : Int32) (v4 : Int32), fX12_cameIn_L5 v1 v2 g n v3 v4 = some r → zW X (zQ X (.inl (some (.int r), g)) 0) 0 0 5 [(0, .ref (zB X + 493)), (1, .int v1), (2, .int v2), (3, .int v3), (4, .int v4)] [] g := by
  intro n
  induction n with
  | zero => intro v3 v4 hf; exact zno hf
  | succ n ih =>
    intro v3 v4 hf
    rw [fX12_cameIn_L5] at hf
    refine z_iload hX dX12_cameIn_5 4 rfl ?_
    refine z_aload_n hX dX12_cameIn_7 0 rfl ?_
    refine z_iload_n hX dX12_cameIn_8 1 rfl ?_
    replace hf := zb_some hf
    obtain ⟨r_1, h1, hf⟩ := hf
    refine z_callV1 hX ok_X12_lines q1683 q1685 q48 (zrm_ok hR (by decide)) (ct_X12_lines  h1) (zrec_Model hX zq_493) dX12_cameIn_9 rfl rfl ?_
    refine z_icmp_ge hX 43 dX12_cameIn_12 (by decide) (fun h2 => ?_) (fun h2 => ?_)
    · replace hf := zif_pos h2 hf
      refine z_iload_n hX dX12_cameIn_43 3 rfl ?_
      obtain rfl := Option.some.inj hf
      exact z_iret hX hr rfl (zl rfl) (zl rfl) dX12_cameIn_44
    · replace hf := zif_neg h2 hf
      refine z_iload_n hX dX12_cameIn_15 3 rfl ?_
      refine z_aload_n hX dX12_cameIn_16 0 rfl ?_
      refine z_iload_n hX dX12_cameIn_17 1 rfl ?_
      refine z_bipush hX dX12_cameIn_18 cb_29 ?_
      refine z_iload hX dX12_cameIn_20 4 rfl ?_
      refine z_iadd hX dX12_cameIn_22 ?_
      replace hf := zb_some hf
      obtain ⟨r_3, h3, hf⟩ := hf
      refine z_callV1 hX ok_X12_of q1687 q1689 q49 (zrm_ok hR (by decide)) (ct_X12_of  h3) (zrec_Model hX zq_493) dX12_cameIn_23 rfl rfl ?_
      refine z_iload_n hX dX12_cameIn_26 2 rfl ?_
      refine z_icmp_ne hX 34 dX12_cameIn_27 (by decide) (fun h4 => ?_) (fun h4 => ?_)
      · replace hf := zif_neg h4 hf
        refine z_iconst hX dX12_cameIn_34 ci_0 ?_
        refine z_iadd hX dX12_cameIn_35 ?_
        refine z_istore_n (lv' := [(3, .int (v3 + 0)), (0, .ref (zB X + 493)), (1, .int v1), (2, .int v2), (4, .int v4)]) hX dX12_cameIn_36 hn (by decide) rfl ?_
        refine z_iincc (lv' := [(4, .int (v4 + 1)), (3, .int (v3 + 0)), (0, .ref (zB X + 493)), (1, .int v1), (2, .int v2)]) hX dX12_cameIn_37 hn (by decide) 4 rfl ci_1 rfl ?_
        refine z_goto hX 5 dX12_cameIn_40 (by decide) ?_
        refine zW.sub [2, 3, 4, 1, 0] rfl ?_
        exact ih (v3 + 0) (v4 + 1) hf
      · replace hf := zif_pos h4 hf
        refine z_iconst hX dX12_cameIn_30 ci_1 ?_
        refine z_goto hX 35 dX12_cameIn_31 (by decide) ?_
        refine z_iadd hX dX12_cameIn_35 ?_
        refine z_istore_n (lv' := [(3, .int (v3 + 1)), (0, .ref (zB X + 493)), (1, .int v1), (2, .int v2), (4, .int v4)]) hX dX12_cameIn_36 hn (by decide) rfl ?_
        refine z_iincc (lv' := [(4, .int (v4 + 1)), (3, .int (v3 + 1)), (0, .ref (zB X + 493)), (1, .int v1), (2, .int v2)]) hX dX12_cameIn_37 hn (by decide) 4 rfl ci_1 rfl ?_
        refine z_goto hX 5 dX12_cameIn_40 (by decide) ?_
        refine zW.sub [2, 3, 4, 1, 0] rfl ?_
        exact ih (v3 + 1) (v4 + 1) hf
set_option maxHeartbeats 4000000 in
set_option maxRecDepth 100000 in
theorem fX12_cameIn_ok {X : zX} (hX : zCX X cX12_cameIn RX12) (hT : zNT X) (hR : X.2.2.2.1 = zrm 3 0) (hr : X.2.2.2.2.2.2.2.2.1.sig.returnType = (some .int)) (hn : X.2.2.2.2.2.2.2.2.2.1.maxLocals = 5) {v1 : Int32} {v2 : Int32} {g : zM} {r : Int32} (hf : fX12_cameIn v1 v2 g = some r) : zW X (zQ X (.inl (some (.int r), g)) 0) 0 0 0 [(0, .ref (zB X + 493)), (1, .int v1), (2, .int v2)] [] g := by
  unfold fX12_cameIn at hf
  refine z_iconst hX dX12_cameIn_0 ci_0 ?_
  refine z_istore_n (lv' := [(3, .int 0), (0, .ref (zB X + 493)), (1, .int v1), (2, .int v2)]) hX dX12_cameIn_1 hn (by decide) rfl ?_
  refine z_iconst hX dX12_cameIn_2 ci_0 ?_
  refine z_istore (lv' := [(4, .int 0), (3, .int 0), (0, .ref (zB X + 493)), (1, .int v1), (2, .int v2)]) hX dX12_cameIn_3 hn (by decide) rfl ?_
  refine zW.sub [2, 3, 4, 1, 0] rfl ?_
  exact fX12_cameIn_L5_ok hX hT hR hr hn  zFU 0 0 hf
set_option maxHeartbeats 4000000 in
set_option maxRecDepth 100000 in
theorem ct_X12_cameIn {E : zE} {v1 : Int32} {v2 : Int32} {g : zM} {r : Int32} (hf : fX12_cameIn v1 v2 g = some r) : zCt yX12_cameIn cX12_cameIn 5 (some .int) 3 0 E [.ref (E.1 + 493), .int v1, .int v2] g (.inl (some (.int r), g)) := by
  refine zmet (by decide) (zl rfl) (fun X hE hX hT hR hr hn => ?_)
  subst hE
  exact fX12_cameIn_ok hX hT hR hr hn  hf
def fX12_latest_L9 (v1 : Int32) (g : zM) : Nat → Int32 → Int32 → Option (Int32 × zM)
  | 0, _, _ => none
  | n + 1, v2, v3 => zb (fX12_letters g) (fun r_2 => if r_2 ≤ v3 then some (v2, g) else zb (fX12_cameIn v3 v1 g) (fun r_4 => if r_4 ≤ 0 then fX12_latest_L9 v1 g n v2 (v3 + 1) else if v2 < 0 then fX12_latest_L9 v1 g n v3 (v3 + 1) else zb (fX12_cameIn v3 v1 g) (fun r_7 => zb (fX12_cameIn v2 v1 g) (fun r_8 => if r_7 ≤ r_8 then fX12_latest_L9 v1 g n v2 (v3 + 1) else fX12_latest_L9 v1 g n v3 (v3 + 1)))))
def fX12_latest (v1 : Int32) (g : zM) : Option (Int32 × zM) := zput g 493 0 0 (fun g1 => fX12_latest_L9 v1 g1 zFU ((-1)) 0)
set_option maxHeartbeats 4000000 in
set_option maxRecDepth 100000 in
theorem fX12_latest_L9_ok {X : zX} (hX : zCX X cX12_latest RX12) (hT : zNT X) (hR : X.2.2.2.1 = zrm 4 0) (hr : X.2.2.2.2.2.2.2.2.1.sig.returnType = (some .int)) (hn : X.2.2.2.2.2.2.2.2.2.1.maxLocals = 4) {v1 : Int32} {g : zM} {r : Int32 × zM}  : ∀ (n : Nat) (v2 : Int32) (v3 : Int32), fX12_latest_L9 v1 g n v2 v3 = some r → zW X (zQ X (.inl (some (.int r.1), r.2)) 0) 0 0 9 [(0, .ref (zB X + 493)), (1, .int v1), (2, .int v2), (3, .int v3)] [] g := by
  intro n
  induction n with
  | zero => intro v2 v3 hf; exact zno hf
  | succ n ih =>
    intro v2 v3 hf
    rw [fX12_latest_L9] at hf
    refine z_iload_n hX dX12_latest_9 3 rfl ?_
    refine z_aload_n hX dX12_latest_10 0 rfl ?_
    replace hf := zb_some hf
    obtain ⟨r_2, h2, hf⟩ := hf
    refine z_callV1 hX ok_X12_letters q1652 q1654 q43 (zrm_ok hR (by decide)) (ct_X12_letters  h2) (zrec_Model hX zq_493) dX12_latest_11 rfl rfl ?_
    refine z_icmp_ge hX 53 dX12_latest_14 (by decide) (fun h3 => ?_) (fun h3 => ?_)
    · replace hf := zif_pos h3 hf
      refine z_iload_n hX dX12_latest_53 2 rfl ?_
      obtain rfl := Option.some.inj hf
      exact z_iret hX hr rfl (zl rfl) (zl rfl) dX12_latest_54
    · replace hf := zif_neg h3 hf
      refine z_aload_n hX dX12_latest_17 0 rfl ?_
      refine z_iload_n hX dX12_latest_18 3 rfl ?_
      refine z_iload_n hX dX12_latest_19 1 rfl ?_
      replace hf := zb_some hf
      obtain ⟨r_4, h4, hf⟩ := hf
      refine z_callV1 hX ok_X12_cameIn q2154 q2156 q112 (zrm_ok hR (by decide)) (ct_X12_cameIn  h4) (zrec_Model hX zq_493) dX12_latest_20 rfl rfl ?_
      refine z_if_le hX 47 dX12_latest_23 (by decide) (fun h5 => ?_) (fun h5 => ?_)
      · replace hf := zif_pos h5 hf
        refine z_iincc (lv' := [(3, .int (v3 + 1)), (0, .ref (zB X + 493)), (1, .int v1), (2, .int v2)]) hX dX12_latest_47 hn (by decide) 3 rfl ci_1 rfl ?_
        refine z_goto hX 9 dX12_latest_50 (by decide) ?_
        refine zW.sub [1, 2, 3, 0] rfl ?_
        exact ih v2 (v3 + 1) hf
      · replace hf := zif_neg h5 hf
        refine z_iload_n hX dX12_latest_26 2 rfl ?_
        refine z_if_lt hX 45 dX12_latest_27 (by decide) (fun h6 => ?_) (fun h6 => ?_)
        · replace hf := zif_pos h6 hf
          refine z_iload_n hX dX12_latest_45 3 rfl ?_
          refine z_istore_n (lv' := [(2, .int v3), (0, .ref (zB X + 493)), (1, .int v1), (3, .int v3)]) hX dX12_latest_46 hn (by decide) rfl ?_
          refine z_iincc (lv' := [(3, .int (v3 + 1)), (2, .int v3), (0, .ref (zB X + 493)), (1, .int v1)]) hX dX12_latest_47 hn (by decide) 3 rfl ci_1 rfl ?_
          refine z_goto hX 9 dX12_latest_50 (by decide) ?_
          refine zW.sub [2, 3, 1, 0] rfl ?_
          exact ih v3 (v3 + 1) hf
        · replace hf := zif_neg h6 hf
          refine z_aload_n hX dX12_latest_30 0 rfl ?_
          refine z_iload_n hX dX12_latest_31 3 rfl ?_
          refine z_iload_n hX dX12_latest_32 1 rfl ?_
          replace hf := zb_some hf
          obtain ⟨r_7, h7, hf⟩ := hf
          refine z_callV1 hX ok_X12_cameIn q2154 q2156 q112 (zrm_ok hR (by decide)) (ct_X12_cameIn  h7) (zrec_Model hX zq_493) dX12_latest_33 rfl rfl ?_
          refine z_aload_n hX dX12_latest_36 0 rfl ?_
          refine z_iload_n hX dX12_latest_37 2 rfl ?_
          refine z_iload_n hX dX12_latest_38 1 rfl ?_
          replace hf := zb_some hf
          obtain ⟨r_8, h8, hf⟩ := hf
          refine z_callV1 hX ok_X12_cameIn q2154 q2156 q112 (zrm_ok hR (by decide)) (ct_X12_cameIn  h8) (zrec_Model hX zq_493) dX12_latest_39 rfl rfl ?_
          refine z_icmp_le hX 47 dX12_latest_42 (by decide) (fun h9 => ?_) (fun h9 => ?_)
          · replace hf := zif_pos h9 hf
            refine z_iincc (lv' := [(3, .int (v3 + 1)), (0, .ref (zB X + 493)), (1, .int v1), (2, .int v2)]) hX dX12_latest_47 hn (by decide) 3 rfl ci_1 rfl ?_
            refine z_goto hX 9 dX12_latest_50 (by decide) ?_
            refine zW.sub [1, 2, 3, 0] rfl ?_
            exact ih v2 (v3 + 1) hf
          · replace hf := zif_neg h9 hf
            refine z_iload_n hX dX12_latest_45 3 rfl ?_
            refine z_istore_n (lv' := [(2, .int v3), (0, .ref (zB X + 493)), (1, .int v1), (3, .int v3)]) hX dX12_latest_46 hn (by decide) rfl ?_
            refine z_iincc (lv' := [(3, .int (v3 + 1)), (2, .int v3), (0, .ref (zB X + 493)), (1, .int v1)]) hX dX12_latest_47 hn (by decide) 3 rfl ci_1 rfl ?_
            refine z_goto hX 9 dX12_latest_50 (by decide) ?_
            refine zW.sub [2, 3, 1, 0] rfl ?_
            exact ih v3 (v3 + 1) hf
set_option maxHeartbeats 4000000 in
set_option maxRecDepth 100000 in
theorem fX12_latest_ok {X : zX} (hX : zCX X cX12_latest RX12) (hT : zNT X) (hR : X.2.2.2.1 = zrm 4 0) (hr : X.2.2.2.2.2.2.2.2.1.sig.returnType = (some .int)) (hn : X.2.2.2.2.2.2.2.2.2.1.maxLocals = 4) {v1 : Int32} {g : zM} {r : Int32 × zM} (hf : fX12_latest v1 g = some r) : zW X (zQ X (.inl (some (.int r.1), r.2)) 0) 0 0 0 [(0, .ref (zB X + 493)), (1, .int v1)] [] g := by
  unfold fX12_latest at hf
  refine z_aload_n hX dX12_latest_0 0 rfl ?_
  refine z_iconst hX dX12_latest_1 ci_0 ?_
  replace hf := zput_some hf
  obtain ⟨g1, eg1, hf⟩ := hf
  refine gp_Model_thrown hX zq_493 q1494 dX12_latest_2 (zW.eqg eg1 ?_)
  refine z_iconst hX dX12_latest_5 ci_m1 ?_
  refine z_istore_n (lv' := [(2, .int ((-1))), (0, .ref (zB X + 493)), (1, .int v1)]) hX dX12_latest_6 hn (by decide) rfl ?_
  refine z_iconst hX dX12_latest_7 ci_0 ?_
  refine z_istore_n (lv' := [(3, .int 0), (2, .int ((-1))), (0, .ref (zB X + 493)), (1, .int v1)]) hX dX12_latest_8 hn (by decide) rfl ?_
  refine zW.sub [2, 3, 1, 0] rfl ?_
  exact fX12_latest_L9_ok hX hT hR hr hn  zFU ((-1)) 0 hf
set_option maxHeartbeats 4000000 in
set_option maxRecDepth 100000 in
theorem ct_X12_latest {E : zE} {v1 : Int32} {g : zM} {r : Int32 × zM} (hf : fX12_latest v1 g = some r) : zCt yX12_latest cX12_latest 4 (some .int) 4 0 E [.ref (E.1 + 493), .int v1] g (.inl (some (.int r.1), r.2)) := by
  refine zmet (by decide) (zl rfl) (fun X hE hX hT hR hr hn => ?_)
  subst hE
  exact fX12_latest_ok hX hT hR hr hn  hf
def fX12_seed (v1 : Int32) (g : zM) : Option (Int32 × zM) := zput g 493 0 0 (fun g1 => zchk 7 2158 (zchk 7 2158 (zput g1 494 (7 : Int32).toNatClampNeg v1 (fun g4 => some (g1 494 (7 : Int32).toNatClampNeg, g4)))))
set_option maxHeartbeats 4000000 in
set_option maxRecDepth 100000 in
theorem fX12_seed_ok {X : zX} (hX : zCX X cX12_seed RX12) (hT : zNT X) (hR : X.2.2.2.1 = zrm 0 0) (hr : X.2.2.2.2.2.2.2.2.1.sig.returnType = (some .int)) (hn : X.2.2.2.2.2.2.2.2.2.1.maxLocals = 3) {v1 : Int32} {g : zM} {r : Int32 × zM} (hf : fX12_seed v1 g = some r) : zW X (zQ X (.inl (some (.int r.1), r.2)) 0) 0 0 0 [(0, .ref (zB X + 493)), (1, .int v1)] [] g := by
  unfold fX12_seed at hf
  refine z_aload_n hX dX12_seed_0 0 rfl ?_
  refine z_iconst hX dX12_seed_1 ci_0 ?_
  replace hf := zput_some hf
  obtain ⟨g1, eg1, hf⟩ := hf
  refine gp_Model_thrown hX zq_493 q1494 dX12_seed_2 (zW.eqg eg1 ?_)
  refine z_aload_n hX dX12_seed_5 0 rfl ?_
  refine gf_Model_world hX zq_493 q1495 dX12_seed_6 ?_
  refine z_bipush hX dX12_seed_9 cb_7 ?_
  replace hf := zchk_some hf
  obtain ⟨h2, hf⟩ := hf
  refine z_iald hX zq_494 (by decide) (zc_3158 _ _ _) h2 dX12_seed_11 ?_
  refine z_istore_n (lv' := [(2, .int (g1 494 (7 : Int32).toNatClampNeg)), (0, .ref (zB X + 493)), (1, .int v1)]) hX dX12_seed_12 hn (by decide) rfl ?_
  refine z_aload_n hX dX12_seed_13 1 rfl ?_
  refine gf_Model_world hX zq_493 q1495 dX12_seed_14 ?_
  refine z_bipush hX dX12_seed_17 cb_7 ?_
  refine z_iload_n hX dX12_seed_19 2 rfl ?_
  replace hf := zchk_some hf
  obtain ⟨h3, hf⟩ := hf
  replace hf := zput_some hf
  obtain ⟨g4, eg4, hf⟩ := hf
  refine z_iast hX zq_494 (by decide) (zc_3158 _ _) h3 dX12_seed_20 (zW.eqg eg4 ?_)
  refine z_iload_n hX dX12_seed_21 0 rfl ?_
  obtain rfl := Option.some.inj hf
  exact z_iret hX hr rfl (zl rfl) (zl rfl) dX12_seed_22
set_option maxHeartbeats 4000000 in
set_option maxRecDepth 100000 in
theorem ct_X12_seed {E : zE} {v1 : Int32} {g : zM} {r : Int32 × zM} (hf : fX12_seed v1 g = some r) : zCt yX12_seed cX12_seed 3 (some .int) 0 0 E [.ref (E.1 + 493), .int v1] g (.inl (some (.int r.1), r.2)) := by
  refine zmet (by decide) (zl rfl) (fun X hE hX hT hR hr hn => ?_)
  subst hE
  exact fX12_seed_ok hX hT hR hr hn  hf
def fX12_those_L4 (v1 : Int32) (g : zM) : Nat → Int32 → Int32 → Option Int32
  | 0, _, _ => none
  | n + 1, v2, v3 => zb (fX12_letters g) (fun r_1 => if r_1 ≤ v3 then some v2 else zb (fX12_of v3 v1 g) (fun r_3 => if r_3 = 1 then fX12_those_L4 v1 g n (v2 ||| ((1 : Int32) <<< (v3 &&& 31))) (v3 + 1) else fX12_those_L4 v1 g n (v2 ||| 0) (v3 + 1)))
def fX12_those (v1 : Int32) (g : zM) : Option Int32 := fX12_those_L4 v1 g zFU 0 0
set_option maxHeartbeats 4000000 in
set_option maxRecDepth 100000 in
theorem fX12_those_L4_ok {X : zX} (hX : zCX X cX12_those RX12) (hT : zNT X) (hR : X.2.2.2.1 = zrm 2 0) (hr : X.2.2.2.2.2.2.2.2.1.sig.returnType = (some .int)) (hn : X.2.2.2.2.2.2.2.2.2.1.maxLocals = 4) {v1 : Int32} {g : zM} {r : Int32}  : ∀ (n : Nat) (v2 : Int32) (v3 : Int32), fX12_those_L4 v1 g n v2 v3 = some r → zW X (zQ X (.inl (some (.int r), g)) 0) 0 0 4 [(0, .ref (zB X + 493)), (1, .int v1), (2, .int v2), (3, .int v3)] [] g := by
  intro n
  induction n with
  | zero => intro v2 v3 hf; exact zno hf
  | succ n ih =>
    intro v2 v3 hf
    rw [fX12_those_L4] at hf
    refine z_iload_n hX dX12_those_4 3 rfl ?_
    refine z_aload_n hX dX12_those_5 0 rfl ?_
    replace hf := zb_some hf
    obtain ⟨r_1, h1, hf⟩ := hf
    refine z_callV1 hX ok_X12_letters q1652 q1654 q43 (zrm_ok hR (by decide)) (ct_X12_letters  h1) (zrec_Model hX zq_493) dX12_those_6 rfl rfl ?_
    refine z_icmp_ge hX 38 dX12_those_9 (by decide) (fun h2 => ?_) (fun h2 => ?_)
    · replace hf := zif_pos h2 hf
      refine z_iload_n hX dX12_those_38 2 rfl ?_
      obtain rfl := Option.some.inj hf
      exact z_iret hX hr rfl (zl rfl) (zl rfl) dX12_those_39
    · replace hf := zif_neg h2 hf
      refine z_iload_n hX dX12_those_12 2 rfl ?_
      refine z_aload_n hX dX12_those_13 0 rfl ?_
      refine z_iload_n hX dX12_those_14 3 rfl ?_
      refine z_iload_n hX dX12_those_15 1 rfl ?_
      replace hf := zb_some hf
      obtain ⟨r_3, h3, hf⟩ := hf
      refine z_callV1 hX ok_X12_of q1687 q1689 q49 (zrm_ok hR (by decide)) (ct_X12_of  h3) (zrec_Model hX zq_493) dX12_those_16 rfl rfl ?_
      refine z_iconst hX dX12_those_19 ci_1 ?_
      refine z_icmp_ne hX 29 dX12_those_20 (by decide) (fun h4 => ?_) (fun h4 => ?_)
      · replace hf := zif_neg h4 hf
        refine z_iconst hX dX12_those_29 ci_0 ?_
        refine z_ior hX dX12_those_30 ?_
        refine z_istore_n (lv' := [(2, .int (v2 ||| 0)), (0, .ref (zB X + 493)), (1, .int v1), (3, .int v3)]) hX dX12_those_31 hn (by decide) rfl ?_
        refine z_iincc (lv' := [(3, .int (v3 + 1)), (2, .int (v2 ||| 0)), (0, .ref (zB X + 493)), (1, .int v1)]) hX dX12_those_32 hn (by decide) 3 rfl ci_1 rfl ?_
        refine z_goto hX 4 dX12_those_35 (by decide) ?_
        refine zW.sub [2, 3, 1, 0] rfl ?_
        exact ih (v2 ||| 0) (v3 + 1) hf
      · replace hf := zif_pos h4 hf
        refine z_iconst hX dX12_those_23 ci_1 ?_
        refine z_iload_n hX dX12_those_24 3 rfl ?_
        refine z_ishl hX dX12_those_25 ?_
        refine z_goto hX 30 dX12_those_26 (by decide) ?_
        refine z_ior hX dX12_those_30 ?_
        refine z_istore_n (lv' := [(2, .int (v2 ||| ((1 : Int32) <<< (v3 &&& 31)))), (0, .ref (zB X + 493)), (1, .int v1), (3, .int v3)]) hX dX12_those_31 hn (by decide) rfl ?_
        refine z_iincc (lv' := [(3, .int (v3 + 1)), (2, .int (v2 ||| ((1 : Int32) <<< (v3 &&& 31)))), (0, .ref (zB X + 493)), (1, .int v1)]) hX dX12_those_32 hn (by decide) 3 rfl ci_1 rfl ?_
        refine z_goto hX 4 dX12_those_35 (by decide) ?_
        refine zW.sub [2, 3, 1, 0] rfl ?_
        exact ih (v2 ||| ((1 : Int32) <<< (v3 &&& 31))) (v3 + 1) hf
set_option maxHeartbeats 4000000 in
set_option maxRecDepth 100000 in
theorem fX12_those_ok {X : zX} (hX : zCX X cX12_those RX12) (hT : zNT X) (hR : X.2.2.2.1 = zrm 2 0) (hr : X.2.2.2.2.2.2.2.2.1.sig.returnType = (some .int)) (hn : X.2.2.2.2.2.2.2.2.2.1.maxLocals = 4) {v1 : Int32} {g : zM} {r : Int32} (hf : fX12_those v1 g = some r) : zW X (zQ X (.inl (some (.int r), g)) 0) 0 0 0 [(0, .ref (zB X + 493)), (1, .int v1)] [] g := by
  unfold fX12_those at hf
  refine z_iconst hX dX12_those_0 ci_0 ?_
  refine z_istore_n (lv' := [(2, .int 0), (0, .ref (zB X + 493)), (1, .int v1)]) hX dX12_those_1 hn (by decide) rfl ?_
  refine z_iconst hX dX12_those_2 ci_0 ?_
  refine z_istore_n (lv' := [(3, .int 0), (2, .int 0), (0, .ref (zB X + 493)), (1, .int v1)]) hX dX12_those_3 hn (by decide) rfl ?_
  refine zW.sub [2, 3, 1, 0] rfl ?_
  exact fX12_those_L4_ok hX hT hR hr hn  zFU 0 0 hf
set_option maxHeartbeats 4000000 in
set_option maxRecDepth 100000 in
theorem ct_X12_those {E : zE} {v1 : Int32} {g : zM} {r : Int32} (hf : fX12_those v1 g = some r) : zCt yX12_those cX12_those 4 (some .int) 2 0 E [.ref (E.1 + 493), .int v1] g (.inl (some (.int r), g)) := by
  refine zmet (by decide) (zl rfl) (fun X hE hX hT hR hr hn => ?_)
  subst hE
  exact fX12_those_ok hX hT hR hr hn  hf
def fX12_count (v1 : Int32) (g : zM) : Option (Int32 × zM) := zput g 493 0 0 (fun g1 => if v1 = 0 then zb (fX12_letters g1) (fun r_4 => some (r_4, g1)) else if v1 = 1 then zb (fX12_promises g1) (fun r_6 => some (r_6, g1)) else if v1 = 2 then zchk 2 2158 (some (g1 494 (2 : Int32).toNatClampNeg, g1)) else if v1 = 3 then zchk 3 2158 (if (g1 494 (3 : Int32).toNatClampNeg) = 1 then zchk 460 2158 (some (g1 494 (460 : Int32).toNatClampNeg, g1)) else some ((-1), g1)) else if v1 = 4 then zchk 4 2158 (some (g1 494 (4 : Int32).toNatClampNeg, g1)) else if v1 = 5 then zchk 5 2158 (some (g1 494 (5 : Int32).toNatClampNeg, g1)) else if v1 = 6 then zb (fX12_allLines g1) (fun r_18 => some (r_18, g1)) else if v1 = 7 then zb (fX12_those 3 g1) (fun r_20 => some (r_20, g1)) else if v1 = 8 then zb (fX12_those 4 g1) (fun r_22 => some (r_22, g1)) else if v1 = 9 then zchk 6 2158 (some (g1 494 (6 : Int32).toNatClampNeg, g1)) else if v1 = 10 then some (g1 493 7, g1) else some ((-1), g1))
set_option maxHeartbeats 4000000 in
set_option maxRecDepth 100000 in
theorem fX12_count_ok {X : zX} (hX : zCX X cX12_count RX12) (hT : zNT X) (hR : X.2.2.2.1 = zrm 4 0) (hr : X.2.2.2.2.2.2.2.2.1.sig.returnType = (some .int)) (hn : X.2.2.2.2.2.2.2.2.2.1.maxLocals = 2) {v1 : Int32} {g : zM} {r : Int32 × zM} (hf : fX12_count v1 g = some r) : zW X (zQ X (.inl (some (.int r.1), r.2)) 0) 0 0 0 [(0, .ref (zB X + 493)), (1, .int v1)] [] g := by
  unfold fX12_count at hf
  refine z_aload_n hX dX12_count_0 0 rfl ?_
  refine z_iconst hX dX12_count_1 ci_0 ?_
  replace hf := zput_some hf
  obtain ⟨g1, eg1, hf⟩ := hf
  refine gp_Model_thrown hX zq_493 q1494 dX12_count_2 (zW.eqg eg1 ?_)
  refine z_iload_n hX dX12_count_5 1 rfl ?_
  by_cases h3 : v1 = 0
  · replace hf := zif_pos h3 hf
    refine z_tin hX 64 dX12_count_6 (by rw [h3]; decide) (by rw [h3]; decide) (by rw [h3]; rfl) (by decide) ?_
    refine z_aload_n hX dX12_count_64 0 rfl ?_
    replace hf := zb_some hf
    obtain ⟨r_4, h4, hf⟩ := hf
    refine z_callV1 hX ok_X12_letters q1652 q1654 q43 (zrm_ok hR (by decide)) (ct_X12_letters  h4) (zrec_Model hX zq_493) dX12_count_65 rfl rfl ?_
    obtain rfl := Option.some.inj hf
    exact z_iret hX hr rfl (zl rfl) (zl rfl) dX12_count_68
  replace hf := zif_neg h3 hf
  by_cases h5 : v1 = 1
  · replace hf := zif_pos h5 hf
    refine z_tin hX 69 dX12_count_6 (by rw [h5]; decide) (by rw [h5]; decide) (by rw [h5]; rfl) (by decide) ?_
    refine z_aload_n hX dX12_count_69 0 rfl ?_
    replace hf := zb_some hf
    obtain ⟨r_6, h6, hf⟩ := hf
    refine z_callV1 hX ok_X12_promises q1709 q1711 q54 (zrm_ok hR (by decide)) (ct_X12_promises  h6) (zrec_Model hX zq_493) dX12_count_70 rfl rfl ?_
    obtain rfl := Option.some.inj hf
    exact z_iret hX hr rfl (zl rfl) (zl rfl) dX12_count_73
  replace hf := zif_neg h5 hf
  by_cases h7 : v1 = 2
  · replace hf := zif_pos h7 hf
    refine z_tin hX 74 dX12_count_6 (by rw [h7]; decide) (by rw [h7]; decide) (by rw [h7]; rfl) (by decide) ?_
    refine z_aload_n hX dX12_count_74 0 rfl ?_
    refine gf_Model_world hX zq_493 q1495 dX12_count_75 ?_
    refine z_iconst hX dX12_count_78 ci_2 ?_
    replace hf := zchk_some hf
    obtain ⟨h8, hf⟩ := hf
    refine z_iald hX zq_494 (by decide) (zc_3158 _ _ _) h8 dX12_count_79 ?_
    obtain rfl := Option.some.inj hf
    exact z_iret hX hr rfl (zl rfl) (zl rfl) dX12_count_80
  replace hf := zif_neg h7 hf
  by_cases h9 : v1 = 3
  · replace hf := zif_pos h9 hf
    refine z_tin hX 81 dX12_count_6 (by rw [h9]; decide) (by rw [h9]; decide) (by rw [h9]; rfl) (by decide) ?_
    refine z_aload_n hX dX12_count_81 0 rfl ?_
    refine gf_Model_world hX zq_493 q1495 dX12_count_82 ?_
    refine z_iconst hX dX12_count_85 ci_3 ?_
    replace hf := zchk_some hf
    obtain ⟨h10, hf⟩ := hf
    refine z_iald hX zq_494 (by decide) (zc_3158 _ _ _) h10 dX12_count_86 ?_
    refine z_iconst hX dX12_count_87 ci_1 ?_
    refine z_icmp_ne hX 102 dX12_count_88 (by decide) (fun h11 => ?_) (fun h11 => ?_)
    · replace hf := zif_neg h11 hf
      refine z_iconst hX dX12_count_102 ci_m1 ?_
      obtain rfl := Option.some.inj hf
      exact z_iret hX hr rfl (zl rfl) (zl rfl) dX12_count_103
    · replace hf := zif_pos h11 hf
      refine z_aload_n hX dX12_count_91 0 rfl ?_
      refine gf_Model_world hX zq_493 q1495 dX12_count_92 ?_
      refine z_sipush hX dX12_count_95 cs_460 ?_
      replace hf := zchk_some hf
      obtain ⟨h12, hf⟩ := hf
      refine z_iald hX zq_494 (by decide) (zc_3158 _ _ _) h12 dX12_count_98 ?_
      refine z_goto hX 103 dX12_count_99 (by decide) ?_
      obtain rfl := Option.some.inj hf
      exact z_iret hX hr rfl (zl rfl) (zl rfl) dX12_count_103
  replace hf := zif_neg h9 hf
  by_cases h13 : v1 = 4
  · replace hf := zif_pos h13 hf
    refine z_tin hX 104 dX12_count_6 (by rw [h13]; decide) (by rw [h13]; decide) (by rw [h13]; rfl) (by decide) ?_
    refine z_aload_n hX dX12_count_104 0 rfl ?_
    refine gf_Model_world hX zq_493 q1495 dX12_count_105 ?_
    refine z_iconst hX dX12_count_108 ci_4 ?_
    replace hf := zchk_some hf
    obtain ⟨h14, hf⟩ := hf
    refine z_iald hX zq_494 (by decide) (zc_3158 _ _ _) h14 dX12_count_109 ?_
    obtain rfl := Option.some.inj hf
    exact z_iret hX hr rfl (zl rfl) (zl rfl) dX12_count_110
  replace hf := zif_neg h13 hf
  by_cases h15 : v1 = 5
  · replace hf := zif_pos h15 hf
    refine z_tin hX 111 dX12_count_6 (by rw [h15]; decide) (by rw [h15]; decide) (by rw [h15]; rfl) (by decide) ?_
    refine z_aload_n hX dX12_count_111 0 rfl ?_
    refine gf_Model_world hX zq_493 q1495 dX12_count_112 ?_
    refine z_iconst hX dX12_count_115 ci_5 ?_
    replace hf := zchk_some hf
    obtain ⟨h16, hf⟩ := hf
    refine z_iald hX zq_494 (by decide) (zc_3158 _ _ _) h16 dX12_count_116 ?_
    obtain rfl := Option.some.inj hf
    exact z_iret hX hr rfl (zl rfl) (zl rfl) dX12_count_117
  replace hf := zif_neg h15 hf
  by_cases h17 : v1 = 6
  · replace hf := zif_pos h17 hf
    refine z_tin hX 118 dX12_count_6 (by rw [h17]; decide) (by rw [h17]; decide) (by rw [h17]; rfl) (by decide) ?_
    refine z_aload_n hX dX12_count_118 0 rfl ?_
    replace hf := zb_some hf
    obtain ⟨r_18, h18, hf⟩ := hf
    refine z_callV1 hX ok_X12_allLines q2138 q2140 q110 (zrm_ok hR (by decide)) (ct_X12_allLines  h18) (zrec_Model hX zq_493) dX12_count_119 rfl rfl ?_
    obtain rfl := Option.some.inj hf
    exact z_iret hX hr rfl (zl rfl) (zl rfl) dX12_count_122
  replace hf := zif_neg h17 hf
  by_cases h19 : v1 = 7
  · replace hf := zif_pos h19 hf
    refine z_tin hX 123 dX12_count_6 (by rw [h19]; decide) (by rw [h19]; decide) (by rw [h19]; rfl) (by decide) ?_
    refine z_aload_n hX dX12_count_123 0 rfl ?_
    refine z_iconst hX dX12_count_124 ci_3 ?_
    replace hf := zb_some hf
    obtain ⟨r_20, h20, hf⟩ := hf
    refine z_callV1 hX ok_X12_those q2166 q2168 q113 (zrm_ok hR (by decide)) (ct_X12_those  h20) (zrec_Model hX zq_493) dX12_count_125 rfl rfl ?_
    obtain rfl := Option.some.inj hf
    exact z_iret hX hr rfl (zl rfl) (zl rfl) dX12_count_128
  replace hf := zif_neg h19 hf
  by_cases h21 : v1 = 8
  · replace hf := zif_pos h21 hf
    refine z_tin hX 129 dX12_count_6 (by rw [h21]; decide) (by rw [h21]; decide) (by rw [h21]; rfl) (by decide) ?_
    refine z_aload_n hX dX12_count_129 0 rfl ?_
    refine z_iconst hX dX12_count_130 ci_4 ?_
    replace hf := zb_some hf
    obtain ⟨r_22, h22, hf⟩ := hf
    refine z_callV1 hX ok_X12_those q2166 q2168 q113 (zrm_ok hR (by decide)) (ct_X12_those  h22) (zrec_Model hX zq_493) dX12_count_131 rfl rfl ?_
    obtain rfl := Option.some.inj hf
    exact z_iret hX hr rfl (zl rfl) (zl rfl) dX12_count_134
  replace hf := zif_neg h21 hf
  by_cases h23 : v1 = 9
  · replace hf := zif_pos h23 hf
    refine z_tin hX 135 dX12_count_6 (by rw [h23]; decide) (by rw [h23]; decide) (by rw [h23]; rfl) (by decide) ?_
    refine z_aload_n hX dX12_count_135 0 rfl ?_
    refine gf_Model_world hX zq_493 q1495 dX12_count_136 ?_
    refine z_bipush hX dX12_count_139 cb_6 ?_
    replace hf := zchk_some hf
    obtain ⟨h24, hf⟩ := hf
    refine z_iald hX zq_494 (by decide) (zc_3158 _ _ _) h24 dX12_count_141 ?_
    obtain rfl := Option.some.inj hf
    exact z_iret hX hr rfl (zl rfl) (zl rfl) dX12_count_142
  replace hf := zif_neg h23 hf
  by_cases h25 : v1 = 10
  · replace hf := zif_pos h25 hf
    refine z_tin hX 143 dX12_count_6 (by rw [h25]; decide) (by rw [h25]; decide) (by rw [h25]; rfl) (by decide) ?_
    refine z_aload_n hX dX12_count_143 0 rfl ?_
    refine gf_Model_remembered hX zq_493 q1501 dX12_count_144 ?_
    obtain rfl := Option.some.inj hf
    exact z_iret hX hr rfl (zl rfl) (zl rfl) dX12_count_147
  replace hf := zif_neg h25 hf
  refine z_tout hX 148 dX12_count_6 (zsw_out (fun v hlo hhi e => ?_)) (by decide) ?_
  · have hv : v = 0 ∨ v = 1 ∨ v = 2 ∨ v = 3 ∨ v = 4 ∨ v = 5 ∨ v = 6 ∨ v = 7 ∨ v = 8 ∨ v = 9 ∨ v = 10 := by omega
    rcases hv with rfl | rfl | rfl | rfl | rfl | rfl | rfl | rfl | rfl | rfl | rfl
    · exact h3 (e.trans (by decide))
    · exact h5 (e.trans (by decide))
    · exact h7 (e.trans (by decide))
    · exact h9 (e.trans (by decide))
    · exact h13 (e.trans (by decide))
    · exact h15 (e.trans (by decide))
    · exact h17 (e.trans (by decide))
    · exact h19 (e.trans (by decide))
    · exact h21 (e.trans (by decide))
    · exact h23 (e.trans (by decide))
    · exact h25 (e.trans (by decide))
  refine z_iconst hX dX12_count_148 ci_m1 ?_
  obtain rfl := Option.some.inj hf
  exact z_iret hX hr rfl (zl rfl) (zl rfl) dX12_count_149
set_option maxHeartbeats 4000000 in
set_option maxRecDepth 100000 in
theorem ct_X12_count {E : zE} {v1 : Int32} {g : zM} {r : Int32 × zM} (hf : fX12_count v1 g = some r) : zCt yX12_count cX12_count 2 (some .int) 4 0 E [.ref (E.1 + 493), .int v1] g (.inl (some (.int r.1), r.2)) := by
  refine zmet (by decide) (zl rfl) (fun X hE hX hT hR hr hn => ?_)
  subst hE
  exact fX12_count_ok hX hT hR hr hn  hf
