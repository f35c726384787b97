def fX12_written (v1 : Int32) (g : zM) : Option (Int32 × zM) := zput g 493 0 0 (fun g1 => zb (fX12_noLetter v1 g1) (fun r_2 => zb2 (fX12_throwsIf r_2 1 g1) (fun r_3 g3 => if r_3 = 0 then zb (fX12_looksAt v1 g3) (fun g5 => zb2 (fX12_astrayOf v1 g5) (fun r_6 g6 => if r_6 = 0 then some (1, g6) else zb (fJ6_numberOfLeadingZeros_0f7a4 r_6 g6) (fun r_8 => some (32 - r_8, g6)))) else some (0, g3))))
set_option maxHeartbeats 4000000 in
set_option maxRecDepth 100000 in
theorem fX12_written_ok {X : zX} (hX : zCX X cX12_written RX12) (hT : zNT X) (hR : X.2.2.2.1 = zrm 5 0) (hr : X.2.2.2.2.2.2.2.2.1.sig.returnType = (some .int)) (hn : X.2.2.2.2.2.2.2.2.2.1.maxLocals = 3) {v1 : Int32} {g : zM} {r : Int32 × zM} (hf : fX12_written v1 g = some r) : zW X (zQ X (.inl (some (.int r.1), r.2)) 0) 0 0 0 [(0, .ref (zB X + 493)), (1, .int v1)] [] g := by
  unfold fX12_written at hf
  refine z_aload_n hX dX12_written_0 0 rfl ?_
  refine z_iconst hX dX12_written_1 ci_0 ?_
  replace hf := zput_some hf
  obtain ⟨g1, eg1, hf⟩ := hf
  refine gp_Model_thrown hX zq_493 q1494 dX12_written_2 (zW.eqg eg1 ?_)
  refine z_aload_n hX dX12_written_5 0 rfl ?_
  refine z_aload_n hX dX12_written_6 0 rfl ?_
  refine z_iload_n hX dX12_written_7 1 rfl ?_
  replace hf := zb_some hf
  obtain ⟨r_2, h2, hf⟩ := hf
  refine z_callV1 hX ok_X12_noLetter q1787 q1789 q68 (zrm_ok hR (by decide)) (ct_X12_noLetter  h2) (zrec_Model hX zq_493) dX12_written_8 rfl rfl ?_
  refine z_iconst hX dX12_written_11 ci_1 ?_
  replace hf := zb2_some hf
  obtain ⟨r_3, g3, h3, hf⟩ := hf
  refine z_callV1 hX ok_X12_throwsIf q1775 q1777 q67 (zrm_ok hR (by decide)) (ct_X12_throwsIf  h3) (zrec_Model hX zq_493) dX12_written_12 rfl rfl ?_
  refine z_if_eq hX 20 dX12_written_15 (by decide) (fun h4 => ?_) (fun h4 => ?_)
  · replace hf := zif_pos h4 hf
    refine z_aload_n hX dX12_written_20 0 rfl ?_
    refine z_iload_n hX dX12_written_21 1 rfl ?_
    replace hf := zb_some hf
    obtain ⟨g5, h5, hf⟩ := hf
    refine z_callV0 hX ok_X12_looksAt q1791 q1793 q69 (zrm_ok hR (by decide)) (ct_X12_looksAt  h5) (zrec_Model hX zq_493) dX12_written_22 rfl rfl ?_
    refine z_aload_n hX dX12_written_25 0 rfl ?_
    refine z_iload_n hX dX12_written_26 1 rfl ?_
    replace hf := zb2_some hf
    obtain ⟨r_6, g6, h6, hf⟩ := hf
    refine z_callV1 hX ok_X12_astrayOf q1993 q1995 q96 (zrm_ok hR (by decide)) (ct_X12_astrayOf  h6) (zrec_Model hX zq_493) dX12_written_27 rfl rfl ?_
    refine z_istore_n (lv' := [(2, .int r_6), (0, .ref (zB X + 493)), (1, .int v1)]) hX dX12_written_30 hn (by decide) rfl ?_
    refine z_iload_n hX dX12_written_31 0 rfl ?_
    refine z_if_ne hX 39 dX12_written_32 (by decide) (fun h7 => ?_) (fun h7 => ?_)
    · replace hf := zif_neg h7 hf
      refine z_bipush hX dX12_written_39 cb_32 ?_
      refine z_iload_n hX dX12_written_41 0 rfl ?_
      replace hf := zb_some hf
      obtain ⟨r_8, h8, hf⟩ := hf
      refine z_callJ1 hX ok_J6_numberOfLeadingZeros_0f7a4 q2001 q2002 (zrm_ok hR (by decide)) (ct_J6_numberOfLeadingZeros_0f7a4  h8) dX12_written_42 rfl rfl ?_
      refine z_isub hX dX12_written_45 ?_
      obtain rfl := Option.some.inj hf
      exact z_iret hX hr rfl (zl rfl) (zl rfl) dX12_written_46
    · replace hf := zif_pos h7 hf
      refine z_iconst hX dX12_written_35 ci_1 ?_
      refine z_goto hX 46 dX12_written_36 (by decide) ?_
      obtain rfl := Option.some.inj hf
      exact z_iret hX hr rfl (zl rfl) (zl rfl) dX12_written_46
  · replace hf := zif_neg h4 hf
    refine z_iconst hX dX12_written_18 ci_0 ?_
    obtain rfl := Option.some.inj hf
    exact z_iret hX hr rfl (zl rfl) (zl rfl) dX12_written_19
set_option maxHeartbeats 4000000 in
set_option maxRecDepth 100000 in
theorem ct_X12_written {E : zE} {v1 : Int32} {g : zM} {r : Int32 × zM} (hf : fX12_written v1 g = some r) : zCt yX12_written cX12_written 3 (some .int) 5 0 E [.ref (E.1 + 493), .int v1] g (.inl (some (.int r.1), r.2)) := by
  refine zmet (by decide) (zl rfl) (fun X hE hX hT hR hr hn => ?_)
  subst hE
  exact fX12_written_ok hX hT hR hr hn  hf
def fX12_hasSense_L5 (v1 : Int32) (v2 : Int32) (g : zM) : Nat → Int32 → Int32 → Option Int32
  | 0, _, _ => none
  | n + 1, v3, v4 => zb (fX12_lawLines g) (fun r_1 => if r_1 ≤ v4 then zbo v3 (some v3) else if v3 = 0 then zb (fX12_lawFrom v4 g) (fun r_5 => if r_5 = v1 then zb (fX12_lawTo v4 g) (fun r_7 => if r_7 = v2 then fX12_hasSense_L5 v1 v2 g n 1 (v4 + 1) else fX12_hasSense_L5 v1 v2 g n 0 (v4 + 1)) else fX12_hasSense_L5 v1 v2 g n 0 (v4 + 1)) else fX12_hasSense_L5 v1 v2 g n 1 (v4 + 1))
def fX12_hasSense (v1 : Int32) (v2 : Int32) (g : zM) : Option Int32 := fX12_hasSense_L5 v1 v2 g zFU 0 0
set_option maxHeartbeats 4000000 in
set_option maxRecDepth 100000 in
theorem fX12_hasSense_L5_ok {X : zX} (hX : zCX X cX12_hasSense RX12) (hT : zNT X) (hR : X.2.2.2.1 = zrm 1 0) (hr : X.2.2.2.2.2.2.2.2.1.sig.returnType = (some .boolean)) (hn : X.2.2.2.2.2.2.2.2.2.1.maxLocals = 5) {v1 : Int32} {v2 : Int32} {g : zM} {r : Int32}  : ∀ (n : Nat) (v3 : Int32) (v4 : Int32), fX12_hasSense_L5 v1 v2 g n v3 v4 = some r → zW X (zQ X (.inl (some (.int r), g)) 0) 0 0 5 [(0, .ref (zB X + 493)), (1, .int v1), (2, .int v2), (3, .int v3), (4, .int v4)] [] g := by
  intro n
  induction n with
  | zero => intro v3 v4 hf; exact zno hf
  | succ n ih =>
    intro v3 v4 hf
    rw [fX12_hasSense_L5] at hf
    refine z_iload hX dX12_hasSense_5 4 rfl ?_
    refine z_aload_n hX dX12_hasSense_7 0 rfl ?_
    replace hf := zb_some hf
    obtain ⟨r_1, h1, hf⟩ := hf
    refine z_callV1 hX ok_X12_lawLines q1819 q1821 q76 (zrm_ok hR (by decide)) (ct_X12_lawLines  h1) (zrec_Model hX zq_493) dX12_hasSense_8 rfl rfl ?_
    refine z_icmp_ge hX 50 dX12_hasSense_11 (by decide) (fun h2 => ?_) (fun h2 => ?_)
    · replace hf := zif_pos h2 hf
      refine z_iload_n hX dX12_hasSense_50 3 rfl ?_
      replace hf := zbo_some hf
      obtain ⟨h3, hf⟩ := hf
      obtain rfl := Option.some.inj hf
      exact z_iret hX hr (zbn h3) (zl rfl) (zl rfl) dX12_hasSense_51
    · replace hf := zif_neg h2 hf
      refine z_iload_n hX dX12_hasSense_14 3 rfl ?_
      refine z_if_ne hX 38 dX12_hasSense_15 (by decide) (fun h4 => ?_) (fun h4 => ?_)
      · replace hf := zif_neg h4 hf
        refine z_iconst hX dX12_hasSense_38 ci_1 ?_
        refine z_goto hX 43 dX12_hasSense_39 (by decide) ?_
        refine z_istore_n (lv' := [(3, .int 1), (0, .ref (zB X + 493)), (1, .int v1), (2, .int v2), (4, .int v4)]) hX dX12_hasSense_43 hn (by decide) rfl ?_
        refine z_iincc (lv' := [(4, .int (v4 + 1)), (3, .int 1), (0, .ref (zB X + 493)), (1, .int v1), (2, .int v2)]) hX dX12_hasSense_44 hn (by decide) 4 rfl ci_1 rfl ?_
        refine z_goto hX 5 dX12_hasSense_47 (by decide) ?_
        refine zW.sub [2, 3, 4, 1, 0] rfl ?_
        exact ih 1 (v4 + 1) hf
      · replace hf := zif_pos h4 hf
        refine z_aload_n hX dX12_hasSense_18 0 rfl ?_
        refine z_iload hX dX12_hasSense_19 4 rfl ?_
        replace hf := zb_some hf
        obtain ⟨r_5, h5, hf⟩ := hf
        refine z_callV1 hX ok_X12_lawFrom q1823 q1825 q77 (zrm_ok hR (by decide)) (ct_X12_lawFrom  h5) (zrec_Model hX zq_493) dX12_hasSense_21 rfl rfl ?_
        refine z_iload_n hX dX12_hasSense_24 1 rfl ?_
        refine z_icmp_ne hX 42 dX12_hasSense_25 (by decide) (fun h6 => ?_) (fun h6 => ?_)
        · replace hf := zif_neg h6 hf
          refine z_iconst hX dX12_hasSense_42 ci_0 ?_
          refine z_istore_n (lv' := [(3, .int 0), (0, .ref (zB X + 493)), (1, .int v1), (2, .int v2), (4, .int v4)]) hX dX12_hasSense_43 hn (by decide) rfl ?_
          refine z_iincc (lv' := [(4, .int (v4 + 1)), (3, .int 0), (0, .ref (zB X + 493)), (1, .int v1), (2, .int v2)]) hX dX12_hasSense_44 hn (by decide) 4 rfl ci_1 rfl ?_
          refine z_goto hX 5 dX12_hasSense_47 (by decide) ?_
          refine zW.sub [2, 3, 4, 1, 0] rfl ?_
          exact ih 0 (v4 + 1) hf
        · replace hf := zif_pos h6 hf
          refine z_aload_n hX dX12_hasSense_28 0 rfl ?_
          refine z_iload hX dX12_hasSense_29 4 rfl ?_
          replace hf := zb_some hf
          obtain ⟨r_7, h7, hf⟩ := hf
          refine z_callV1 hX ok_X12_lawTo q1838 q1840 q80 (zrm_ok hR (by decide)) (ct_X12_lawTo  h7) (zrec_Model hX zq_493) dX12_hasSense_31 rfl rfl ?_
          refine z_iload_n hX dX12_hasSense_34 2 rfl ?_
          refine z_icmp_ne hX 42 dX12_hasSense_35 (by decide) (fun h8 => ?_) (fun h8 => ?_)
          · replace hf := zif_neg h8 hf
            refine z_iconst hX dX12_hasSense_42 ci_0 ?_
            refine z_istore_n (lv' := [(3, .int 0), (0, .ref (zB X + 493)), (1, .int v1), (2, .int v2), (4, .int v4)]) hX dX12_hasSense_43 hn (by decide) rfl ?_
            refine z_iincc (lv' := [(4, .int (v4 + 1)), (3, .int 0), (0, .ref (zB X + 493)), (1, .int v1), (2, .int v2)]) hX dX12_hasSense_44 hn (by decide) 4 rfl ci_1 rfl ?_
            refine z_goto hX 5 dX12_hasSense_47 (by decide) ?_
            refine zW.sub [2, 3, 4, 1, 0] rfl ?_
            exact ih 0 (v4 + 1) hf
          · replace hf := zif_pos h8 hf
            refine z_iconst hX dX12_hasSense_38 ci_1 ?_
            refine z_goto hX 43 dX12_hasSense_39 (by decide) ?_
            refine z_istore_n (lv' := [(3, .int 1), (0, .ref (zB X + 493)), (1, .int v1), (2, .int v2), (4, .int v4)]) hX dX12_hasSense_43 hn (by decide) rfl ?_
            refine z_iincc (lv' := [(4, .int (v4 + 1)), (3, .int 1), (0, .ref (zB X + 493)), (1, .int v1), (2, .int v2)]) hX dX12_hasSense_44 hn (by decide) 4 rfl ci_1 rfl ?_
            refine z_goto hX 5 dX12_hasSense_47 (by decide) ?_
            refine zW.sub [2, 3, 4, 1, 0] rfl ?_
            exact ih 1 (v4 + 1) hf
set_option maxHeartbeats 4000000 in
set_option maxRecDepth 100000 in
theorem fX12_hasSense_ok {X : zX} (hX : zCX X cX12_hasSense RX12) (hT : zNT X) (hR : X.2.2.2.1 = zrm 1 0) (hr : X.2.2.2.2.2.2.2.2.1.sig.returnType = (some .boolean)) (hn : X.2.2.2.2.2.2.2.2.2.1.maxLocals = 5) {v1 : Int32} {v2 : Int32} {g : zM} {r : Int32} (hf : fX12_hasSense v1 v2 g = some r) : zW X (zQ X (.inl (some (.int r), g)) 0) 0 0 0 [(0, .ref (zB X + 493)), (1, .int v1), (2, .int v2)] [] g := by
  unfold fX12_hasSense at hf
  refine z_iconst hX dX12_hasSense_0 ci_0 ?_
  refine z_istore_n (lv' := [(3, .int 0), (0, .ref (zB X + 493)), (1, .int v1), (2, .int v2)]) hX dX12_hasSense_1 hn (by decide) rfl ?_
  refine z_iconst hX dX12_hasSense_2 ci_0 ?_
  refine z_istore (lv' := [(4, .int 0), (3, .int 0), (0, .ref (zB X + 493)), (1, .int v1), (2, .int v2)]) hX dX12_hasSense_3 hn (by decide) rfl ?_
  refine zW.sub [2, 3, 4, 1, 0] rfl ?_
  exact fX12_hasSense_L5_ok hX hT hR hr hn  zFU 0 0 hf
set_option maxHeartbeats 4000000 in
set_option maxRecDepth 100000 in
theorem ct_X12_hasSense {E : zE} {v1 : Int32} {v2 : Int32} {g : zM} {r : Int32} (hf : fX12_hasSense v1 v2 g = some r) : zCt yX12_hasSense cX12_hasSense 5 (some .boolean) 1 0 E [.ref (E.1 + 493), .int v1, .int v2] g (.inl (some (.int r), g)) := by
  refine zmet (by decide) (zl rfl) (fun X hE hX hT hR hr hn => ?_)
  subst hE
  exact fX12_hasSense_ok hX hT hR hr hn  hf
def fX12_senseless_L22 (v1 : Int32) (g : zM) : Nat → Int32 → Option (Int32 × zM)
  | 0, _ => none
  | n + 1, v2 => zb (fX12_lines v1 g) (fun r_5 => if r_5 ≤ v2 then some ((-1), g) else zb (fX12_kindOf v1 (v2 - 1) g) (fun r_7 => zb (fX12_kindOf v1 v2 g) (fun r_8 => zb (fX12_hasSense r_7 r_8 g) (fun r_9 => if r_9 = 0 then some (v2, g) else fX12_senseless_L22 v1 g n (v2 + 1)))))
def fX12_senseless (v1 : Int32) (g : zM) : Option (Int32 × zM) := zput g 493 0 0 (fun g1 => zb (fX12_noLetter v1 g1) (fun r_2 => zb2 (fX12_throwsIf r_2 1 g1) (fun r_3 g3 => if r_3 = 0 then fX12_senseless_L22 v1 g3 zFU 1 else some (0, g3))))
set_option maxHeartbeats 4000000 in
set_option maxRecDepth 100000 in
theorem fX12_senseless_L22_ok {X : zX} (hX : zCX X cX12_senseless RX12) (hT : zNT X) (hR : X.2.2.2.1 = zrm 3 0) (hr : X.2.2.2.2.2.2.2.2.1.sig.returnType = (some .int)) (hn : X.2.2.2.2.2.2.2.2.2.1.maxLocals = 3) {v1 : Int32} {g : zM} {r : Int32 × zM}  : ∀ (n : Nat) (v2 : Int32), fX12_senseless_L22 v1 g n v2 = some r → zW X (zQ X (.inl (some (.int r.1), r.2)) 0) 0 0 22 [(0, .ref (zB X + 493)), (1, .int v1), (2, .int v2)] [] g := by
  intro n
  induction n with
  | zero => intro v2 hf; exact zno hf
  | succ n ih =>
    intro v2 hf
    rw [fX12_senseless_L22] at hf
    refine z_iload_n hX dX12_senseless_22 2 rfl ?_
    refine z_aload_n hX dX12_senseless_23 0 rfl ?_
    refine z_iload_n hX dX12_senseless_24 1 rfl ?_
    replace hf := zb_some hf
    obtain ⟨r_5, h5, hf⟩ := hf
    refine z_callV1 hX ok_X12_lines q1683 q1685 q48 (zrm_ok hR (by decide)) (ct_X12_lines  h5) (zrec_Model hX zq_493) dX12_senseless_25 rfl rfl ?_
    refine z_icmp_ge hX 60 dX12_senseless_28 (by decide) (fun h6 => ?_) (fun h6 => ?_)
    · replace hf := zif_pos h6 hf
      refine z_iconst hX dX12_senseless_60 ci_m1 ?_
      obtain rfl := Option.some.inj hf
      exact z_iret hX hr rfl (zl rfl) (zl rfl) dX12_senseless_61
    · replace hf := zif_neg h6 hf
      refine z_aload_n hX dX12_senseless_31 0 rfl ?_
      refine z_aload_n hX dX12_senseless_32 0 rfl ?_
      refine z_iload_n hX dX12_senseless_33 1 rfl ?_
      refine z_iload_n hX dX12_senseless_34 2 rfl ?_
      refine z_iconst hX dX12_senseless_35 ci_1 ?_
      refine z_isub hX dX12_senseless_36 ?_
      replace hf := zb_some hf
      obtain ⟨r_7, h7, hf⟩ := hf
      refine z_callV1 hX ok_X12_kindOf q1795 q1797 q70 (zrm_ok hR (by decide)) (ct_X12_kindOf  h7) (zrec_Model hX zq_493) dX12_senseless_37 rfl rfl ?_
      refine z_aload_n hX dX12_senseless_40 0 rfl ?_
      refine z_iload_n hX dX12_senseless_41 1 rfl ?_
      refine z_iload_n hX dX12_senseless_42 2 rfl ?_
      replace hf := zb_some hf
      obtain ⟨r_8, h8, hf⟩ := hf
      refine z_callV1 hX ok_X12_kindOf q1795 q1797 q70 (zrm_ok hR (by decide)) (ct_X12_kindOf  h8) (zrec_Model hX zq_493) dX12_senseless_43 rfl rfl ?_
      replace hf := zb_some hf
      obtain ⟨r_9, h9, hf⟩ := hf
      refine z_callV1 hX ok_X12_hasSense q2009 q2011 q97 (zrm_ok hR (by decide)) (ct_X12_hasSense  h9) (zrec_Model hX zq_493) dX12_senseless_46 rfl rfl ?_
      refine z_if_ne hX 54 dX12_senseless_49 (by decide) (fun h10 => ?_) (fun h10 => ?_)
      · replace hf := zif_neg h10 hf
        refine z_iincc (lv' := [(2, .int (v2 + 1)), (0, .ref (zB X + 493)), (1, .int v1)]) hX dX12_senseless_54 hn (by decide) 2 rfl ci_1 rfl ?_
        refine z_goto hX 22 dX12_senseless_57 (by decide) ?_
        refine zW.sub [1, 2, 0] rfl ?_
        exact ih (v2 + 1) hf
      · replace hf := zif_pos h10 hf
        refine z_iload_n hX dX12_senseless_52 2 rfl ?_
        obtain rfl := Option.some.inj hf
        exact z_iret hX hr rfl (zl rfl) (zl rfl) dX12_senseless_53
set_option maxHeartbeats 4000000 in
set_option maxRecDepth 100000 in
theorem fX12_senseless_ok {X : zX} (hX : zCX X cX12_senseless RX12) (hT : zNT X) (hR : X.2.2.2.1 = zrm 3 0) (hr : X.2.2.2.2.2.2.2.2.1.sig.returnType = (some .int)) (hn : X.2.2.2.2.2.2.2.2.2.1.maxLocals = 3) {v1 : Int32} {g : zM} {r : Int32 × zM} (hf : fX12_senseless v1 g = some r) : zW X (zQ X (.inl (some (.int r.1), r.2)) 0) 0 0 0 [(0, .ref (zB X + 493)), (1, .int v1)] [] g := by
  unfold fX12_senseless at hf
  refine z_aload_n hX dX12_senseless_0 0 rfl ?_
  refine z_iconst hX dX12_senseless_1 ci_0 ?_
  replace hf := zput_some hf
  obtain ⟨g1, eg1, hf⟩ := hf
  refine gp_Model_thrown hX zq_493 q1494 dX12_senseless_2 (zW.eqg eg1 ?_)
  refine z_aload_n hX dX12_senseless_5 0 rfl ?_
  refine z_aload_n hX dX12_senseless_6 0 rfl ?_
  refine z_iload_n hX dX12_senseless_7 1 rfl ?_
  replace hf := zb_some hf
  obtain ⟨r_2, h2, hf⟩ := hf
  refine z_callV1 hX ok_X12_noLetter q1787 q1789 q68 (zrm_ok hR (by decide)) (ct_X12_noLetter  h2) (zrec_Model hX zq_493) dX12_senseless_8 rfl rfl ?_
  refine z_iconst hX dX12_senseless_11 ci_1 ?_
  replace hf := zb2_some hf
  obtain ⟨r_3, g3, h3, hf⟩ := hf
  refine z_callV1 hX ok_X12_throwsIf q1775 q1777 q67 (zrm_ok hR (by decide)) (ct_X12_throwsIf  h3) (zrec_Model hX zq_493) dX12_senseless_12 rfl rfl ?_
  refine z_if_eq hX 20 dX12_senseless_15 (by decide) (fun h4 => ?_) (fun h4 => ?_)
  · replace hf := zif_pos h4 hf
    refine z_iconst hX dX12_senseless_20 ci_1 ?_
    refine z_istore_n (lv' := [(2, .int 1), (0, .ref (zB X + 493)), (1, .int v1)]) hX dX12_senseless_21 hn (by decide) rfl ?_
    refine zW.sub [1, 2, 0] rfl ?_
    exact fX12_senseless_L22_ok hX hT hR hr hn  zFU 1 hf
  · replace hf := zif_neg h4 hf
    refine z_iconst hX dX12_senseless_18 ci_0 ?_
    obtain rfl := Option.some.inj hf
    exact z_iret hX hr rfl (zl rfl) (zl rfl) dX12_senseless_19
set_option maxHeartbeats 4000000 in
set_option maxRecDepth 100000 in
theorem ct_X12_senseless {E : zE} {v1 : Int32} {g : zM} {r : Int32 × zM} (hf : fX12_senseless v1 g = some r) : zCt yX12_senseless cX12_senseless 3 (some .int) 3 0 E [.ref (E.1 + 493), .int v1] g (.inl (some (.int r.1), r.2)) := by
  refine zmet (by decide) (zl rfl) (fun X hE hX hT hR hr hn => ?_)
  subst hE
  exact fX12_senseless_ok hX hT hR hr hn  hf
def fX12_author_L30 (v1 : Int32) (v2 : Int32) : Nat → Int32 → Int32 → Int32 → zM → Option (Int32 × zM)
  | 0, _, _, _, _ => none
  | n + 1, v3, v4, v5, g => if 10 ≤ v5 then some (v3, g) else zb (fX12_looksAt v1 g) (fun g6 => zjoin (fun t0_7 => zput g6 493 21 t0_7 (fun g8 => zjoin (fun t0_9 => zput g8 493 20 t0_9 (fun g10 => zb2 (fX12_astrayOf v1 g10) (fun r_11 g11 => zb (fJ6_bitCount_0f7a4 r_11 g11) (fun r_12 => if r_12 < v4 then fX12_author_L30 v1 v2 n v5 r_12 (v5 + 1) g11 else fX12_author_L30 v1 v2 n v3 v4 (v5 + 1) g11))) : Int32 → Option (Int32 × zM)) (fun k73 => if v2 = 0 then k73 v5 else k73 (g8 493 20))) : Int32 → Option (Int32 × zM)) (fun k56 => if v2 = 0 then k56 (g6 493 21) else k56 v5))
def fX12_author (v1 : Int32) (v2 : Int32) (g : zM) : Option (Int32 × zM) := zput g 493 0 0 (fun g1 => zb (fX12_noLetter v1 g1) (fun r_2 => zb2 (fX12_throwsIf r_2 1 g1) (fun r_3 g3 => if r_3 = 0 then fX12_author_L30 v1 v2 zFU 0 1000 0 g3 else some (0, g3))))
set_option maxHeartbeats 4000000 in
set_option maxRecDepth 100000 in
theorem fX12_author_L30_ok {X : zX} (hX : zCX X cX12_author RX12) (hT : zNT X) (hR : X.2.2.2.1 = zrm 5 0) (hr : X.2.2.2.2.2.2.2.2.1.sig.returnType = (some .int)) (hn : X.2.2.2.2.2.2.2.2.2.1.maxLocals = 7) {v1 : Int32} {v2 : Int32} {r : Int32 × zM}  : ∀ (n : Nat) (v3 : Int32) (v4 : Int32) (v5 : Int32) (g : zM), fX12_author_L30 v1 v2 n v3 v4 v5 g = some r → zW X (zQ X (.inl (some (.int r.1), r.2)) 0) 0 0 30 [(0, .ref (zB X + 493)), (1, .int v1), (2, .int v2), (3, .int v3), (4, .int v4), (5, .int v5)] [] g := by
  intro n
  induction n with
  | zero => intro v3 v4 v5 g hf; exact zno hf
  | succ n ih =>
    intro v3 v4 v5 g hf
    rw [fX12_author_L30] at hf
    refine z_iload hX dX12_author_30 5 rfl ?_
    refine z_bipush hX dX12_author_32 cb_10 ?_
    refine z_icmp_ge hX 109 dX12_author_34 (by decide) (fun h5 => ?_) (fun h5 => ?_)
    · replace hf := zif_pos h5 hf
      refine z_iload_n hX dX12_author_109 3 rfl ?_
      obtain rfl := Option.some.inj hf
      exact z_iret hX hr rfl (zl rfl) (zl rfl) dX12_author_110
    · replace hf := zif_neg h5 hf
      refine z_aload_n hX dX12_author_37 0 rfl ?_
      refine z_iload_n hX dX12_author_38 1 rfl ?_
      replace hf := zb_some hf
      obtain ⟨g6, h6, hf⟩ := hf
      refine z_callV0 hX ok_X12_looksAt q1791 q1793 q69 (zrm_ok hR (by decide)) (ct_X12_looksAt  h6) (zrec_Model hX zq_493) dX12_author_39 rfl rfl ?_
      refine z_aload_n hX dX12_author_42 0 rfl ?_
      refine z_iload_n hX dX12_author_43 2 rfl ?_
      refine zjoin_ok (P := fun (k : Int32 → Option (Int32 × zM)) => ∀ (t0_7 : Int32), k t0_7 = some r → zW X (zQ X (.inl (some (.int r.1), r.2)) 0) 0 0 56 [(0, .ref (zB X + 493)), (1, .int v1), (2, .int v2), (3, .int v3), (4, .int v4), (5, .int v5)] [.int t0_7, .ref (zB X + 493)] g6) hf (fun t0_7 hf => ?_) (fun k56 hk56 hf => ?_)
      · replace hf := zput_some hf
        obtain ⟨g8, eg8, hf⟩ := hf
        refine gp_Model_sender hX zq_493 q1515 dX12_author_56 (zW.eqg eg8 ?_)
        refine z_aload_n hX dX12_author_59 0 rfl ?_
        refine z_iload_n hX dX12_author_60 2 rfl ?_
        refine zjoin_ok (P := fun (k : Int32 → Option (Int32 × zM)) => ∀ (t0_9 : Int32), k t0_9 = some r → zW X (zQ X (.inl (some (.int r.1), r.2)) 0) 0 0 73 [(0, .ref (zB X + 493)), (1, .int v1), (2, .int v2), (3, .int v3), (4, .int v4), (5, .int v5)] [.int t0_9, .ref (zB X + 493)] g8) hf (fun t0_9 hf => ?_) (fun k73 hk73 hf => ?_)
        · replace hf := zput_some hf
          obtain ⟨g10, eg10, hf⟩ := hf
          refine gp_Model_temper hX zq_493 q1514 dX12_author_73 (zW.eqg eg10 ?_)
          refine z_aload_n hX dX12_author_76 0 rfl ?_
          refine z_iload_n hX dX12_author_77 1 rfl ?_
          replace hf := zb2_some hf
          obtain ⟨r_11, g11, h11, hf⟩ := hf
          refine z_callV1 hX ok_X12_astrayOf q1993 q1995 q96 (zrm_ok hR (by decide)) (ct_X12_astrayOf  h11) (zrec_Model hX zq_493) dX12_author_78 rfl rfl ?_
          replace hf := zb_some hf
          obtain ⟨r_12, h12, hf⟩ := hf
          refine z_callJ1 hX ok_J6_bitCount_0f7a4 q2017 q1373 (zrm_ok hR (by decide)) (ct_J6_bitCount_0f7a4  h12) dX12_author_81 rfl rfl ?_
          refine z_istore (lv' := [(6, .int r_12), (0, .ref (zB X + 493)), (1, .int v1), (2, .int v2), (3, .int v3), (4, .int v4), (5, .int v5)]) hX dX12_author_84 hn (by decide) rfl ?_
          refine z_iload hX dX12_author_86 0 rfl ?_
          refine z_iload hX dX12_author_88 5 rfl ?_
          refine z_icmp_lt hX 96 dX12_author_90 (by decide) (fun h13 => ?_) (fun h13 => ?_)
          · replace hf := zif_pos h13 hf
            refine z_iload hX dX12_author_96 6 rfl ?_
            refine z_istore_n (lv' := [(3, .int v5), (6, .int r_12), (0, .ref (zB X + 493)), (1, .int v1), (2, .int v2), (4, .int v4), (5, .int v5)]) hX dX12_author_98 hn (by decide) rfl ?_
            refine z_iload hX dX12_author_99 1 rfl ?_
            refine z_istore (lv' := [(4, .int r_12), (3, .int v5), (6, .int r_12), (0, .ref (zB X + 493)), (1, .int v1), (2, .int v2), (5, .int v5)]) hX dX12_author_101 hn (by decide) rfl ?_
            refine z_iincc (lv' := [(5, .int (v5 + 1)), (4, .int r_12), (3, .int v5), (6, .int r_12), (0, .ref (zB X + 493)), (1, .int v1), (2, .int v2)]) hX dX12_author_103 hn (by decide) 6 rfl ci_1 rfl ?_
            refine z_goto hX 30 dX12_author_106 (by decide) ?_
            refine zW.sub [4, 5, 6, 2, 1, 0] rfl ?_
            exact ih v5 r_12 (v5 + 1) g11 hf
          · replace hf := zif_neg h13 hf
            refine z_goto hX 103 dX12_author_93 (by decide) ?_
            refine z_iincc (lv' := [(5, .int (v5 + 1)), (6, .int r_12), (0, .ref (zB X + 493)), (1, .int v1), (2, .int v2), (3, .int v3), (4, .int v4)]) hX dX12_author_103 hn (by decide) 6 rfl ci_1 rfl ?_
            refine z_goto hX 30 dX12_author_106 (by decide) ?_
            refine zW.sub [2, 3, 4, 5, 6, 0] rfl ?_
            exact ih v3 v4 (v5 + 1) g11 hf
        · refine z_if_eq hX 71 dX12_author_61 (by decide) (fun h14 => ?_) (fun h14 => ?_)
          · replace hf := zif_pos h14 hf
            refine z_iload hX dX12_author_71 5 rfl ?_
            exact hk73 v5 hf
          · replace hf := zif_neg h14 hf
            refine z_aload_n hX dX12_author_64 0 rfl ?_
            refine gf_Model_temper hX zq_493 q1514 dX12_author_65 ?_
            refine z_goto hX 73 dX12_author_68 (by decide) ?_
            exact hk73 (g8 493 20) hf
      · refine z_if_eq hX 52 dX12_author_44 (by decide) (fun h15 => ?_) (fun h15 => ?_)
        · replace hf := zif_pos h15 hf
          refine z_aload_n hX dX12_author_52 0 rfl ?_
          refine gf_Model_sender hX zq_493 q1515 dX12_author_53 ?_
          exact hk56 (g6 493 21) hf
        · replace hf := zif_neg h15 hf
          refine z_iload hX dX12_author_47 5 rfl ?_
          refine z_goto hX 56 dX12_author_49 (by decide) ?_
          exact hk56 v5 hf
set_option maxHeartbeats 4000000 in
set_option maxRecDepth 100000 in
theorem fX12_author_ok {X : zX} (hX : zCX X cX12_author RX12) (hT : zNT X) (hR : X.2.2.2.1 = zrm 5 0) (hr : X.2.2.2.2.2.2.2.2.1.sig.returnType = (some .int)) (hn : X.2.2.2.2.2.2.2.2.2.1.maxLocals = 7) {v1 : Int32} {v2 : Int32} {g : zM} {r : Int32 × zM} (hf : fX12_author v1 v2 g = some r) : zW X (zQ X (.inl (some (.int r.1), r.2)) 0) 0 0 0 [(0, .ref (zB X + 493)), (1, .int v1), (2, .int v2)] [] g := by
  unfold fX12_author at hf
  refine z_aload_n hX dX12_author_0 0 rfl ?_
  refine z_iconst hX dX12_author_1 ci_0 ?_
  replace hf := zput_some hf
  obtain ⟨g1, eg1, hf⟩ := hf
  refine gp_Model_thrown hX zq_493 q1494 dX12_author_2 (zW.eqg eg1 ?_)
  refine z_aload_n hX dX12_author_5 0 rfl ?_
  refine z_aload_n hX dX12_author_6 0 rfl ?_
  refine z_iload_n hX dX12_author_7 1 rfl ?_
  replace hf := zb_some hf
  obtain ⟨r_2, h2, hf⟩ := hf
  refine z_callV1 hX ok_X12_noLetter q1787 q1789 q68 (zrm_ok hR (by decide)) (ct_X12_noLetter  h2) (zrec_Model hX zq_493) dX12_author_8 rfl rfl ?_
  refine z_iconst hX dX12_author_11 ci_1 ?_
  replace hf := zb2_some hf
  obtain ⟨r_3, g3, h3, hf⟩ := hf
  refine z_callV1 hX ok_X12_throwsIf q1775 q1777 q67 (zrm_ok hR (by decide)) (ct_X12_throwsIf  h3) (zrec_Model hX zq_493) dX12_author_12 rfl rfl ?_
  refine z_if_eq hX 20 dX12_author_15 (by decide) (fun h4 => ?_) (fun h4 => ?_)
  · replace hf := zif_pos h4 hf
    refine z_iconst hX dX12_author_20 ci_0 ?_
    refine z_istore_n (lv' := [(3, .int 0), (0, .ref (zB X + 493)), (1, .int v1), (2, .int v2)]) hX dX12_author_21 hn (by decide) rfl ?_
    refine z_sipush hX dX12_author_22 cs_1000 ?_
    refine z_istore (lv' := [(4, .int 1000), (3, .int 0), (0, .ref (zB X + 493)), (1, .int v1), (2, .int v2)]) hX dX12_author_25 hn (by decide) rfl ?_
    refine z_iconst hX dX12_author_27 ci_0 ?_
    refine z_istore (lv' := [(5, .int 0), (4, .int 1000), (3, .int 0), (0, .ref (zB X + 493)), (1, .int v1), (2, .int v2)]) hX dX12_author_28 hn (by decide) rfl ?_
    refine zW.sub [3, 4, 5, 2, 1, 0] rfl ?_
    exact fX12_author_L30_ok hX hT hR hr hn  zFU 0 1000 0 g3 hf
  · replace hf := zif_neg h4 hf
    refine z_iconst hX dX12_author_18 ci_0 ?_
    obtain rfl := Option.some.inj hf
    exact z_iret hX hr rfl (zl rfl) (zl rfl) dX12_author_19
set_option maxHeartbeats 4000000 in
set_option maxRecDepth 100000 in
theorem ct_X12_author {E : zE} {v1 : Int32} {v2 : Int32} {g : zM} {r : Int32 × zM} (hf : fX12_author v1 v2 g = some r) : zCt yX12_author cX12_author 7 (some .int) 5 0 E [.ref (E.1 + 493), .int v1, .int v2] g (.inl (some (.int r.1), r.2)) := by
  refine zmet (by decide) (zl rfl) (fun X hE hX hT hR hr hn => ?_)
  subst hE
  exact fX12_author_ok hX hT hR hr hn  hf
def fX12_growsAll_L7 (k33 : zM → Option zM) : Nat → Int32 → zM → Option zM
  | 0, _, _ => none
  | n + 1, v2, g => if 40 < v2 then k33 g else zchk v2 41 (zput g 504 v2.toNatClampNeg (g 493 19) (fun g4 => zb (fX12_goesOn g4) (fun g5 => fX12_growsAll_L7 k33 n (v2 + 1) g5)))
def fX12_growsAll_L35  : Nat → Int32 → zM → Option zM
  | 0, _, _ => none
  | n + 1, v2, g => if (g 493 19) ≤ v2 then some g else zchk v2 24 (zchk v2 24 (zput g 503 v2.toNatClampNeg (g 502 v2.toNatClampNeg) (fun g10 => fX12_growsAll_L35 n (v2 + 1) g10)))
def fX12_growsAll (v1 : Int32) (g : zM) : Option zM := zb (fX12_looksAt v1 g) (fun g1 => fX12_growsAll_L7 (fun g6 => fX12_growsAll_L35 zFU 0 g6) zFU 0 g1)
set_option maxHeartbeats 4000000 in
set_option maxRecDepth 100000 in
theorem fX12_growsAll_L7_ok {X : zX} (hX : zCX X cX12_growsAll RX12) (hT : zNT X) (hR : X.2.2.2.1 = zrm 7 0) (hr : X.2.2.2.2.2.2.2.2.1.sig.returnType = none) (hn : X.2.2.2.2.2.2.2.2.2.1.maxLocals = 3) {k33 : zM → Option zM} {r : zM} (hk33 : ∀ (g : zM), k33 g = some r → zW X (zQ X (.inl (none, r)) 0) 0 0 33 [(0, .ref (zB X + 493))] [] g) : ∀ (n : Nat) (v2 : Int32) (g : zM), fX12_growsAll_L7 k33 n v2 g = some r → zW X (zQ X (.inl (none, r)) 0) 0 0 7 [(0, .ref (zB X + 493)), (2, .int v2)] [] g := by
  intro n
  induction n with
  | zero => intro v2 g hf; exact zno hf
  | succ n ih =>
    intro v2 g hf
    rw [fX12_growsAll_L7] at hf
    refine z_iload_n hX dX12_growsAll_7 1 rfl ?_
    refine z_bipush hX dX12_growsAll_8 cb_40 ?_
    refine z_icmp_gt hX 33 dX12_growsAll_10 (by decide) (fun h2 => ?_) (fun h2 => ?_)
    · replace hf := zif_pos h2 hf
      refine zW.sub [0] rfl ?_
      exact hk33 g hf
    · replace hf := zif_neg h2 hf
      refine z_aload_n hX dX12_growsAll_13 0 rfl ?_
      refine gf_Model_manyThen hX zq_493 q1520 dX12_growsAll_14 ?_
      refine z_iload_n hX dX12_growsAll_17 1 rfl ?_
      refine z_aload_n hX dX12_growsAll_18 0 rfl ?_
      refine gf_Model_many hX zq_493 q1513 dX12_growsAll_19 ?_
      replace hf := zchk_some hf
      obtain ⟨h3, hf⟩ := hf
      replace hf := zput_some hf
      obtain ⟨g4, eg4, hf⟩ := hf
      refine z_iast hX zq_504 (by decide) (zc_1041 _ _) h3 dX12_growsAll_22 (zW.eqg eg4 ?_)
      refine z_aload_n hX dX12_growsAll_23 0 rfl ?_
      replace hf := zb_some hf
      obtain ⟨g5, h5, hf⟩ := hf
      refine z_callV0 hX ok_X12_goesOn q1945 q1947 q91 (zrm_ok hR (by decide)) (ct_X12_goesOn  h5) (zrec_Model hX zq_493) dX12_growsAll_24 rfl rfl ?_
      refine z_iincc (lv' := [(2, .int (v2 + 1)), (0, .ref (zB X + 493))]) hX dX12_growsAll_27 hn (by decide) 1 rfl ci_1 rfl ?_
      refine z_goto hX 7 dX12_growsAll_30 (by decide) ?_
      refine zW.sub [1, 0] rfl ?_
      exact ih (v2 + 1) g5 hf
set_option maxHeartbeats 4000000 in
set_option maxRecDepth 100000 in
theorem fX12_growsAll_L35_ok {X : zX} (hX : zCX X cX12_growsAll RX12) (hT : zNT X) (hR : X.2.2.2.1 = zrm 7 0) (hr : X.2.2.2.2.2.2.2.2.1.sig.returnType = none) (hn : X.2.2.2.2.2.2.2.2.2.1.maxLocals = 3)  {r : zM}  : ∀ (n : Nat) (v2 : Int32) (g : zM), fX12_growsAll_L35 n v2 g = some r → zW X (zQ X (.inl (none, r)) 0) 0 0 35 [(0, .ref (zB X + 493)), (2, .int v2)] [] g := by
  intro n
  induction n with
  | zero => intro v2 g hf; exact zno hf
  | succ n ih =>
    intro v2 g hf
    rw [fX12_growsAll_L35] at hf
    refine z_iload_n hX dX12_growsAll_35 1 rfl ?_
    refine z_aload_n hX dX12_growsAll_36 0 rfl ?_
    refine gf_Model_many hX zq_493 q1513 dX12_growsAll_37 ?_
    refine z_icmp_ge hX 61 dX12_growsAll_40 (by decide) (fun h7 => ?_) (fun h7 => ?_)
    · replace hf := zif_pos h7 hf
      obtain rfl := Option.some.inj hf
      exact z_vret hX hr (zl rfl) (zl rfl) dX12_growsAll_61
    · replace hf := zif_neg h7 hf
      refine z_aload_n hX dX12_growsAll_43 0 rfl ?_
      refine gf_Model_grown hX zq_493 q1519 dX12_growsAll_44 ?_
      refine z_iload_n hX dX12_growsAll_47 1 rfl ?_
      refine z_aload_n hX dX12_growsAll_48 0 rfl ?_
      refine gf_Model_row hX zq_493 q1512 dX12_growsAll_49 ?_
      refine z_iload_n hX dX12_growsAll_52 1 rfl ?_
      replace hf := zchk_some hf
      obtain ⟨h8, hf⟩ := hf
      refine z_iald hX zq_502 (by decide) (zc_1024 _ _ _) h8 dX12_growsAll_53 ?_
      replace hf := zchk_some hf
      obtain ⟨h9, hf⟩ := hf
      replace hf := zput_some hf
      obtain ⟨g10, eg10, hf⟩ := hf
      refine z_iast hX zq_503 (by decide) (zc_1024 _ _) h9 dX12_growsAll_54 (zW.eqg eg10 ?_)
      refine z_iincc (lv' := [(2, .int (v2 + 1)), (0, .ref (zB X + 493))]) hX dX12_growsAll_55 hn (by decide) 1 rfl ci_1 rfl ?_
      refine z_goto hX 35 dX12_growsAll_58 (by decide) ?_
      refine zW.sub [1, 0] rfl ?_
      exact ih (v2 + 1) g10 hf
set_option maxHeartbeats 4000000 in
set_option maxRecDepth 100000 in
theorem fX12_growsAll_ok {X : zX} (hX : zCX X cX12_growsAll RX12) (hT : zNT X) (hR : X.2.2.2.1 = zrm 7 0) (hr : X.2.2.2.2.2.2.2.2.1.sig.returnType = none) (hn : X.2.2.2.2.2.2.2.2.2.1.maxLocals = 3) {v1 : Int32} {g : zM} {r : zM} (hf : fX12_growsAll v1 g = some r) : zW X (zQ X (.inl (none, r)) 0) 0 0 0 [(0, .ref (zB X + 493)), (1, .int v1)] [] g := by
  unfold fX12_growsAll at hf
  refine z_aload_n hX dX12_growsAll_0 0 rfl ?_
  refine z_iload_n hX dX12_growsAll_1 1 rfl ?_
  replace hf := zb_some hf
  obtain ⟨g1, h1, hf⟩ := hf
  refine z_callV0 hX ok_X12_looksAt q1791 q1793 q69 (zrm_ok hR (by decide)) (ct_X12_looksAt  h1) (zrec_Model hX zq_493) dX12_growsAll_2 rfl rfl ?_
  refine z_iconst hX dX12_growsAll_5 ci_0 ?_
  refine z_istore_n (lv' := [(2, .int 0), (0, .ref (zB X + 493)), (1, .int v1)]) hX dX12_growsAll_6 hn (by decide) rfl ?_
  refine zW.sub [1, 0] rfl ?_
  refine fX12_growsAll_L7_ok hX hT hR hr hn (fun g6 hf => ?_) zFU 0 g1 hf
  · refine z_iconst hX dX12_growsAll_33 ci_0 ?_
    refine z_istore_n (lv' := [(2, .int 0), (0, .ref (zB X + 493))]) hX dX12_growsAll_34 hn (by decide) rfl ?_
    refine zW.sub [1, 0] rfl ?_
    exact fX12_growsAll_L35_ok hX hT hR hr hn  zFU 0 g6 hf
set_option maxHeartbeats 4000000 in
set_option maxRecDepth 100000 in
theorem ct_X12_growsAll {E : zE} {v1 : Int32} {g : zM} {r : zM} (hf : fX12_growsAll v1 g = some r) : zCt yX12_growsAll cX12_growsAll 3 none 7 0 E [.ref (E.1 + 493), .int v1] g (.inl (none, r)) := by
  refine zmet (by decide) (zl rfl) (fun X hE hX hT hR hr hn => ?_)
  subst hE
  exact fX12_growsAll_ok hX hT hR hr hn  hf
def fX12_isMet_L52 (g : zM) : Nat → Int32 → Int32 → Option Int32
  | 0, _, _ => none
  | n + 1, v3, v4 => if (g 493 19) ≤ v4 then zbo v3 (some v3) else if v3 = 0 then zbo v3 (some v3) else zchk v4 24 (zchk v4 24 (if (g 502 v4.toNatClampNeg) = (g 503 v4.toNatClampNeg) then fX12_isMet_L52 g n 1 (v4 + 1) else fX12_isMet_L52 g n 0 (v4 + 1)))
def fX12_isMet (v1 : Int32) (v2 : Int32) (g : zM) : Option Int32 := if v2 = 0 then zb (fX12_last g) (fun r_11 => zchk v1 41 (zchk ((g 504 v1.toNatClampNeg) - 1) 24 (if r_11 = (g 503 ((g 504 v1.toNatClampNeg) - 1).toNatClampNeg) then some 1 else some 0))) else zchk v1 41 (if (g 493 19) = (g 504 v1.toNatClampNeg) then fX12_isMet_L52 g zFU 1 0 else fX12_isMet_L52 g zFU 0 0)
set_option maxHeartbeats 4000000 in
set_option maxRecDepth 100000 in
theorem fX12_isMet_L52_ok {X : zX} (hX : zCX X cX12_isMet RX12) (hT : zNT X) (hR : X.2.2.2.1 = zrm 1 0) (hr : X.2.2.2.2.2.2.2.2.1.sig.returnType = (some .boolean)) (hn : X.2.2.2.2.2.2.2.2.2.1.maxLocals = 5) {g : zM} {r : Int32}  : ∀ (n : Nat) (v3 : Int32) (v4 : Int32), fX12_isMet_L52 g n v3 v4 = some r → zW X (zQ X (.inl (some (.int r), g)) 0) 0 0 52 [(0, .ref (zB X + 493)), (3, .int v3), (4, .int v4)] [] g := by
  intro n
  induction n with
  | zero => intro v3 v4 hf; exact zno hf
  | succ n ih =>
    intro v3 v4 hf
    rw [fX12_isMet_L52] at hf
    refine z_iload hX dX12_isMet_52 2 rfl ?_
    refine z_aload_n hX dX12_isMet_54 0 rfl ?_
    refine gf_Model_many hX zq_493 q1513 dX12_isMet_55 ?_
    refine z_icmp_ge hX 94 dX12_isMet_58 (by decide) (fun h4 => ?_) (fun h4 => ?_)
    · replace hf := zif_pos h4 hf
      refine z_iload_n hX dX12_isMet_94 1 rfl ?_
      replace hf := zbo_some hf
      obtain ⟨h5, hf⟩ := hf
      obtain rfl := Option.some.inj hf
      exact z_iret hX hr (zbn h5) (zl rfl) (zl rfl) dX12_isMet_95
    · replace hf := zif_neg h4 hf
      refine z_iload_n hX dX12_isMet_61 1 rfl ?_
      refine z_if_eq hX 94 dX12_isMet_62 (by decide) (fun h6 => ?_) (fun h6 => ?_)
      · replace hf := zif_pos h6 hf
        refine z_iload_n hX dX12_isMet_94 1 rfl ?_
        replace hf := zbo_some hf
        obtain ⟨h7, hf⟩ := hf
        obtain rfl := Option.some.inj hf
        exact z_iret hX hr (zbn h7) (zl rfl) (zl rfl) dX12_isMet_95
      · replace hf := zif_neg h6 hf
        refine z_aload_n hX dX12_isMet_65 0 rfl ?_
        refine gf_Model_row hX zq_493 q1512 dX12_isMet_66 ?_
        refine z_iload hX dX12_isMet_69 2 rfl ?_
        replace hf := zchk_some hf
        obtain ⟨h8, hf⟩ := hf
        refine z_iald hX zq_502 (by decide) (zc_1024 _ _ _) h8 dX12_isMet_71 ?_
        refine z_aload_n hX dX12_isMet_72 0 rfl ?_
        refine gf_Model_grown hX zq_493 q1519 dX12_isMet_73 ?_
        refine z_iload hX dX12_isMet_76 2 rfl ?_
        replace hf := zchk_some hf
        obtain ⟨h9, hf⟩ := hf
        refine z_iald hX zq_503 (by decide) (zc_1024 _ _ _) h9 dX12_isMet_78 ?_
        refine z_icmp_ne hX 86 dX12_isMet_79 (by decide) (fun h10 => ?_) (fun h10 => ?_)
        · replace hf := zif_neg h10 hf
          refine z_iconst hX dX12_isMet_86 ci_0 ?_
          refine z_istore_n (lv' := [(3, .int 0), (0, .ref (zB X + 493)), (4, .int v4)]) hX dX12_isMet_87 hn (by decide) rfl ?_
          refine z_iincc (lv' := [(4, .int (v4 + 1)), (3, .int 0), (0, .ref (zB X + 493))]) hX dX12_isMet_88 hn (by decide) 2 rfl ci_1 rfl ?_
          refine z_goto hX 52 dX12_isMet_91 (by decide) ?_
          refine zW.sub [2, 1, 0] rfl ?_
          exact ih 0 (v4 + 1) hf
        · replace hf := zif_pos h10 hf
          refine z_iconst hX dX12_isMet_82 ci_1 ?_
          refine z_goto hX 87 dX12_isMet_83 (by decide) ?_
          refine z_istore_n (lv' := [(3, .int 1), (0, .ref (zB X + 493)), (4, .int v4)]) hX dX12_isMet_87 hn (by decide) rfl ?_
          refine z_iincc (lv' := [(4, .int (v4 + 1)), (3, .int 1), (0, .ref (zB X + 493))]) hX dX12_isMet_88 hn (by decide) 2 rfl ci_1 rfl ?_
          refine z_goto hX 52 dX12_isMet_91 (by decide) ?_
          refine zW.sub [2, 1, 0] rfl ?_
          exact ih 1 (v4 + 1) hf
set_option maxHeartbeats 4000000 in
set_option maxRecDepth 100000 in
theorem fX12_isMet_ok {X : zX} (hX : zCX X cX12_isMet RX12) (hT : zNT X) (hR : X.2.2.2.1 = zrm 1 0) (hr : X.2.2.2.2.2.2.2.2.1.sig.returnType = (some .boolean)) (hn : X.2.2.2.2.2.2.2.2.2.1.maxLocals = 5) {v1 : Int32} {v2 : Int32} {g : zM} {r : Int32} (hf : fX12_isMet v1 v2 g = some r) : zW X (zQ X (.inl (some (.int r), g)) 0) 0 0 0 [(0, .ref (zB X + 493)), (1, .int v1), (2, .int v2)] [] g := by
  unfold fX12_isMet at hf
  refine z_iload_n hX dX12_isMet_0 2 rfl ?_
  refine z_if_ne hX 30 dX12_isMet_1 (by decide) (fun h1 => ?_) (fun h1 => ?_)
  · replace hf := zif_neg h1 hf
    refine z_aload_n hX dX12_isMet_30 0 rfl ?_
    refine gf_Model_many hX zq_493 q1513 dX12_isMet_31 ?_
    refine z_aload_n hX dX12_isMet_34 0 rfl ?_
    refine gf_Model_manyThen hX zq_493 q1520 dX12_isMet_35 ?_
    refine z_iload_n hX dX12_isMet_38 1 rfl ?_
    replace hf := zchk_some hf
    obtain ⟨h2, hf⟩ := hf
    refine z_iald hX zq_504 (by decide) (zc_1041 _ _ _) h2 dX12_isMet_39 ?_
    refine z_icmp_ne hX 47 dX12_isMet_40 (by decide) (fun h3 => ?_) (fun h3 => ?_)
    · replace hf := zif_neg h3 hf
      refine z_iconst hX dX12_isMet_47 ci_0 ?_
      refine z_istore_n (lv' := [(3, .int 0), (0, .ref (zB X + 493)), (1, .int v1), (2, .int v2)]) hX dX12_isMet_48 hn (by decide) rfl ?_
      refine z_iconst hX dX12_isMet_49 ci_0 ?_
      refine z_istore (lv' := [(4, .int 0), (3, .int 0), (0, .ref (zB X + 493)), (1, .int v1), (2, .int v2)]) hX dX12_isMet_50 hn (by decide) rfl ?_
      refine zW.sub [2, 1, 0] rfl ?_
      exact fX12_isMet_L52_ok hX hT hR hr hn  zFU 0 0 hf
    · replace hf := zif_pos h3 hf
      refine z_iconst hX dX12_isMet_43 ci_1 ?_
      refine z_goto hX 48 dX12_isMet_44 (by decide) ?_
      refine z_istore_n (lv' := [(3, .int 1), (0, .ref (zB X + 493)), (1, .int v1), (2, .int v2)]) hX dX12_isMet_48 hn (by decide) rfl ?_
      refine z_iconst hX dX12_isMet_49 ci_0 ?_
      refine z_istore (lv' := [(4, .int 0), (3, .int 1), (0, .ref (zB X + 493)), (1, .int v1), (2, .int v2)]) hX dX12_isMet_50 hn (by decide) rfl ?_
      refine zW.sub [2, 1, 0] rfl ?_
      exact fX12_isMet_L52_ok hX hT hR hr hn  zFU 1 0 hf
  · replace hf := zif_pos h1 hf
    refine z_aload_n hX dX12_isMet_4 0 rfl ?_
    replace hf := zb_some hf
    obtain ⟨r_11, h11, hf⟩ := hf
    refine z_callV1 hX ok_X12_last q1807 q1809 q73 (zrm_ok hR (by decide)) (ct_X12_last  h11) (zrec_Model hX zq_493) dX12_isMet_5 rfl rfl ?_
    refine z_aload_n hX dX12_isMet_8 0 rfl ?_
    refine gf_Model_grown hX zq_493 q1519 dX12_isMet_9 ?_
    refine z_aload_n hX dX12_isMet_12 0 rfl ?_
    refine gf_Model_manyThen hX zq_493 q1520 dX12_isMet_13 ?_
    refine z_iload_n hX dX12_isMet_16 1 rfl ?_
    replace hf := zchk_some hf
    obtain ⟨h12, hf⟩ := hf
    refine z_iald hX zq_504 (by decide) (zc_1041 _ _ _) h12 dX12_isMet_17 ?_
    refine z_iconst hX dX12_isMet_18 ci_1 ?_
    refine z_isub hX dX12_isMet_19 ?_
    replace hf := zchk_some hf
    obtain ⟨h13, hf⟩ := hf
    refine z_iald hX zq_503 (by decide) (zc_1024 _ _ _) h13 dX12_isMet_20 ?_
    refine z_icmp_ne hX 28 dX12_isMet_21 (by decide) (fun h14 => ?_) (fun h14 => ?_)
    · replace hf := zif_neg h14 hf
      refine z_iconst hX dX12_isMet_28 ci_0 ?_
      obtain rfl := Option.some.inj hf
      exact z_iret hX hr (zbn (Or.inl rfl)) (zl rfl) (zl rfl) dX12_isMet_29
    · replace hf := zif_pos h14 hf
      refine z_iconst hX dX12_isMet_24 ci_1 ?_
      refine z_goto hX 29 dX12_isMet_25 (by decide) ?_
      obtain rfl := Option.some.inj hf
      exact z_iret hX hr (zbn (Or.inr rfl)) (zl rfl) (zl rfl) dX12_isMet_29
set_option maxHeartbeats 4000000 in
set_option maxRecDepth 100000 in
theorem ct_X12_isMet {E : zE} {v1 : Int32} {v2 : Int32} {g : zM} {r : Int32} (hf : fX12_isMet v1 v2 g = some r) : zCt yX12_isMet cX12_isMet 5 (some .boolean) 1 0 E [.ref (E.1 + 493), .int v1, .int v2] g (.inl (some (.int r), g)) := by
  refine zmet (by decide) (zl rfl) (fun X hE hX hT hR hr hn => ?_)
  subst hE
  exact fX12_isMet_ok hX hT hR hr hn  hf
def fX12_meetOf_L13 (v3 : Int32) : Nat → Int32 → zM → Option (Int32 × zM)
  | 0, _, _ => none
  | n + 1, v4, g => if 40 < v4 then some ((-1), g) else zb (fX12_isMet v4 v3 g) (fun r_4 => if r_4 = 0 then zb (fX12_goesOn g) (fun g6 => fX12_meetOf_L13 v3 n (v4 + 1) g6) else some (v4, g))
def fX12_meetOf (v1 : Int32) (v2 : Int32) (v3 : Int32) (g : zM) : Option (Int32 × zM) := zb (fX12_growsAll v2 g) (fun g1 => zb (fX12_looksAt v1 g1) (fun g2 => fX12_meetOf_L13 v3 zFU 0 g2))
set_option maxHeartbeats 4000000 in
set_option maxRecDepth 100000 in
theorem fX12_meetOf_L13_ok {X : zX} (hX : zCX X cX12_meetOf RX12) (hT : zNT X) (hR : X.2.2.2.1 = zrm 8 0) (hr : X.2.2.2.2.2.2.2.2.1.sig.returnType = (some .int)) (hn : X.2.2.2.2.2.2.2.2.2.1.maxLocals = 5) {v3 : Int32} {r : Int32 × zM}  : ∀ (n : Nat) (v4 : Int32) (g : zM), fX12_meetOf_L13 v3 n v4 g = some r → zW X (zQ X (.inl (some (.int r.1), r.2)) 0) 0 0 13 [(0, .ref (zB X + 493)), (3, .int v3), (4, .int v4)] [] g := by
  intro n
  induction n with
  | zero => intro v4 g hf; exact zno hf
  | succ n ih =>
    intro v4 g hf
    rw [fX12_meetOf_L13] at hf
    refine z_iload hX dX12_meetOf_13 2 rfl ?_
    refine z_bipush hX dX12_meetOf_15 cb_40 ?_
    refine z_icmp_gt hX 43 dX12_meetOf_17 (by decide) (fun h3 => ?_) (fun h3 => ?_)
    · replace hf := zif_pos h3 hf
      refine z_iconst hX dX12_meetOf_43 ci_m1 ?_
      obtain rfl := Option.some.inj hf
      exact z_iret hX hr rfl (zl rfl) (zl rfl) dX12_meetOf_44
    · replace hf := zif_neg h3 hf
      refine z_aload_n hX dX12_meetOf_20 0 rfl ?_
      refine z_iload hX dX12_meetOf_21 2 rfl ?_
      refine z_iload_n hX dX12_meetOf_23 1 rfl ?_
      replace hf := zb_some hf
      obtain ⟨r_4, h4, hf⟩ := hf
      refine z_callV1 hX ok_X12_isMet q2030 q2032 q100 (zrm_ok hR (by decide)) (ct_X12_isMet  h4) (zrec_Model hX zq_493) dX12_meetOf_24 rfl rfl ?_
      refine z_if_eq hX 33 dX12_meetOf_27 (by decide) (fun h5 => ?_) (fun h5 => ?_)
      · replace hf := zif_pos h5 hf
        refine z_aload_n hX dX12_meetOf_33 0 rfl ?_
        replace hf := zb_some hf
        obtain ⟨g6, h6, hf⟩ := hf
        refine z_callV0 hX ok_X12_goesOn q1945 q1947 q91 (zrm_ok hR (by decide)) (ct_X12_goesOn  h6) (zrec_Model hX zq_493) dX12_meetOf_34 rfl rfl ?_
        refine z_iincc (lv' := [(4, .int (v4 + 1)), (0, .ref (zB X + 493)), (3, .int v3)]) hX dX12_meetOf_37 hn (by decide) 2 rfl ci_1 rfl ?_
        refine z_goto hX 13 dX12_meetOf_40 (by decide) ?_
        refine zW.sub [1, 2, 0] rfl ?_
        exact ih (v4 + 1) g6 hf
      · replace hf := zif_neg h5 hf
        refine z_iload hX dX12_meetOf_30 2 rfl ?_
        obtain rfl := Option.some.inj hf
        exact z_iret hX hr rfl (zl rfl) (zl rfl) dX12_meetOf_32
set_option maxHeartbeats 4000000 in
set_option maxRecDepth 100000 in
theorem fX12_meetOf_ok {X : zX} (hX : zCX X cX12_meetOf RX12) (hT : zNT X) (hR : X.2.2.2.1 = zrm 8 0) (hr : X.2.2.2.2.2.2.2.2.1.sig.returnType = (some .int)) (hn : X.2.2.2.2.2.2.2.2.2.1.maxLocals = 5) {v1 : Int32} {v2 : Int32} {v3 : Int32} {g : zM} {r : Int32 × zM} (hf : fX12_meetOf v1 v2 v3 g = some r) : zW X (zQ X (.inl (some (.int r.1), r.2)) 0) 0 0 0 [(0, .ref (zB X + 493)), (1, .int v1), (2, .int v2), (3, .int v3)] [] g := by
  unfold fX12_meetOf at hf
  refine z_aload_n hX dX12_meetOf_0 0 rfl ?_
  refine z_iload_n hX dX12_meetOf_1 2 rfl ?_
  replace hf := zb_some hf
  obtain ⟨g1, h1, hf⟩ := hf
  refine z_callV0 hX ok_X12_growsAll q2026 q2028 q99 (zrm_ok hR (by decide)) (ct_X12_growsAll  h1) (zrec_Model hX zq_493) dX12_meetOf_2 rfl rfl ?_
  refine z_aload_n hX dX12_meetOf_5 0 rfl ?_
  refine z_iload_n hX dX12_meetOf_6 1 rfl ?_
  replace hf := zb_some hf
  obtain ⟨g2, h2, hf⟩ := hf
  refine z_callV0 hX ok_X12_looksAt q1791 q1793 q69 (zrm_ok hR (by decide)) (ct_X12_looksAt  h2) (zrec_Model hX zq_493) dX12_meetOf_7 rfl rfl ?_
  refine z_iconst hX dX12_meetOf_10 ci_0 ?_
  refine z_istore (lv' := [(4, .int 0), (0, .ref (zB X + 493)), (1, .int v1), (2, .int v2), (3, .int v3)]) hX dX12_meetOf_11 hn (by decide) rfl ?_
  refine zW.sub [1, 4, 0] rfl ?_
  exact fX12_meetOf_L13_ok hX hT hR hr hn  zFU 0 g2 hf
set_option maxHeartbeats 4000000 in
set_option maxRecDepth 100000 in
theorem ct_X12_meetOf {E : zE} {v1 : Int32} {v2 : Int32} {v3 : Int32} {g : zM} {r : Int32 × zM} (hf : fX12_meetOf v1 v2 v3 g = some r) : zCt yX12_meetOf cX12_meetOf 5 (some .int) 8 0 E [.ref (E.1 + 493), .int v1, .int v2, .int v3] g (.inl (some (.int r.1), r.2)) := by
  refine zmet (by decide) (zl rfl) (fun X hE hX hT hR hr hn => ?_)
  subst hE
  exact fX12_meetOf_ok hX hT hR hr hn  hf
def fX12_meet (v1 : Int32) (v2 : Int32) (v3 : Int32) (g : zM) : Option (Int32 × zM) := zput g 493 0 0 (fun g1 => zb (fX12_noLetter v1 g1) (fun r_2 => zjoin (fun t0_3 => zb2 (fX12_throwsIf t0_3 1 g1) (fun r_4 g4 => if r_4 = 0 then zjoin (fun t0_6 => zb2 (fX12_throwsIf t0_6 2 g4) (fun r_7 g7 => if r_7 = 0 then zb2 (fX12_meetOf v1 v2 v3 g7) (fun r_9 g9 => some (r_9, g9)) else some (0, g7)) : Int32 → Option (Int32 × zM)) (fun k45 => if v1 = v2 then k45 1 else k45 0) else some (0, g4)) : Int32 → Option (Int32 × zM)) (fun k27 => if r_2 = 0 then zb (fX12_noLetter v2 g1) (fun r_12 => if r_12 = 0 then k27 0 else k27 1) else k27 1)))
set_option maxHeartbeats 4000000 in
set_option maxRecDepth 100000 in
theorem fX12_meet_ok {X : zX} (hX : zCX X cX12_meet RX12) (hT : zNT X) (hR : X.2.2.2.1 = zrm 9 0) (hr : X.2.2.2.2.2.2.2.2.1.sig.returnType = (some .int)) (hn : X.2.2.2.2.2.2.2.2.2.1.maxLocals = 4) {v1 : Int32} {v2 : Int32} {v3 : Int32} {g : zM} {r : Int32 × zM} (hf : fX12_meet v1 v2 v3 g = some r) : zW X (zQ X (.inl (some (.int r.1), r.2)) 0) 0 0 0 [(0, .ref (zB X + 493)), (1, .int v1), (2, .int v2), (3, .int v3)] [] g := by
  unfold fX12_meet at hf
  refine z_aload_n hX dX12_meet_0 0 rfl ?_
  refine z_iconst hX dX12_meet_1 ci_0 ?_
  replace hf := zput_some hf
  obtain ⟨g1, eg1, hf⟩ := hf
  refine gp_Model_thrown hX zq_493 q1494 dX12_meet_2 (zW.eqg eg1 ?_)
  refine z_aload_n hX dX12_meet_5 0 rfl ?_
  refine z_aload_n hX dX12_meet_6 0 rfl ?_
  refine z_iload_n hX dX12_meet_7 1 rfl ?_
  replace hf := zb_some hf
  obtain ⟨r_2, h2, hf⟩ := hf
  refine z_callV1 hX ok_X12_noLetter q1787 q1789 q68 (zrm_ok hR (by decide)) (ct_X12_noLetter  h2) (zrec_Model hX zq_493) dX12_meet_8 rfl rfl ?_
  refine zjoin_ok (P := fun (k : Int32 → Option (Int32 × zM)) => ∀ (t0_3 : Int32), k t0_3 = some r → zW X (zQ X (.inl (some (.int r.1), r.2)) 0) 0 0 27 [(0, .ref (zB X + 493)), (1, .int v1), (2, .int v2), (3, .int v3)] [.int t0_3, .ref (zB X + 493)] g1) hf (fun t0_3 hf => ?_) (fun k27 hk27 hf => ?_)
  · refine z_iconst hX dX12_meet_27 ci_1 ?_
    replace hf := zb2_some hf
    obtain ⟨r_4, g4, h4, hf⟩ := hf
    refine z_callV1 hX ok_X12_throwsIf q1775 q1777 q67 (zrm_ok hR (by decide)) (ct_X12_throwsIf  h4) (zrec_Model hX zq_493) dX12_meet_28 rfl rfl ?_
    refine z_if_ne hX 52 dX12_meet_31 (by decide) (fun h5 => ?_) (fun h5 => ?_)
    · replace hf := zif_neg h5 hf
      refine z_iconst hX dX12_meet_52 ci_0 ?_
      refine z_goto hX 63 dX12_meet_53 (by decide) ?_
      obtain rfl := Option.some.inj hf
      exact z_iret hX hr rfl (zl rfl) (zl rfl) dX12_meet_63
    · replace hf := zif_pos h5 hf
      refine z_aload_n hX dX12_meet_34 0 rfl ?_
      refine z_iload_n hX dX12_meet_35 1 rfl ?_
      refine z_iload_n hX dX12_meet_36 2 rfl ?_
      refine zjoin_ok (P := fun (k : Int32 → Option (Int32 × zM)) => ∀ (t0_6 : Int32), k t0_6 = some r → zW X (zQ X (.inl (some (.int r.1), r.2)) 0) 0 0 45 [(0, .ref (zB X + 493)), (1, .int v1), (2, .int v2), (3, .int v3)] [.int t0_6, .ref (zB X + 493)] g4) hf (fun t0_6 hf => ?_) (fun k45 hk45 hf => ?_)
      · refine z_iconst hX dX12_meet_45 ci_2 ?_
        replace hf := zb2_some hf
        obtain ⟨r_7, g7, h7, hf⟩ := hf
        refine z_callV1 hX ok_X12_throwsIf q1775 q1777 q67 (zrm_ok hR (by decide)) (ct_X12_throwsIf  h7) (zrec_Model hX zq_493) dX12_meet_46 rfl rfl ?_
        refine z_if_eq hX 56 dX12_meet_49 (by decide) (fun h8 => ?_) (fun h8 => ?_)
        · replace hf := zif_pos h8 hf
          refine z_aload_n hX dX12_meet_56 0 rfl ?_
          refine z_iload_n hX dX12_meet_57 1 rfl ?_
          refine z_iload_n hX dX12_meet_58 2 rfl ?_
          refine z_iload_n hX dX12_meet_59 3 rfl ?_
          replace hf := zb2_some hf
          obtain ⟨r_9, g9, h9, hf⟩ := hf
          refine z_callV1 hX ok_X12_meetOf q2022 q2024 q98 (zrm_ok hR (by decide)) (ct_X12_meetOf  h9) (zrec_Model hX zq_493) dX12_meet_60 rfl rfl ?_
          obtain rfl := Option.some.inj hf
          exact z_iret hX hr rfl (zl rfl) (zl rfl) dX12_meet_63
        · replace hf := zif_neg h8 hf
          refine z_iconst hX dX12_meet_52 ci_0 ?_
          refine z_goto hX 63 dX12_meet_53 (by decide) ?_
          obtain rfl := Option.some.inj hf
          exact z_iret hX hr rfl (zl rfl) (zl rfl) dX12_meet_63
      · refine z_icmp_ne hX 44 dX12_meet_37 (by decide) (fun h10 => ?_) (fun h10 => ?_)
        · replace hf := zif_neg h10 hf
          refine z_iconst hX dX12_meet_44 ci_0 ?_
          exact hk45 0 hf
        · replace hf := zif_pos h10 hf
          refine z_iconst hX dX12_meet_40 ci_1 ?_
          refine z_goto hX 45 dX12_meet_41 (by decide) ?_
          exact hk45 1 hf
  · refine z_if_ne hX 22 dX12_meet_11 (by decide) (fun h11 => ?_) (fun h11 => ?_)
    · replace hf := zif_neg h11 hf
      refine z_iconst hX dX12_meet_22 ci_1 ?_
      refine z_goto hX 27 dX12_meet_23 (by decide) ?_
      exact hk27 1 hf
    · replace hf := zif_pos h11 hf
      refine z_aload_n hX dX12_meet_14 0 rfl ?_
      refine z_iload_n hX dX12_meet_15 2 rfl ?_
      replace hf := zb_some hf
      obtain ⟨r_12, h12, hf⟩ := hf
      refine z_callV1 hX ok_X12_noLetter q1787 q1789 q68 (zrm_ok hR (by decide)) (ct_X12_noLetter  h12) (zrec_Model hX zq_493) dX12_meet_16 rfl rfl ?_
      refine z_if_eq hX 26 dX12_meet_19 (by decide) (fun h13 => ?_) (fun h13 => ?_)
      · replace hf := zif_pos h13 hf
        refine z_iconst hX dX12_meet_26 ci_0 ?_
        exact hk27 0 hf
      · replace hf := zif_neg h13 hf
        refine z_iconst hX dX12_meet_22 ci_1 ?_
        refine z_goto hX 27 dX12_meet_23 (by decide) ?_
        exact hk27 1 hf
set_option maxHeartbeats 4000000 in
set_option maxRecDepth 100000 in
theorem ct_X12_meet {E : zE} {v1 : Int32} {v2 : Int32} {v3 : Int32} {g : zM} {r : Int32 × zM} (hf : fX12_meet v1 v2 v3 g = some r) : zCt yX12_meet cX12_meet 4 (some .int) 9 0 E [.ref (E.1 + 493), .int v1, .int v2, .int v3] g (.inl (some (.int r.1), r.2)) := by
  refine zmet (by decide) (zl rfl) (fun X hE hX hT hR hr hn => ?_)
  subst hE
  exact fX12_meet_ok hX hT hR hr hn  hf
def fX12_part_L71 (v1 : Int32) (v2 : Int32) (v3 : Int32) (g : zM) (k103 : Option (Int32 × zM)) : Nat → Int32 → Option (Int32 × zM)
  | 0, _ => none
  | n + 1, v4 => if v3 ≤ v4 then k103 else zb (fX12_kindOf v1 v4 g) (fun r_12 => zb (fX12_kindOf v2 v4 g) (fun r_13 => if r_12 = r_13 then fX12_part_L71 v1 v2 v3 g k103 n (v4 + 1) else some (v4, g)))
def fX12_part (v1 : Int32) (v2 : Int32) (g : zM) : Option (Int32 × zM) := zput g 493 0 0 (fun g1 => zb (fX12_noLetter v1 g1) (fun r_2 => zjoin (fun t0_3 => zb2 (fX12_throwsIf t0_3 1 g1) (fun r_4 g4 => if r_4 = 0 then zjoin (fun t0_6 => zb2 (fX12_throwsIf t0_6 2 g4) (fun r_7 g7 => if r_7 = 0 then zb (fX12_lines v1 g7) (fun r_9 => zb (fX12_lines v2 g7) (fun r_10 => fX12_part_L71 v1 v2 (if r_10 < r_9 then r_10 else r_9) g7 (zb (fX12_lines v1 g7) (fun r_16 => zb (fX12_lines v2 g7) (fun r_17 => if r_16 = r_17 then some ((-1), g7) else some (if r_10 < r_9 then r_10 else r_9, g7)))) zFU 0)) else some (0, g7)) : Int32 → Option (Int32 × zM)) (fun k45 => if v1 = v2 then k45 1 else k45 0) else some (0, g4)) : Int32 → Option (Int32 × zM)) (fun k27 => if r_2 = 0 then zb (fX12_noLetter v2 g1) (fun r_21 => if r_21 = 0 then k27 0 else k27 1) else k27 1)))
set_option maxHeartbeats 4000000 in
set_option maxRecDepth 100000 in
theorem fX12_part_L71_ok {X : zX} (hX : zCX X cX12_part RX12) (hT : zNT X) (hR : X.2.2.2.1 = zrm 5 0) (hr : X.2.2.2.2.2.2.2.2.1.sig.returnType = (some .int)) (hn : X.2.2.2.2.2.2.2.2.2.1.maxLocals = 5) {v1 : Int32} {v2 : Int32} {v3 : Int32} {g : zM} {k103 : Option (Int32 × zM)} {r : Int32 × zM} (hk103 : k103 = some r → zW X (zQ X (.inl (some (.int r.1), r.2)) 0) 0 0 103 [(0, .ref (zB X + 493)), (1, .int v1), (2, .int v2), (3, .int v3)] [] g) : ∀ (n : Nat) (v4 : Int32), fX12_part_L71 v1 v2 v3 g k103 n v4 = some r → zW X (zQ X (.inl (some (.int r.1), r.2)) 0) 0 0 71 [(0, .ref (zB X + 493)), (1, .int v1), (2, .int v2), (3, .int v3), (4, .int v4)] [] g := by
  intro n
  induction n with
  | zero => intro v4 hf; exact zno hf
  | succ n ih =>
    intro v4 hf
    rw [fX12_part_L71] at hf
    refine z_iload hX dX12_part_71 4 rfl ?_
    refine z_iload_n hX dX12_part_73 3 rfl ?_
    refine z_icmp_ge hX 103 dX12_part_74 (by decide) (fun h11 => ?_) (fun h11 => ?_)
    · replace hf := zif_pos h11 hf
      refine zW.sub [0, 1, 2, 3] rfl ?_
      exact hk103 hf
    · replace hf := zif_neg h11 hf
      refine z_aload_n hX dX12_part_77 0 rfl ?_
      refine z_iload_n hX dX12_part_78 1 rfl ?_
      refine z_iload hX dX12_part_79 4 rfl ?_
      replace hf := zb_some hf
      obtain ⟨r_12, h12, hf⟩ := hf
      refine z_callV1 hX ok_X12_kindOf q1795 q1797 q70 (zrm_ok hR (by decide)) (ct_X12_kindOf  h12) (zrec_Model hX zq_493) dX12_part_81 rfl rfl ?_
      refine z_aload_n hX dX12_part_84 0 rfl ?_
      refine z_iload_n hX dX12_part_85 2 rfl ?_
      refine z_iload hX dX12_part_86 4 rfl ?_
      replace hf := zb_some hf
      obtain ⟨r_13, h13, hf⟩ := hf
      refine z_callV1 hX ok_X12_kindOf q1795 q1797 q70 (zrm_ok hR (by decide)) (ct_X12_kindOf  h13) (zrec_Model hX zq_493) dX12_part_88 rfl rfl ?_
      refine z_icmp_eq hX 97 dX12_part_91 (by decide) (fun h14 => ?_) (fun h14 => ?_)
      · replace hf := zif_pos h14 hf
        refine z_iincc (lv' := [(4, .int (v4 + 1)), (0, .ref (zB X + 493)), (1, .int v1), (2, .int v2), (3, .int v3)]) hX dX12_part_97 hn (by decide) 4 rfl ci_1 rfl ?_
        refine z_goto hX 71 dX12_part_100 (by decide) ?_
        refine zW.sub [1, 2, 3, 4, 0] rfl ?_
        exact ih (v4 + 1) hf
      · replace hf := zif_neg h14 hf
        refine z_iload hX dX12_part_94 4 rfl ?_
        obtain rfl := Option.some.inj hf
        exact z_iret hX hr rfl (zl rfl) (zl rfl) dX12_part_96
set_option maxHeartbeats 4000000 in
set_option maxRecDepth 100000 in
theorem fX12_part_ok {X : zX} (hX : zCX X cX12_part RX12) (hT : zNT X) (hR : X.2.2.2.1 = zrm 5 0) (hr : X.2.2.2.2.2.2.2.2.1.sig.returnType = (some .int)) (hn : X.2.2.2.2.2.2.2.2.2.1.maxLocals = 5) {v1 : Int32} {v2 : Int32} {g : zM} {r : Int32 × zM} (hf : fX12_part v1 v2 g = some r) : zW X (zQ X (.inl (some (.int r.1), r.2)) 0) 0 0 0 [(0, .ref (zB X + 493)), (1, .int v1), (2, .int v2)] [] g := by
  unfold fX12_part at hf
  refine z_aload_n hX dX12_part_0 0 rfl ?_
  refine z_iconst hX dX12_part_1 ci_0 ?_
  replace hf := zput_some hf
  obtain ⟨g1, eg1, hf⟩ := hf
  refine gp_Model_thrown hX zq_493 q1494 dX12_part_2 (zW.eqg eg1 ?_)
  refine z_aload_n hX dX12_part_5 0 rfl ?_
  refine z_aload_n hX dX12_part_6 0 rfl ?_
  refine z_iload_n hX dX12_part_7 1 rfl ?_
  replace hf := zb_some hf
  obtain ⟨r_2, h2, hf⟩ := hf
  refine z_callV1 hX ok_X12_noLetter q1787 q1789 q68 (zrm_ok hR (by decide)) (ct_X12_noLetter  h2) (zrec_Model hX zq_493) dX12_part_8 rfl rfl ?_
  refine zjoin_ok (P := fun (k : Int32 → Option (Int32 × zM)) => ∀ (t0_3 : Int32), k t0_3 = some r → zW X (zQ X (.inl (some (.int r.1), r.2)) 0) 0 0 27 [(0, .ref (zB X + 493)), (1, .int v1), (2, .int v2)] [.int t0_3, .ref (zB X + 493)] g1) hf (fun t0_3 hf => ?_) (fun k27 hk27 hf => ?_)
  · refine z_iconst hX dX12_part_27 ci_1 ?_
    replace hf := zb2_some hf
    obtain ⟨r_4, g4, h4, hf⟩ := hf
    refine z_callV1 hX ok_X12_throwsIf q1775 q1777 q67 (zrm_ok hR (by decide)) (ct_X12_throwsIf  h4) (zrec_Model hX zq_493) dX12_part_28 rfl rfl ?_
    refine z_if_ne hX 52 dX12_part_31 (by decide) (fun h5 => ?_) (fun h5 => ?_)
    · replace hf := zif_neg h5 hf
      refine z_iconst hX dX12_part_52 ci_0 ?_
      obtain rfl := Option.some.inj hf
      exact z_iret hX hr rfl (zl rfl) (zl rfl) dX12_part_53
    · replace hf := zif_pos h5 hf
      refine z_aload_n hX dX12_part_34 0 rfl ?_
      refine z_iload_n hX dX12_part_35 1 rfl ?_
      refine z_iload_n hX dX12_part_36 2 rfl ?_
      refine zjoin_ok (P := fun (k : Int32 → Option (Int32 × zM)) => ∀ (t0_6 : Int32), k t0_6 = some r → zW X (zQ X (.inl (some (.int r.1), r.2)) 0) 0 0 45 [(0, .ref (zB X + 493)), (1, .int v1), (2, .int v2)] [.int t0_6, .ref (zB X + 493)] g4) hf (fun t0_6 hf => ?_) (fun k45 hk45 hf => ?_)
      · refine z_iconst hX dX12_part_45 ci_2 ?_
        replace hf := zb2_some hf
        obtain ⟨r_7, g7, h7, hf⟩ := hf
        refine z_callV1 hX ok_X12_throwsIf q1775 q1777 q67 (zrm_ok hR (by decide)) (ct_X12_throwsIf  h7) (zrec_Model hX zq_493) dX12_part_46 rfl rfl ?_
        refine z_if_eq hX 54 dX12_part_49 (by decide) (fun h8 => ?_) (fun h8 => ?_)
        · replace hf := zif_pos h8 hf
          refine z_aload_n hX dX12_part_54 0 rfl ?_
          refine z_iload_n hX dX12_part_55 1 rfl ?_
          replace hf := zb_some hf
          obtain ⟨r_9, h9, hf⟩ := hf
          refine z_callV1 hX ok_X12_lines q1683 q1685 q48 (zrm_ok hR (by decide)) (ct_X12_lines  h9) (zrec_Model hX zq_493) dX12_part_56 rfl rfl ?_
          refine z_aload_n hX dX12_part_59 0 rfl ?_
          refine z_iload_n hX dX12_part_60 2 rfl ?_
          replace hf := zb_some hf
          obtain ⟨r_10, h10, hf⟩ := hf
          refine z_callV1 hX ok_X12_lines q1683 q1685 q48 (zrm_ok hR (by decide)) (ct_X12_lines  h10) (zrec_Model hX zq_493) dX12_part_61 rfl rfl ?_
          refine z_min hX hR ⟨zl rfl, zl rfl⟩ q1929 dX12_part_64 (zl rfl) ?_
          refine z_istore_n (lv' := [(3, .int (if r_10 < r_9 then r_10 else r_9)), (0, .ref (zB X + 493)), (1, .int v1), (2, .int v2)]) hX dX12_part_67 hn (by decide) rfl ?_
          refine z_iconst hX dX12_part_68 ci_0 ?_
          refine z_istore (lv' := [(4, .int 0), (3, .int (if r_10 < r_9 then r_10 else r_9)), (0, .ref (zB X + 493)), (1, .int v1), (2, .int v2)]) hX dX12_part_69 hn (by decide) rfl ?_
          refine zW.sub [2, 3, 4, 1, 0] rfl ?_
          refine fX12_part_L71_ok hX hT hR hr hn (fun hf => ?_) zFU 0 hf
          · refine z_aload_n hX dX12_part_103 0 rfl ?_
            refine z_iload_n hX dX12_part_104 1 rfl ?_
            replace hf := zb_some hf
            obtain ⟨r_16, h16, hf⟩ := hf
            refine z_callV1 hX ok_X12_lines q1683 q1685 q48 (zrm_ok hR (by decide)) (ct_X12_lines  h16) (zrec_Model hX zq_493) dX12_part_105 rfl rfl ?_
            refine z_aload_n hX dX12_part_108 0 rfl ?_
            refine z_iload_n hX dX12_part_109 2 rfl ?_
            replace hf := zb_some hf
            obtain ⟨r_17, h17, hf⟩ := hf
            refine z_callV1 hX ok_X12_lines q1683 q1685 q48 (zrm_ok hR (by decide)) (ct_X12_lines  h17) (zrec_Model hX zq_493) dX12_part_110 rfl rfl ?_
            refine z_icmp_ne hX 120 dX12_part_113 (by decide) (fun h18 => ?_) (fun h18 => ?_)
            · replace hf := zif_neg h18 hf
              refine z_iload_n hX dX12_part_120 3 rfl ?_
              obtain rfl := Option.some.inj hf
              exact z_iret hX hr rfl (zl rfl) (zl rfl) dX12_part_121
            · replace hf := zif_pos h18 hf
              refine z_iconst hX dX12_part_116 ci_m1 ?_
              refine z_goto hX 121 dX12_part_117 (by decide) ?_
              obtain rfl := Option.some.inj hf
              exact z_iret hX hr rfl (zl rfl) (zl rfl) dX12_part_121
        · replace hf := zif_neg h8 hf
          refine z_iconst hX dX12_part_52 ci_0 ?_
          obtain rfl := Option.some.inj hf
          exact z_iret hX hr rfl (zl rfl) (zl rfl) dX12_part_53
      · refine z_icmp_ne hX 44 dX12_part_37 (by decide) (fun h19 => ?_) (fun h19 => ?_)
        · replace hf := zif_neg h19 hf
          refine z_iconst hX dX12_part_44 ci_0 ?_
          exact hk45 0 hf
        · replace hf := zif_pos h19 hf
          refine z_iconst hX dX12_part_40 ci_1 ?_
          refine z_goto hX 45 dX12_part_41 (by decide) ?_
          exact hk45 1 hf
  · refine z_if_ne hX 22 dX12_part_11 (by decide) (fun h20 => ?_) (fun h20 => ?_)
    · replace hf := zif_neg h20 hf
      refine z_iconst hX dX12_part_22 ci_1 ?_
      refine z_goto hX 27 dX12_part_23 (by decide) ?_
      exact hk27 1 hf
    · replace hf := zif_pos h20 hf
      refine z_aload_n hX dX12_part_14 0 rfl ?_
      refine z_iload_n hX dX12_part_15 2 rfl ?_
      replace hf := zb_some hf
      obtain ⟨r_21, h21, hf⟩ := hf
      refine z_callV1 hX ok_X12_noLetter q1787 q1789 q68 (zrm_ok hR (by decide)) (ct_X12_noLetter  h21) (zrec_Model hX zq_493) dX12_part_16 rfl rfl ?_
      refine z_if_eq hX 26 dX12_part_19 (by decide) (fun h22 => ?_) (fun h22 => ?_)
      · replace hf := zif_pos h22 hf
        refine z_iconst hX dX12_part_26 ci_0 ?_
        exact hk27 0 hf
      · replace hf := zif_neg h22 hf
        refine z_iconst hX dX12_part_22 ci_1 ?_
        refine z_goto hX 27 dX12_part_23 (by decide) ?_
        exact hk27 1 hf
set_option maxHeartbeats 4000000 in
set_option maxRecDepth 100000 in
theorem ct_X12_part {E : zE} {v1 : Int32} {v2 : Int32} {g : zM} {r : Int32 × zM} (hf : fX12_part v1 v2 g = some r) : zCt yX12_part cX12_part 5 (some .int) 5 0 E [.ref (E.1 + 493), .int v1, .int v2] g (.inl (some (.int r.1), r.2)) := by
  refine zmet (by decide) (zl rfl) (fun X hE hX hT hR hr hn => ?_)
  subst hE
  exact fX12_part_ok hX hT hR hr hn  hf
def fX12_drawer_L25 (v3 : Int32) (k96 : Int32 → Int32 → zM → Option (Int32 × zM)) : Nat → Int32 → Int32 → Int32 → zM → Option (Int32 × zM)
  | 0, _, _, _, _ => none
  | n + 1, v1, v2, v4, g => zb (fX12_letters g) (fun r_4 => if r_4 ≤ v4 then k96 v1 v2 g else zb (fX12_isOpen v3 g) (fun r_6 => zjoin (fun t0_7 g7 => if t0_7 < 0 then fX12_drawer_L25 v3 k96 n v1 v2 (v4 + 1) g7 else if t0_7 < v2 then fX12_drawer_L25 v3 k96 n ((10 * v3) + v4) t0_7 (v4 + 1) g7 else fX12_drawer_L25 v3 k96 n v1 v2 (v4 + 1) g7 : Int32 → zM → Option (Int32 × zM)) (fun k63 => if r_6 = 0 then zb (fX12_isOpen v4 g) (fun r_11 => if r_11 = 0 then zb2 (fX12_meetOf v3 v4 0 g) (fun r_13 g13 => k63 r_13 g13) else k63 ((-1)) g) else k63 ((-1)) g)))
def fX12_drawer_L12  : Nat → Int32 → Int32 → Int32 → zM → Option (Int32 × zM)
  | 0, _, _, _, _ => none
  | n + 1, v1, v2, v3, g => zb (fX12_letters g) (fun r_2 => if r_2 ≤ v3 then some (v1, g) else fX12_drawer_L25 v3 (fun v1_14 v2_14 g14 => fX12_drawer_L12 n v1_14 v2_14 (v3 + 1) g14) zFU v1 v2 (v3 + 1) g)
def fX12_drawer (g : zM) : Option (Int32 × zM) := zput g 493 0 0 (fun g1 => fX12_drawer_L12 zFU ((-1)) 41 0 g1)
set_option maxHeartbeats 4000000 in
set_option maxRecDepth 100000 in
theorem fX12_drawer_L25_ok {X : zX} (hX : zCX X cX12_drawer RX12) (hT : zNT X) (hR : X.2.2.2.1 = zrm 9 0) (hr : X.2.2.2.2.2.2.2.2.1.sig.returnType = (some .int)) (hn : X.2.2.2.2.2.2.2.2.2.1.maxLocals = 6) {v3 : Int32} {k96 : Int32 → Int32 → zM → Option (Int32 × zM)} {r : Int32 × zM} (hk96 : ∀ (v1 : Int32) (v2 : Int32) (g : zM), k96 v1 v2 g = some r → zW X (zQ X (.inl (some (.int r.1), r.2)) 0) 0 0 96 [(0, .ref (zB X + 493)), (1, .int v1), (2, .int v2), (3, .int v3)] [] g) : ∀ (n : Nat) (v1 : Int32) (v2 : Int32) (v4 : Int32) (g : zM), fX12_drawer_L25 v3 k96 n v1 v2 v4 g = some r → zW X (zQ X (.inl (some (.int r.1), r.2)) 0) 0 0 25 [(0, .ref (zB X + 493)), (1, .int v1), (2, .int v2), (3, .int v3), (4, .int v4)] [] g := by
  intro n
  induction n with
  | zero => intro v1 v2 v4 g hf; exact zno hf
  | succ n ih =>
    intro v1 v2 v4 g hf
    rw [fX12_drawer_L25] at hf
    refine z_iload hX dX12_drawer_25 4 rfl ?_
    refine z_aload_n hX dX12_drawer_27 0 rfl ?_
    replace hf := zb_some hf
    obtain ⟨r_4, h4, hf⟩ := hf
    refine z_callV1 hX ok_X12_letters q1652 q1654 q43 (zrm_ok hR (by decide)) (ct_X12_letters  h4) (zrec_Model hX zq_493) dX12_drawer_28 rfl rfl ?_
    refine z_icmp_ge hX 96 dX12_drawer_31 (by decide) (fun h5 => ?_) (fun h5 => ?_)
    · replace hf := zif_pos h5 hf
      refine zW.sub [0, 1, 2, 3] rfl ?_
      exact hk96 v1 v2 g hf
    · replace hf := zif_neg h5 hf
      refine z_aload_n hX dX12_drawer_34 0 rfl ?_
      refine z_iload_n hX dX12_drawer_35 3 rfl ?_
      replace hf := zb_some hf
      obtain ⟨r_6, h6, hf⟩ := hf
      refine z_callV1 hX ok_X12_isOpen q1799 q1801 q71 (zrm_ok hR (by decide)) (ct_X12_isOpen  h6) (zrec_Model hX zq_493) dX12_drawer_36 rfl rfl ?_
      refine zjoin_ok (P := fun (k : Int32 → zM → Option (Int32 × zM)) => ∀ (t0_7 : Int32) (g7 : zM), k t0_7 g7 = some r → zW X (zQ X (.inl (some (.int r.1), r.2)) 0) 0 0 63 [(0, .ref (zB X + 493)), (1, .int v1), (2, .int v2), (3, .int v3), (4, .int v4)] [.int t0_7] g7) hf (fun t0_7 g7 hf => ?_) (fun k63 hk63 hf => ?_)
      · refine z_istore (lv' := [(5, .int t0_7), (0, .ref (zB X + 493)), (1, .int v1), (2, .int v2), (3, .int v3), (4, .int v4)]) hX dX12_drawer_63 hn (by decide) rfl ?_
        refine z_iload hX dX12_drawer_65 0 rfl ?_
        refine z_if_lt hX 90 dX12_drawer_67 (by decide) (fun h8 => ?_) (fun h8 => ?_)
        · replace hf := zif_pos h8 hf
          refine z_iincc (lv' := [(4, .int (v4 + 1)), (5, .int t0_7), (0, .ref (zB X + 493)), (1, .int v1), (2, .int v2), (3, .int v3)]) hX dX12_drawer_90 hn (by decide) 5 rfl ci_1 rfl ?_
          refine z_goto hX 25 dX12_drawer_93 (by decide) ?_
          refine zW.sub [2, 3, 4, 5, 0] rfl ?_
          exact ih v1 v2 (v4 + 1) g7 hf
        · replace hf := zif_neg h8 hf
          refine z_iload hX dX12_drawer_70 0 rfl ?_
          refine z_iload_n hX dX12_drawer_72 3 rfl ?_
          refine z_icmp_lt hX 79 dX12_drawer_73 (by decide) (fun h9 => ?_) (fun h9 => ?_)
          · replace hf := zif_pos h9 hf
            refine z_bipush hX dX12_drawer_79 cb_10 ?_
            refine z_iload_n hX dX12_drawer_81 4 rfl ?_
            refine z_imul hX dX12_drawer_82 ?_
            refine z_iload hX dX12_drawer_83 5 rfl ?_
            refine z_iadd hX dX12_drawer_85 ?_
            refine z_istore_n (lv' := [(1, .int ((10 * v3) + v4)), (5, .int t0_7), (0, .ref (zB X + 493)), (2, .int v2), (3, .int v3), (4, .int v4)]) hX dX12_drawer_86 hn (by decide) rfl ?_
            refine z_iload hX dX12_drawer_87 1 rfl ?_
            refine z_istore_n (lv' := [(2, .int t0_7), (1, .int ((10 * v3) + v4)), (5, .int t0_7), (0, .ref (zB X + 493)), (3, .int v3), (4, .int v4)]) hX dX12_drawer_89 hn (by decide) rfl ?_
            refine z_iincc (lv' := [(4, .int (v4 + 1)), (2, .int t0_7), (1, .int ((10 * v3) + v4)), (5, .int t0_7), (0, .ref (zB X + 493)), (3, .int v3)]) hX dX12_drawer_90 hn (by decide) 5 rfl ci_1 rfl ?_
            refine z_goto hX 25 dX12_drawer_93 (by decide) ?_
            refine zW.sub [4, 2, 1, 5, 0] rfl ?_
            exact ih ((10 * v3) + v4) t0_7 (v4 + 1) g7 hf
          · replace hf := zif_neg h9 hf
            refine z_goto hX 90 dX12_drawer_76 (by decide) ?_
            refine z_iincc (lv' := [(4, .int (v4 + 1)), (5, .int t0_7), (0, .ref (zB X + 493)), (1, .int v1), (2, .int v2), (3, .int v3)]) hX dX12_drawer_90 hn (by decide) 5 rfl ci_1 rfl ?_
            refine z_goto hX 25 dX12_drawer_93 (by decide) ?_
            refine zW.sub [2, 3, 4, 5, 0] rfl ?_
            exact ih v1 v2 (v4 + 1) g7 hf
      · refine z_if_ne hX 51 dX12_drawer_39 (by decide) (fun h10 => ?_) (fun h10 => ?_)
        · replace hf := zif_neg h10 hf
          refine z_iconst hX dX12_drawer_51 ci_m1 ?_
          refine z_goto hX 63 dX12_drawer_52 (by decide) ?_
          exact hk63 ((-1)) g hf
        · replace hf := zif_pos h10 hf
          refine z_aload_n hX dX12_drawer_42 0 rfl ?_
          refine z_iload hX dX12_drawer_43 4 rfl ?_
          replace hf := zb_some hf
          obtain ⟨r_11, h11, hf⟩ := hf
          refine z_callV1 hX ok_X12_isOpen q1799 q1801 q71 (zrm_ok hR (by decide)) (ct_X12_isOpen  h11) (zrec_Model hX zq_493) dX12_drawer_45 rfl rfl ?_
          refine z_if_eq hX 55 dX12_drawer_48 (by decide) (fun h12 => ?_) (fun h12 => ?_)
          · replace hf := zif_pos h12 hf
            refine z_aload_n hX dX12_drawer_55 0 rfl ?_
            refine z_iload_n hX dX12_drawer_56 3 rfl ?_
            refine z_iload hX dX12_drawer_57 4 rfl ?_
            refine z_iconst hX dX12_drawer_59 ci_0 ?_
            replace hf := zb2_some hf
            obtain ⟨r_13, g13, h13, hf⟩ := hf
            refine z_callV1 hX ok_X12_meetOf q2022 q2024 q98 (zrm_ok hR (by decide)) (ct_X12_meetOf  h13) (zrec_Model hX zq_493) dX12_drawer_60 rfl rfl ?_
            exact hk63 r_13 g13 hf
          · replace hf := zif_neg h12 hf
            refine z_iconst hX dX12_drawer_51 ci_m1 ?_
            refine z_goto hX 63 dX12_drawer_52 (by decide) ?_
            exact hk63 ((-1)) g hf
set_option maxHeartbeats 4000000 in
set_option maxRecDepth 100000 in
theorem fX12_drawer_L12_ok {X : zX} (hX : zCX X cX12_drawer RX12) (hT : zNT X) (hR : X.2.2.2.1 = zrm 9 0) (hr : X.2.2.2.2.2.2.2.2.1.sig.returnType = (some .int)) (hn : X.2.2.2.2.2.2.2.2.2.1.maxLocals = 6)  {r : Int32 × zM}  : ∀ (n : Nat) (v1 : Int32) (v2 : Int32) (v3 : Int32) (g : zM), fX12_drawer_L12 n v1 v2 v3 g = some r → zW X (zQ X (.inl (some (.int r.1), r.2)) 0) 0 0 12 [(0, .ref (zB X + 493)), (1, .int v1), (2, .int v2), (3, .int v3)] [] g := by
  intro n
  induction n with
  | zero => intro v1 v2 v3 g hf; exact zno hf
  | succ n ih =>
    intro v1 v2 v3 g hf
    rw [fX12_drawer_L12] at hf
    refine z_iload_n hX dX12_drawer_12 3 rfl ?_
    refine z_aload_n hX dX12_drawer_13 0 rfl ?_
    replace hf := zb_some hf
    obtain ⟨r_2, h2, hf⟩ := hf
    refine z_callV1 hX ok_X12_letters q1652 q1654 q43 (zrm_ok hR (by decide)) (ct_X12_letters  h2) (zrec_Model hX zq_493) dX12_drawer_14 rfl rfl ?_
    refine z_icmp_ge hX 102 dX12_drawer_17 (by decide) (fun h3 => ?_) (fun h3 => ?_)
    · replace hf := zif_pos h3 hf
      refine z_iload_n hX dX12_drawer_102 1 rfl ?_
      obtain rfl := Option.some.inj hf
      exact z_iret hX hr rfl (zl rfl) (zl rfl) dX12_drawer_103
    · replace hf := zif_neg h3 hf
      refine z_iload_n hX dX12_drawer_20 3 rfl ?_
      refine z_iconst hX dX12_drawer_21 ci_1 ?_
      refine z_iadd hX dX12_drawer_22 ?_
      refine z_istore (lv' := [(4, .int (v3 + 1)), (0, .ref (zB X + 493)), (1, .int v1), (2, .int v2), (3, .int v3)]) hX dX12_drawer_23 hn (by decide) rfl ?_
      refine zW.sub [1, 2, 3, 4, 0] rfl ?_
      refine fX12_drawer_L25_ok hX hT hR hr hn (fun v1_14 v2_14 g14 hf => ?_) zFU v1 v2 (v3 + 1) g hf
      · refine z_iincc (lv' := [(3, .int (v3 + 1)), (0, .ref (zB X + 493)), (1, .int v1_14), (2, .int v2_14)]) hX dX12_drawer_96 hn (by decide) 3 rfl ci_1 rfl ?_
        refine z_goto hX 12 dX12_drawer_99 (by decide) ?_
        refine zW.sub [1, 2, 3, 0] rfl ?_
        exact ih v1_14 v2_14 (v3 + 1) g14 hf
set_option maxHeartbeats 4000000 in
set_option maxRecDepth 100000 in
theorem fX12_drawer_ok {X : zX} (hX : zCX X cX12_drawer RX12) (hT : zNT X) (hR : X.2.2.2.1 = zrm 9 0) (hr : X.2.2.2.2.2.2.2.2.1.sig.returnType = (some .int)) (hn : X.2.2.2.2.2.2.2.2.2.1.maxLocals = 6)  {g : zM} {r : Int32 × zM} (hf : fX12_drawer g = some r) : zW X (zQ X (.inl (some (.int r.1), r.2)) 0) 0 0 0 [(0, .ref (zB X + 493))] [] g := by
  unfold fX12_drawer at hf
  refine z_aload_n hX dX12_drawer_0 0 rfl ?_
  refine z_iconst hX dX12_drawer_1 ci_0 ?_
  replace hf := zput_some hf
  obtain ⟨g1, eg1, hf⟩ := hf
  refine gp_Model_thrown hX zq_493 q1494 dX12_drawer_2 (zW.eqg eg1 ?_)
  refine z_iconst hX dX12_drawer_5 ci_m1 ?_
  refine z_istore_n (lv' := [(1, .int ((-1))), (0, .ref (zB X + 493))]) hX dX12_drawer_6 hn (by decide) rfl ?_
  refine z_bipush hX dX12_drawer_7 cb_41 ?_
  refine z_istore_n (lv' := [(2, .int 41), (1, .int ((-1))), (0, .ref (zB X + 493))]) hX dX12_drawer_9 hn (by decide) rfl ?_
  refine z_iconst hX dX12_drawer_10 ci_0 ?_
  refine z_istore_n (lv' := [(3, .int 0), (2, .int 41), (1, .int ((-1))), (0, .ref (zB X + 493))]) hX dX12_drawer_11 hn (by decide) rfl ?_
  refine zW.sub [3, 2, 1, 0] rfl ?_
  exact fX12_drawer_L12_ok hX hT hR hr hn  zFU ((-1)) 41 0 g1 hf
set_option maxHeartbeats 4000000 in
set_option maxRecDepth 100000 in
theorem ct_X12_drawer {E : zE} {g : zM} {r : Int32 × zM} (hf : fX12_drawer g = some r) : zCt yX12_drawer cX12_drawer 6 (some .int) 9 0 E [.ref (E.1 + 493)] g (.inl (some (.int r.1), r.2)) := by
  refine zmet (by decide) (zl rfl) (fun X hE hX hT hR hr hn => ?_)
  subst hE
  exact fX12_drawer_ok hX hT hR hr hn  hf
def fX12_alikeFrom_L3 (v1 : Int32) (v2 : Int32) (v3 : Int32) (v4 : Int32) (g : zM) : Nat → Int32 → Option Int32
  | 0, _ => none
  | n + 1, v5 => zb (fX12_lines v1 g) (fun r_1 => if r_1 ≤ (v2 + v5) then some v5 else zb (fX12_lines v3 g) (fun r_3 => if r_3 ≤ (v4 + v5) then some v5 else zb (fX12_kindOf v1 (v2 + v5) g) (fun r_5 => zb (fX12_kindOf v3 (v4 + v5) g) (fun r_6 => if r_5 = r_6 then fX12_alikeFrom_L3 v1 v2 v3 v4 g n (v5 + 1) else some v5))))
def fX12_alikeFrom (v1 : Int32) (v2 : Int32) (v3 : Int32) (v4 : Int32) (g : zM) : Option Int32 := fX12_alikeFrom_L3 v1 v2 v3 v4 g zFU 0
set_option maxHeartbeats 4000000 in
set_option maxRecDepth 100000 in
theorem fX12_alikeFrom_L3_ok {X : zX} (hX : zCX X cX12_alikeFrom RX12) (hT : zNT X) (hR : X.2.2.2.1 = zrm 3 0) (hr : X.2.2.2.2.2.2.2.2.1.sig.returnType = (some .int)) (hn : X.2.2.2.2.2.2.2.2.2.1.maxLocals = 6) {v1 : Int32} {v2 : Int32} {v3 : Int32} {v4 : Int32} {g : zM} {r : Int32}  : ∀ (n : Nat) (v5 : Int32), fX12_alikeFrom_L3 v1 v2 v3 v4 g n v5 = some r → zW X (zQ X (.inl (some (.int r), g)) 0) 0 0 3 [(0, .ref (zB X + 493)), (1, .int v1), (2, .int v2), (3, .int v3), (4, .int v4), (5, .int v5)] [] g := by
  intro n
  induction n with
  | zero => intro v5 hf; exact zno hf
  | succ n ih =>
    intro v5 hf
    rw [fX12_alikeFrom_L3] at hf
    refine z_iload_n hX dX12_alikeFrom_3 2 rfl ?_
    refine z_iload hX dX12_alikeFrom_4 5 rfl ?_
    refine z_iadd hX dX12_alikeFrom_6 ?_
    refine z_aload_n hX dX12_alikeFrom_7 0 rfl ?_
    refine z_iload_n hX dX12_alikeFrom_8 1 rfl ?_
    replace hf := zb_some hf
    obtain ⟨r_1, h1, hf⟩ := hf
    refine z_callV1 hX ok_X12_lines q1683 q1685 q48 (zrm_ok hR (by decide)) (ct_X12_lines  h1) (zrec_Model hX zq_493) dX12_alikeFrom_9 rfl rfl ?_
    refine z_icmp_ge hX 56 dX12_alikeFrom_12 (by decide) (fun h2 => ?_) (fun h2 => ?_)
    · replace hf := zif_pos h2 hf
      refine z_iload hX dX12_alikeFrom_56 5 rfl ?_
      obtain rfl := Option.some.inj hf
      exact z_iret hX hr rfl (zl rfl) (zl rfl) dX12_alikeFrom_58
    · replace hf := zif_neg h2 hf
      refine z_iload hX dX12_alikeFrom_15 4 rfl ?_
      refine z_iload hX dX12_alikeFrom_17 5 rfl ?_
      refine z_iadd hX dX12_alikeFrom_19 ?_
      refine z_aload_n hX dX12_alikeFrom_20 0 rfl ?_
      refine z_iload_n hX dX12_alikeFrom_21 3 rfl ?_
      replace hf := zb_some hf
      obtain ⟨r_3, h3, hf⟩ := hf
      refine z_callV1 hX ok_X12_lines q1683 q1685 q48 (zrm_ok hR (by decide)) (ct_X12_lines  h3) (zrec_Model hX zq_493) dX12_alikeFrom_22 rfl rfl ?_
      refine z_icmp_ge hX 56 dX12_alikeFrom_25 (by decide) (fun h4 => ?_) (fun h4 => ?_)
      · replace hf := zif_pos h4 hf
        refine z_iload hX dX12_alikeFrom_56 5 rfl ?_
        obtain rfl := Option.some.inj hf
        exact z_iret hX hr rfl (zl rfl) (zl rfl) dX12_alikeFrom_58
      · replace hf := zif_neg h4 hf
        refine z_aload_n hX dX12_alikeFrom_28 0 rfl ?_
        refine z_iload_n hX dX12_alikeFrom_29 1 rfl ?_
        refine z_iload_n hX dX12_alikeFrom_30 2 rfl ?_
        refine z_iload hX dX12_alikeFrom_31 5 rfl ?_
        refine z_iadd hX dX12_alikeFrom_33 ?_
        replace hf := zb_some hf
        obtain ⟨r_5, h5, hf⟩ := hf
        refine z_callV1 hX ok_X12_kindOf q1795 q1797 q70 (zrm_ok hR (by decide)) (ct_X12_kindOf  h5) (zrec_Model hX zq_493) dX12_alikeFrom_34 rfl rfl ?_
        refine z_aload_n hX dX12_alikeFrom_37 0 rfl ?_
        refine z_iload_n hX dX12_alikeFrom_38 3 rfl ?_
        refine z_iload hX dX12_alikeFrom_39 4 rfl ?_
        refine z_iload hX dX12_alikeFrom_41 5 rfl ?_
        refine z_iadd hX dX12_alikeFrom_43 ?_
        replace hf := zb_some hf
        obtain ⟨r_6, h6, hf⟩ := hf
        refine z_callV1 hX ok_X12_kindOf q1795 q1797 q70 (zrm_ok hR (by decide)) (ct_X12_kindOf  h6) (zrec_Model hX zq_493) dX12_alikeFrom_44 rfl rfl ?_
        refine z_icmp_ne hX 56 dX12_alikeFrom_47 (by decide) (fun h7 => ?_) (fun h7 => ?_)
        · replace hf := zif_neg h7 hf
          refine z_iload hX dX12_alikeFrom_56 5 rfl ?_
          obtain rfl := Option.some.inj hf
          exact z_iret hX hr rfl (zl rfl) (zl rfl) dX12_alikeFrom_58
        · replace hf := zif_pos h7 hf
          refine z_iincc (lv' := [(5, .int (v5 + 1)), (0, .ref (zB X + 493)), (1, .int v1), (2, .int v2), (3, .int v3), (4, .int v4)]) hX dX12_alikeFrom_50 hn (by decide) 5 rfl ci_1 rfl ?_
          refine z_goto hX 3 dX12_alikeFrom_53 (by decide) ?_
          refine zW.sub [1, 2, 3, 4, 5, 0] rfl ?_
          exact ih (v5 + 1) hf
set_option maxHeartbeats 4000000 in
set_option maxRecDepth 100000 in
theorem fX12_alikeFrom_ok {X : zX} (hX : zCX X cX12_alikeFrom RX12) (hT : zNT X) (hR : X.2.2.2.1 = zrm 3 0) (hr : X.2.2.2.2.2.2.2.2.1.sig.returnType = (some .int)) (hn : X.2.2.2.2.2.2.2.2.2.1.maxLocals = 6) {v1 : Int32} {v2 : Int32} {v3 : Int32} {v4 : Int32} {g : zM} {r : Int32} (hf : fX12_alikeFrom v1 v2 v3 v4 g = some r) : zW X (zQ X (.inl (some (.int r), g)) 0) 0 0 0 [(0, .ref (zB X + 493)), (1, .int v1), (2, .int v2), (3, .int v3), (4, .int v4)] [] g := by
  unfold fX12_alikeFrom at hf
  refine z_iconst hX dX12_alikeFrom_0 ci_0 ?_
  refine z_istore (lv' := [(5, .int 0), (0, .ref (zB X + 493)), (1, .int v1), (2, .int v2), (3, .int v3), (4, .int v4)]) hX dX12_alikeFrom_1 hn (by decide) rfl ?_
  refine zW.sub [1, 2, 3, 4, 5, 0] rfl ?_
  exact fX12_alikeFrom_L3_ok hX hT hR hr hn  zFU 0 hf
set_option maxHeartbeats 4000000 in
set_option maxRecDepth 100000 in
theorem ct_X12_alikeFrom {E : zE} {v1 : Int32} {v2 : Int32} {v3 : Int32} {v4 : Int32} {g : zM} {r : Int32} (hf : fX12_alikeFrom v1 v2 v3 v4 g = some r) : zCt yX12_alikeFrom cX12_alikeFrom 6 (some .int) 3 0 E [.ref (E.1 + 493), .int v1, .int v2, .int v3, .int v4] g (.inl (some (.int r), g)) := by
  refine zmet (by decide) (zl rfl) (fun X hE hX hT hR hr hn => ?_)
  subst hE
  exact fX12_alikeFrom_ok hX hT hR hr hn  hf
def fX12_common_L72 (v1 : Int32) (v2 : Int32) (v4 : Int32) (g : zM) (k103 : Int32 → Option (Int32 × zM)) : Nat → Int32 → Int32 → Option (Int32 × zM)
  | 0, _, _ => none
  | n + 1, v3, v5 => zb (fX12_lines v2 g) (fun r_11 => if r_11 ≤ v5 then k103 v3 else zb (fX12_alikeFrom v1 v4 v2 v5 g) (fun r_13 => fX12_common_L72 v1 v2 v4 g k103 n (if v3 < r_13 then r_13 else v3) (v5 + 1)))
def fX12_common_L59 (v1 : Int32) (v2 : Int32) (g : zM) : Nat → Int32 → Int32 → Option (Int32 × zM)
  | 0, _, _ => none
  | n + 1, v3, v4 => zb (fX12_lines v1 g) (fun r_9 => if r_9 ≤ v4 then some (v3, g) else fX12_common_L72 v1 v2 v4 g (fun v3_14 => fX12_common_L59 v1 v2 g n v3_14 (v4 + 1)) zFU v3 0)
def fX12_common (v1 : Int32) (v2 : Int32) (g : zM) : Option (Int32 × zM) := zput g 493 0 0 (fun g1 => zb (fX12_noLetter v1 g1) (fun r_2 => zjoin (fun t0_3 => zb2 (fX12_throwsIf t0_3 1 g1) (fun r_4 g4 => if r_4 = 0 then if v1 = v2 then zb2 (fX12_throwsIf 1 2 g4) (fun r_15 g15 => if r_15 = 0 then fX12_common_L59 v1 v2 g15 zFU 0 0 else some (0, g15)) else zb2 (fX12_throwsIf 0 2 g4) (fun r_7 g7 => if r_7 = 0 then fX12_common_L59 v1 v2 g7 zFU 0 0 else some (0, g7)) else some (0, g4)) : Int32 → Option (Int32 × zM)) (fun k27 => if r_2 = 0 then zb (fX12_noLetter v2 g1) (fun r_18 => if r_18 = 0 then k27 0 else k27 1) else k27 1)))
set_option maxHeartbeats 4000000 in
set_option maxRecDepth 100000 in
theorem fX12_common_L72_ok {X : zX} (hX : zCX X cX12_common RX12) (hT : zNT X) (hR : X.2.2.2.1 = zrm 5 0) (hr : X.2.2.2.2.2.2.2.2.1.sig.returnType = (some .int)) (hn : X.2.2.2.2.2.2.2.2.2.1.maxLocals = 6) {v1 : Int32} {v2 : Int32} {v4 : Int32} {g : zM} {k103 : Int32 → Option (Int32 × zM)} {r : Int32 × zM} (hk103 : ∀ (v3 : Int32), k103 v3 = some r → zW X (zQ X (.inl (some (.int r.1), r.2)) 0) 0 0 103 [(0, .ref (zB X + 493)), (1, .int v1), (2, .int v2), (3, .int v3), (4, .int v4)] [] g) : ∀ (n : Nat) (v3 : Int32) (v5 : Int32), fX12_common_L72 v1 v2 v4 g k103 n v3 v5 = some r → zW X (zQ X (.inl (some (.int r.1), r.2)) 0) 0 0 72 [(0, .ref (zB X + 493)), (1, .int v1), (2, .int v2), (3, .int v3), (4, .int v4), (5, .int v5)] [] g := by
  intro n
  induction n with
  | zero => intro v3 v5 hf; exact zno hf
  | succ n ih =>
    intro v3 v5 hf
    rw [fX12_common_L72] at hf
    refine z_iload hX dX12_common_72 5 rfl ?_
    refine z_aload_n hX dX12_common_74 0 rfl ?_
    refine z_iload_n hX dX12_common_75 2 rfl ?_
    replace hf := zb_some hf
    obtain ⟨r_11, h11, hf⟩ := hf
    refine z_callV1 hX ok_X12_lines q1683 q1685 q48 (zrm_ok hR (by decide)) (ct_X12_lines  h11) (zrec_Model hX zq_493) dX12_common_76 rfl rfl ?_
    refine z_icmp_ge hX 103 dX12_common_79 (by decide) (fun h12 => ?_) (fun h12 => ?_)
    · replace hf := zif_pos h12 hf
      refine zW.sub [0, 1, 2, 3, 4] rfl ?_
      exact hk103 v3 hf
    · replace hf := zif_neg h12 hf
      refine z_iload_n hX dX12_common_82 3 rfl ?_
      refine z_aload_n hX dX12_common_83 0 rfl ?_
      refine z_iload_n hX dX12_common_84 1 rfl ?_
      refine z_iload hX dX12_common_85 4 rfl ?_
      refine z_iload_n hX dX12_common_87 2 rfl ?_
      refine z_iload hX dX12_common_88 5 rfl ?_
      replace hf := zb_some hf
      obtain ⟨r_13, h13, hf⟩ := hf
      refine z_callV1 hX ok_X12_alikeFrom q2046 q2048 q101 (zrm_ok hR (by decide)) (ct_X12_alikeFrom  h13) (zrec_Model hX zq_493) dX12_common_90 rfl rfl ?_
      refine z_max hX hR ⟨zl rfl, zl rfl⟩ q2050 dX12_common_93 (zl rfl) ?_
      refine z_istore_n (lv' := [(3, .int (if v3 < r_13 then r_13 else v3)), (0, .ref (zB X + 493)), (1, .int v1), (2, .int v2), (4, .int v4), (5, .int v5)]) hX dX12_common_96 hn (by decide) rfl ?_
      refine z_iincc (lv' := [(5, .int (v5 + 1)), (3, .int (if v3 < r_13 then r_13 else v3)), (0, .ref (zB X + 493)), (1, .int v1), (2, .int v2), (4, .int v4)]) hX dX12_common_97 hn (by decide) 5 rfl ci_1 rfl ?_
      refine z_goto hX 72 dX12_common_100 (by decide) ?_
      refine zW.sub [2, 3, 4, 1, 5, 0] rfl ?_
      exact ih (if v3 < r_13 then r_13 else v3) (v5 + 1) hf
set_option maxHeartbeats 4000000 in
set_option maxRecDepth 100000 in
theorem fX12_common_L59_ok {X : zX} (hX : zCX X cX12_common RX12) (hT : zNT X) (hR : X.2.2.2.1 = zrm 5 0) (hr : X.2.2.2.2.2.2.2.2.1.sig.returnType = (some .int)) (hn : X.2.2.2.2.2.2.2.2.2.1.maxLocals = 6) {v1 : Int32} {v2 : Int32} {g : zM} {r : Int32 × zM}  : ∀ (n : Nat) (v3 : Int32) (v4 : Int32), fX12_common_L59 v1 v2 g n v3 v4 = some r → zW X (zQ X (.inl (some (.int r.1), r.2)) 0) 0 0 59 [(0, .ref (zB X + 493)), (1, .int v1), (2, .int v2), (3, .int v3), (4, .int v4)] [] g := by
  intro n
  induction n with
  | zero => intro v3 v4 hf; exact zno hf
  | succ n ih =>
    intro v3 v4 hf
    rw [fX12_common_L59] at hf
    refine z_iload hX dX12_common_59 4 rfl ?_
    refine z_aload_n hX dX12_common_61 0 rfl ?_
    refine z_iload_n hX dX12_common_62 1 rfl ?_
    replace hf := zb_some hf
    obtain ⟨r_9, h9, hf⟩ := hf
    refine z_callV1 hX ok_X12_lines q1683 q1685 q48 (zrm_ok hR (by decide)) (ct_X12_lines  h9) (zrec_Model hX zq_493) dX12_common_63 rfl rfl ?_
    refine z_icmp_ge hX 109 dX12_common_66 (by decide) (fun h10 => ?_) (fun h10 => ?_)
    · replace hf := zif_pos h10 hf
      refine z_iload_n hX dX12_common_109 3 rfl ?_
      obtain rfl := Option.some.inj hf
      exact z_iret hX hr rfl (zl rfl) (zl rfl) dX12_common_110
    · replace hf := zif_neg h10 hf
      refine z_iconst hX dX12_common_69 ci_0 ?_
      refine z_istore (lv' := [(5, .int 0), (0, .ref (zB X + 493)), (1, .int v1), (2, .int v2), (3, .int v3), (4, .int v4)]) hX dX12_common_70 hn (by decide) rfl ?_
      refine zW.sub [1, 2, 3, 4, 5, 0] rfl ?_
      refine fX12_common_L72_ok hX hT hR hr hn (fun v3_14 hf => ?_) zFU v3 0 hf
      · refine z_iincc (lv' := [(4, .int (v4 + 1)), (0, .ref (zB X + 493)), (1, .int v1), (2, .int v2), (3, .int v3_14)]) hX dX12_common_103 hn (by decide) 4 rfl ci_1 rfl ?_
        refine z_goto hX 59 dX12_common_106 (by decide) ?_
        refine zW.sub [1, 2, 3, 4, 0] rfl ?_
        exact ih v3_14 (v4 + 1) hf
set_option maxHeartbeats 4000000 in
set_option maxRecDepth 100000 in
theorem fX12_common_ok {X : zX} (hX : zCX X cX12_common RX12) (hT : zNT X) (hR : X.2.2.2.1 = zrm 5 0) (hr : X.2.2.2.2.2.2.2.2.1.sig.returnType = (some .int)) (hn : X.2.2.2.2.2.2.2.2.2.1.maxLocals = 6) {v1 : Int32} {v2 : Int32} {g : zM} {r : Int32 × zM} (hf : fX12_common v1 v2 g = some r) : zW X (zQ X (.inl (some (.int r.1), r.2)) 0) 0 0 0 [(0, .ref (zB X + 493)), (1, .int v1), (2, .int v2)] [] g := by
  unfold fX12_common at hf
  refine z_aload_n hX dX12_common_0 0 rfl ?_
  refine z_iconst hX dX12_common_1 ci_0 ?_
  replace hf := zput_some hf
  obtain ⟨g1, eg1, hf⟩ := hf
  refine gp_Model_thrown hX zq_493 q1494 dX12_common_2 (zW.eqg eg1 ?_)
  refine z_aload_n hX dX12_common_5 0 rfl ?_
  refine z_aload_n hX dX12_common_6 0 rfl ?_
  refine z_iload_n hX dX12_common_7 1 rfl ?_
  replace hf := zb_some hf
  obtain ⟨r_2, h2, hf⟩ := hf
  refine z_callV1 hX ok_X12_noLetter q1787 q1789 q68 (zrm_ok hR (by decide)) (ct_X12_noLetter  h2) (zrec_Model hX zq_493) dX12_common_8 rfl rfl ?_
  refine zjoin_ok (P := fun (k : Int32 → Option (Int32 × zM)) => ∀ (t0_3 : Int32), k t0_3 = some r → zW X (zQ X (.inl (some (.int r.1), r.2)) 0) 0 0 27 [(0, .ref (zB X + 493)), (1, .int v1), (2, .int v2)] [.int t0_3, .ref (zB X + 493)] g1) hf (fun t0_3 hf => ?_) (fun k27 hk27 hf => ?_)
  · refine z_iconst hX dX12_common_27 ci_1 ?_
    replace hf := zb2_some hf
    obtain ⟨r_4, g4, h4, hf⟩ := hf
    refine z_callV1 hX ok_X12_throwsIf q1775 q1777 q67 (zrm_ok hR (by decide)) (ct_X12_throwsIf  h4) (zrec_Model hX zq_493) dX12_common_28 rfl rfl ?_
    refine z_if_ne hX 52 dX12_common_31 (by decide) (fun h5 => ?_) (fun h5 => ?_)
    · replace hf := zif_neg h5 hf
      refine z_iconst hX dX12_common_52 ci_0 ?_
      obtain rfl := Option.some.inj hf
      exact z_iret hX hr rfl (zl rfl) (zl rfl) dX12_common_53
    · replace hf := zif_pos h5 hf
      refine z_aload_n hX dX12_common_34 0 rfl ?_
      refine z_iload_n hX dX12_common_35 1 rfl ?_
      refine z_iload_n hX dX12_common_36 2 rfl ?_
      refine z_icmp_ne hX 44 dX12_common_37 (by decide) (fun h6 => ?_) (fun h6 => ?_)
      · replace hf := zif_neg h6 hf
        refine z_iconst hX dX12_common_44 ci_0 ?_
        refine z_iconst hX dX12_common_45 ci_2 ?_
        replace hf := zb2_some hf
        obtain ⟨r_7, g7, h7, hf⟩ := hf
        refine z_callV1 hX ok_X12_throwsIf q1775 q1777 q67 (zrm_ok hR (by decide)) (ct_X12_throwsIf  h7) (zrec_Model hX zq_493) dX12_common_46 rfl rfl ?_
        refine z_if_eq hX 54 dX12_common_49 (by decide) (fun h8 => ?_) (fun h8 => ?_)
        · replace hf := zif_pos h8 hf
          refine z_iconst hX dX12_common_54 ci_0 ?_
          refine z_istore_n (lv' := [(3, .int 0), (0, .ref (zB X + 493)), (1, .int v1), (2, .int v2)]) hX dX12_common_55 hn (by decide) rfl ?_
          refine z_iconst hX dX12_common_56 ci_0 ?_
          refine z_istore (lv' := [(4, .int 0), (3, .int 0), (0, .ref (zB X + 493)), (1, .int v1), (2, .int v2)]) hX dX12_common_57 hn (by decide) rfl ?_
          refine zW.sub [2, 3, 4, 1, 0] rfl ?_
          exact fX12_common_L59_ok hX hT hR hr hn  zFU 0 0 hf
        · replace hf := zif_neg h8 hf
          refine z_iconst hX dX12_common_52 ci_0 ?_
          obtain rfl := Option.some.inj hf
          exact z_iret hX hr rfl (zl rfl) (zl rfl) dX12_common_53
      · replace hf := zif_pos h6 hf
        refine z_iconst hX dX12_common_40 ci_1 ?_
        refine z_goto hX 45 dX12_common_41 (by decide) ?_
        refine z_iconst hX dX12_common_45 ci_2 ?_
        replace hf := zb2_some hf
        obtain ⟨r_15, g15, h15, hf⟩ := hf
        refine z_callV1 hX ok_X12_throwsIf q1775 q1777 q67 (zrm_ok hR (by decide)) (ct_X12_throwsIf  h15) (zrec_Model hX zq_493) dX12_common_46 rfl rfl ?_
        refine z_if_eq hX 54 dX12_common_49 (by decide) (fun h16 => ?_) (fun h16 => ?_)
        · replace hf := zif_pos h16 hf
          refine z_iconst hX dX12_common_54 ci_0 ?_
          refine z_istore_n (lv' := [(3, .int 0), (0, .ref (zB X + 493)), (1, .int v1), (2, .int v2)]) hX dX12_common_55 hn (by decide) rfl ?_
          refine z_iconst hX dX12_common_56 ci_0 ?_
          refine z_istore (lv' := [(4, .int 0), (3, .int 0), (0, .ref (zB X + 493)), (1, .int v1), (2, .int v2)]) hX dX12_common_57 hn (by decide) rfl ?_
          refine zW.sub [2, 3, 4, 1, 0] rfl ?_
          exact fX12_common_L59_ok hX hT hR hr hn  zFU 0 0 hf
        · replace hf := zif_neg h16 hf
          refine z_iconst hX dX12_common_52 ci_0 ?_
          obtain rfl := Option.some.inj hf
          exact z_iret hX hr rfl (zl rfl) (zl rfl) dX12_common_53
  · refine z_if_ne hX 22 dX12_common_11 (by decide) (fun h17 => ?_) (fun h17 => ?_)
    · replace hf := zif_neg h17 hf
      refine z_iconst hX dX12_common_22 ci_1 ?_
      refine z_goto hX 27 dX12_common_23 (by decide) ?_
      exact hk27 1 hf
    · replace hf := zif_pos h17 hf
      refine z_aload_n hX dX12_common_14 0 rfl ?_
      refine z_iload_n hX dX12_common_15 2 rfl ?_
      replace hf := zb_some hf
      obtain ⟨r_18, h18, hf⟩ := hf
      refine z_callV1 hX ok_X12_noLetter q1787 q1789 q68 (zrm_ok hR (by decide)) (ct_X12_noLetter  h18) (zrec_Model hX zq_493) dX12_common_16 rfl rfl ?_
      refine z_if_eq hX 26 dX12_common_19 (by decide) (fun h19 => ?_) (fun h19 => ?_)
      · replace hf := zif_pos h19 hf
        refine z_iconst hX dX12_common_26 ci_0 ?_
        exact hk27 0 hf
      · replace hf := zif_neg h19 hf
        refine z_iconst hX dX12_common_22 ci_1 ?_
        refine z_goto hX 27 dX12_common_23 (by decide) ?_
        exact hk27 1 hf
set_option maxHeartbeats 4000000 in
set_option maxRecDepth 100000 in
theorem ct_X12_common {E : zE} {v1 : Int32} {v2 : Int32} {g : zM} {r : Int32 × zM} (hf : fX12_common v1 v2 g = some r) : zCt yX12_common cX12_common 6 (some .int) 5 0 E [.ref (E.1 + 493), .int v1, .int v2] g (.inl (some (.int r.1), r.2)) := by
  refine zmet (by decide) (zl rfl) (fun X hE hX hT hR hr hn => ?_)
  subst hE
  exact fX12_common_ok hX hT hR hr hn  hf
def fX12_echo_L38 (v1 : Int32) (v3 : Int32) (g : zM) (k68 : Int32 → Option (Int32 × zM)) : Nat → Int32 → Int32 → Option (Int32 × zM)
  | 0, _, _ => none
  | n + 1, v2, v4 => zb (fX12_lines v1 g) (fun r_7 => if r_7 ≤ v4 then k68 v2 else zb (fX12_alikeFrom v1 v3 v1 v4 g) (fun r_9 => fX12_echo_L38 v1 v3 g k68 n (if v2 < r_9 then r_9 else v2) (v4 + 1)))
def fX12_echo_L24 (v1 : Int32) (g : zM) : Nat → Int32 → Int32 → Option (Int32 × zM)
  | 0, _, _ => none
  | n + 1, v2, v3 => zb (fX12_lines v1 g) (fun r_5 => if r_5 ≤ v3 then some (v2, g) else fX12_echo_L38 v1 v3 g (fun v2_10 => fX12_echo_L24 v1 g n v2_10 (v3 + 1)) zFU v2 (v3 + 1))
def fX12_echo (v1 : Int32) (g : zM) : Option (Int32 × zM) := zput g 493 0 0 (fun g1 => zb (fX12_noLetter v1 g1) (fun r_2 => zb2 (fX12_throwsIf r_2 1 g1) (fun r_3 g3 => if r_3 = 0 then fX12_echo_L24 v1 g3 zFU 0 0 else some (0, g3))))
set_option maxHeartbeats 4000000 in
set_option maxRecDepth 100000 in
theorem fX12_echo_L38_ok {X : zX} (hX : zCX X cX12_echo RX12) (hT : zNT X) (hR : X.2.2.2.1 = zrm 5 0) (hr : X.2.2.2.2.2.2.2.2.1.sig.returnType = (some .int)) (hn : X.2.2.2.2.2.2.2.2.2.1.maxLocals = 5) {v1 : Int32} {v3 : Int32} {g : zM} {k68 : Int32 → Option (Int32 × zM)} {r : Int32 × zM} (hk68 : ∀ (v2 : Int32), k68 v2 = some r → zW X (zQ X (.inl (some (.int r.1), r.2)) 0) 0 0 68 [(0, .ref (zB X + 493)), (1, .int v1), (2, .int v2), (3, .int v3)] [] g) : ∀ (n : Nat) (v2 : Int32) (v4 : Int32), fX12_echo_L38 v1 v3 g k68 n v2 v4 = some r → zW X (zQ X (.inl (some (.int r.1), r.2)) 0) 0 0 38 [(0, .ref (zB X + 493)), (1, .int v1), (2, .int v2), (3, .int v3), (4, .int v4)] [] g := by
  intro n
  induction n with
  | zero => intro v2 v4 hf; exact zno hf
  | succ n ih =>
    intro v2 v4 hf
    rw [fX12_echo_L38] at hf
    refine z_iload hX dX12_echo_38 4 rfl ?_
    refine z_aload_n hX dX12_echo_40 0 rfl ?_
    refine z_iload_n hX dX12_echo_41 1 rfl ?_
    replace hf := zb_some hf
    obtain ⟨r_7, h7, hf⟩ := hf
    refine z_callV1 hX ok_X12_lines q1683 q1685 q48 (zrm_ok hR (by decide)) (ct_X12_lines  h7) (zrec_Model hX zq_493) dX12_echo_42 rfl rfl ?_
    refine z_icmp_ge hX 68 dX12_echo_45 (by decide) (fun h8 => ?_) (fun h8 => ?_)
    · replace hf := zif_pos h8 hf
      refine zW.sub [0, 1, 2, 3] rfl ?_
      exact hk68 v2 hf
    · replace hf := zif_neg h8 hf
      refine z_iload_n hX dX12_echo_48 2 rfl ?_
      refine z_aload_n hX dX12_echo_49 0 rfl ?_
      refine z_iload_n hX dX12_echo_50 1 rfl ?_
      refine z_iload_n hX dX12_echo_51 3 rfl ?_
      refine z_iload_n hX dX12_echo_52 1 rfl ?_
      refine z_iload hX dX12_echo_53 4 rfl ?_
      replace hf := zb_some hf
      obtain ⟨r_9, h9, hf⟩ := hf
      refine z_callV1 hX ok_X12_alikeFrom q2046 q2048 q101 (zrm_ok hR (by decide)) (ct_X12_alikeFrom  h9) (zrec_Model hX zq_493) dX12_echo_55 rfl rfl ?_
      refine z_max hX hR ⟨zl rfl, zl rfl⟩ q2050 dX12_echo_58 (zl rfl) ?_
      refine z_istore_n (lv' := [(2, .int (if v2 < r_9 then r_9 else v2)), (0, .ref (zB X + 493)), (1, .int v1), (3, .int v3), (4, .int v4)]) hX dX12_echo_61 hn (by decide) rfl ?_
      refine z_iincc (lv' := [(4, .int (v4 + 1)), (2, .int (if v2 < r_9 then r_9 else v2)), (0, .ref (zB X + 493)), (1, .int v1), (3, .int v3)]) hX dX12_echo_62 hn (by decide) 4 rfl ci_1 rfl ?_
      refine z_goto hX 38 dX12_echo_65 (by decide) ?_
      refine zW.sub [2, 3, 1, 4, 0] rfl ?_
      exact ih (if v2 < r_9 then r_9 else v2) (v4 + 1) hf
set_option maxHeartbeats 4000000 in
set_option maxRecDepth 100000 in
theorem fX12_echo_L24_ok {X : zX} (hX : zCX X cX12_echo RX12) (hT : zNT X) (hR : X.2.2.2.1 = zrm 5 0) (hr : X.2.2.2.2.2.2.2.2.1.sig.returnType = (some .int)) (hn : X.2.2.2.2.2.2.2.2.2.1.maxLocals = 5) {v1 : Int32} {g : zM} {r : Int32 × zM}  : ∀ (n : Nat) (v2 : Int32) (v3 : Int32), fX12_echo_L24 v1 g n v2 v3 = some r → zW X (zQ X (.inl (some (.int r.1), r.2)) 0) 0 0 24 [(0, .ref (zB X + 493)), (1, .int v1), (2, .int v2), (3, .int v3)] [] g := by
  intro n
  induction n with
  | zero => intro v2 v3 hf; exact zno hf
  | succ n ih =>
    intro v2 v3 hf
    rw [fX12_echo_L24] at hf
    refine z_iload_n hX dX12_echo_24 3 rfl ?_
    refine z_aload_n hX dX12_echo_25 0 rfl ?_
    refine z_iload_n hX dX12_echo_26 1 rfl ?_
    replace hf := zb_some hf
    obtain ⟨r_5, h5, hf⟩ := hf
    refine z_callV1 hX ok_X12_lines q1683 q1685 q48 (zrm_ok hR (by decide)) (ct_X12_lines  h5) (zrec_Model hX zq_493) dX12_echo_27 rfl rfl ?_
    refine z_icmp_ge hX 74 dX12_echo_30 (by decide) (fun h6 => ?_) (fun h6 => ?_)
    · replace hf := zif_pos h6 hf
      refine z_iload_n hX dX12_echo_74 2 rfl ?_
      obtain rfl := Option.some.inj hf
      exact z_iret hX hr rfl (zl rfl) (zl rfl) dX12_echo_75
    · replace hf := zif_neg h6 hf
      refine z_iload_n hX dX12_echo_33 3 rfl ?_
      refine z_iconst hX dX12_echo_34 ci_1 ?_
      refine z_iadd hX dX12_echo_35 ?_
      refine z_istore (lv' := [(4, .int (v3 + 1)), (0, .ref (zB X + 493)), (1, .int v1), (2, .int v2), (3, .int v3)]) hX dX12_echo_36 hn (by decide) rfl ?_
      refine zW.sub [1, 2, 3, 4, 0] rfl ?_
      refine fX12_echo_L38_ok hX hT hR hr hn (fun v2_10 hf => ?_) zFU v2 (v3 + 1) hf
      · refine z_iincc (lv' := [(3, .int (v3 + 1)), (0, .ref (zB X + 493)), (1, .int v1), (2, .int v2_10)]) hX dX12_echo_68 hn (by decide) 3 rfl ci_1 rfl ?_
        refine z_goto hX 24 dX12_echo_71 (by decide) ?_
        refine zW.sub [1, 2, 3, 0] rfl ?_
        exact ih v2_10 (v3 + 1) hf
set_option maxHeartbeats 4000000 in
set_option maxRecDepth 100000 in
theorem fX12_echo_ok {X : zX} (hX : zCX X cX12_echo RX12) (hT : zNT X) (hR : X.2.2.2.1 = zrm 5 0) (hr : X.2.2.2.2.2.2.2.2.1.sig.returnType = (some .int)) (hn : X.2.2.2.2.2.2.2.2.2.1.maxLocals = 5) {v1 : Int32} {g : zM} {r : Int32 × zM} (hf : fX12_echo v1 g = some r) : zW X (zQ X (.inl (some (.int r.1), r.2)) 0) 0 0 0 [(0, .ref (zB X + 493)), (1, .int v1)] [] g := by
  unfold fX12_echo at hf
  refine z_aload_n hX dX12_echo_0 0 rfl ?_
  refine z_iconst hX dX12_echo_1 ci_0 ?_
  replace hf := zput_some hf
  obtain ⟨g1, eg1, hf⟩ := hf
  refine gp_Model_thrown hX zq_493 q1494 dX12_echo_2 (zW.eqg eg1 ?_)
  refine z_aload_n hX dX12_echo_5 0 rfl ?_
  refine z_aload_n hX dX12_echo_6 0 rfl ?_
  refine z_iload_n hX dX12_echo_7 1 rfl ?_
  replace hf := zb_some hf
  obtain ⟨r_2, h2, hf⟩ := hf
  refine z_callV1 hX ok_X12_noLetter q1787 q1789 q68 (zrm_ok hR (by decide)) (ct_X12_noLetter  h2) (zrec_Model hX zq_493) dX12_echo_8 rfl rfl ?_
  refine z_iconst hX dX12_echo_11 ci_1 ?_
  replace hf := zb2_some hf
  obtain ⟨r_3, g3, h3, hf⟩ := hf
  refine z_callV1 hX ok_X12_throwsIf q1775 q1777 q67 (zrm_ok hR (by decide)) (ct_X12_throwsIf  h3) (zrec_Model hX zq_493) dX12_echo_12 rfl rfl ?_
  refine z_if_eq hX 20 dX12_echo_15 (by decide) (fun h4 => ?_) (fun h4 => ?_)
  · replace hf := zif_pos h4 hf
    refine z_iconst hX dX12_echo_20 ci_0 ?_
    refine z_istore_n (lv' := [(2, .int 0), (0, .ref (zB X + 493)), (1, .int v1)]) hX dX12_echo_21 hn (by decide) rfl ?_
    refine z_iconst hX dX12_echo_22 ci_0 ?_
    refine z_istore_n (lv' := [(3, .int 0), (2, .int 0), (0, .ref (zB X + 493)), (1, .int v1)]) hX dX12_echo_23 hn (by decide) rfl ?_
    refine zW.sub [2, 3, 1, 0] rfl ?_
    exact fX12_echo_L24_ok hX hT hR hr hn  zFU 0 0 hf
  · replace hf := zif_neg h4 hf
    refine z_iconst hX dX12_echo_18 ci_0 ?_
    obtain rfl := Option.some.inj hf
    exact z_iret hX hr rfl (zl rfl) (zl rfl) dX12_echo_19
set_option maxHeartbeats 4000000 in
set_option maxRecDepth 100000 in
theorem ct_X12_echo {E : zE} {v1 : Int32} {g : zM} {r : Int32 × zM} (hf : fX12_echo v1 g = some r) : zCt yX12_echo cX12_echo 5 (some .int) 5 0 E [.ref (E.1 + 493), .int v1] g (.inl (some (.int r.1), r.2)) := by
  refine zmet (by decide) (zl rfl) (fun X hE hX hT hR hr hn => ?_)
  subst hE
  exact fX12_echo_ok hX hT hR hr hn  hf
def fX12_has_L24 (v1 : Int32) (g : zM) : Nat → Int32 → Int32 → Option (Int32 × zM)
  | 0, _, _ => none
  | n + 1, v2, v3 => zb (fX12_lines v1 g) (fun r_5 => if r_5 ≤ v3 then some (v2, g) else zb (fX12_kindOf v1 v3 g) (fun r_7 => fX12_has_L24 v1 g n (v2 ||| ((1 : Int32) <<< (r_7 &&& 31))) (v3 + 1)))
def fX12_has (v1 : Int32) (g : zM) : Option (Int32 × zM) := zput g 493 0 0 (fun g1 => zb (fX12_noLetter v1 g1) (fun r_2 => zb2 (fX12_throwsIf r_2 1 g1) (fun r_3 g3 => if r_3 = 0 then fX12_has_L24 v1 g3 zFU 0 0 else some (0, g3))))
set_option maxHeartbeats 4000000 in
set_option maxRecDepth 100000 in
theorem fX12_has_L24_ok {X : zX} (hX : zCX X cX12_has RX12) (hT : zNT X) (hR : X.2.2.2.1 = zrm 3 0) (hr : X.2.2.2.2.2.2.2.2.1.sig.returnType = (some .int)) (hn : X.2.2.2.2.2.2.2.2.2.1.maxLocals = 4) {v1 : Int32} {g : zM} {r : Int32 × zM}  : ∀ (n : Nat) (v2 : Int32) (v3 : Int32), fX12_has_L24 v1 g n v2 v3 = some r → zW X (zQ X (.inl (some (.int r.1), r.2)) 0) 0 0 24 [(0, .ref (zB X + 493)), (1, .int v1), (2, .int v2), (3, .int v3)] [] g := by
  intro n
  induction n with
  | zero => intro v2 v3 hf; exact zno hf
  | succ n ih =>
    intro v2 v3 hf
    rw [fX12_has_L24] at hf
    refine z_iload_n hX dX12_has_24 3 rfl ?_
    refine z_aload_n hX dX12_has_25 0 rfl ?_
    refine z_iload_n hX dX12_has_26 1 rfl ?_
    replace hf := zb_some hf
    obtain ⟨r_5, h5, hf⟩ := hf
    refine z_callV1 hX ok_X12_lines q1683 q1685 q48 (zrm_ok hR (by decide)) (ct_X12_lines  h5) (zrec_Model hX zq_493) dX12_has_27 rfl rfl ?_
    refine z_icmp_ge hX 50 dX12_has_30 (by decide) (fun h6 => ?_) (fun h6 => ?_)
    · replace hf := zif_pos h6 hf
      refine z_iload_n hX dX12_has_50 2 rfl ?_
      obtain rfl := Option.some.inj hf
      exact z_iret hX hr rfl (zl rfl) (zl rfl) dX12_has_51
    · replace hf := zif_neg h6 hf
      refine z_iload_n hX dX12_has_33 2 rfl ?_
      refine z_iconst hX dX12_has_34 ci_1 ?_
      refine z_aload_n hX dX12_has_35 0 rfl ?_
      refine z_iload_n hX dX12_has_36 1 rfl ?_
      refine z_iload_n hX dX12_has_37 3 rfl ?_
      replace hf := zb_some hf
      obtain ⟨r_7, h7, hf⟩ := hf
      refine z_callV1 hX ok_X12_kindOf q1795 q1797 q70 (zrm_ok hR (by decide)) (ct_X12_kindOf  h7) (zrec_Model hX zq_493) dX12_has_38 rfl rfl ?_
      refine z_ishl hX dX12_has_41 ?_
      refine z_ior hX dX12_has_42 ?_
      refine z_istore_n (lv' := [(2, .int (v2 ||| ((1 : Int32) <<< (r_7 &&& 31)))), (0, .ref (zB X + 493)), (1, .int v1), (3, .int v3)]) hX dX12_has_43 hn (by decide) rfl ?_
      refine z_iincc (lv' := [(3, .int (v3 + 1)), (2, .int (v2 ||| ((1 : Int32) <<< (r_7 &&& 31)))), (0, .ref (zB X + 493)), (1, .int v1)]) hX dX12_has_44 hn (by decide) 3 rfl ci_1 rfl ?_
      refine z_goto hX 24 dX12_has_47 (by decide) ?_
      refine zW.sub [2, 3, 1, 0] rfl ?_
      exact ih (v2 ||| ((1 : Int32) <<< (r_7 &&& 31))) (v3 + 1) hf
set_option maxHeartbeats 4000000 in
set_option maxRecDepth 100000 in
theorem fX12_has_ok {X : zX} (hX : zCX X cX12_has RX12) (hT : zNT X) (hR : X.2.2.2.1 = zrm 3 0) (hr : X.2.2.2.2.2.2.2.2.1.sig.returnType = (some .int)) (hn : X.2.2.2.2.2.2.2.2.2.1.maxLocals = 4) {v1 : Int32} {g : zM} {r : Int32 × zM} (hf : fX12_has v1 g = some r) : zW X (zQ X (.inl (some (.int r.1), r.2)) 0) 0 0 0 [(0, .ref (zB X + 493)), (1, .int v1)] [] g := by
  unfold fX12_has at hf
  refine z_aload_n hX dX12_has_0 0 rfl ?_
  refine z_iconst hX dX12_has_1 ci_0 ?_
  replace hf := zput_some hf
  obtain ⟨g1, eg1, hf⟩ := hf
  refine gp_Model_thrown hX zq_493 q1494 dX12_has_2 (zW.eqg eg1 ?_)
  refine z_aload_n hX dX12_has_5 0 rfl ?_
  refine z_aload_n hX dX12_has_6 0 rfl ?_
  refine z_iload_n hX dX12_has_7 1 rfl ?_
  replace hf := zb_some hf
  obtain ⟨r_2, h2, hf⟩ := hf
  refine z_callV1 hX ok_X12_noLetter q1787 q1789 q68 (zrm_ok hR (by decide)) (ct_X12_noLetter  h2) (zrec_Model hX zq_493) dX12_has_8 rfl rfl ?_
  refine z_iconst hX dX12_has_11 ci_1 ?_
  replace hf := zb2_some hf
  obtain ⟨r_3, g3, h3, hf⟩ := hf
  refine z_callV1 hX ok_X12_throwsIf q1775 q1777 q67 (zrm_ok hR (by decide)) (ct_X12_throwsIf  h3) (zrec_Model hX zq_493) dX12_has_12 rfl rfl ?_
  refine z_if_eq hX 20 dX12_has_15 (by decide) (fun h4 => ?_) (fun h4 => ?_)
  · replace hf := zif_pos h4 hf
    refine z_iconst hX dX12_has_20 ci_0 ?_
    refine z_istore_n (lv' := [(2, .int 0), (0, .ref (zB X + 493)), (1, .int v1)]) hX dX12_has_21 hn (by decide) rfl ?_
    refine z_iconst hX dX12_has_22 ci_0 ?_
    refine z_istore_n (lv' := [(3, .int 0), (2, .int 0), (0, .ref (zB X + 493)), (1, .int v1)]) hX dX12_has_23 hn (by decide) rfl ?_
    refine zW.sub [2, 3, 1, 0] rfl ?_
    exact fX12_has_L24_ok hX hT hR hr hn  zFU 0 0 hf
  · replace hf := zif_neg h4 hf
    refine z_iconst hX dX12_has_18 ci_0 ?_
    obtain rfl := Option.some.inj hf
    exact z_iret hX hr rfl (zl rfl) (zl rfl) dX12_has_19
set_option maxHeartbeats 4000000 in
set_option maxRecDepth 100000 in
theorem ct_X12_has {E : zE} {v1 : Int32} {g : zM} {r : Int32 × zM} (hf : fX12_has v1 g = some r) : zCt yX12_has cX12_has 4 (some .int) 3 0 E [.ref (E.1 + 493), .int v1] g (.inl (some (.int r.1), r.2)) := by
  refine zmet (by decide) (zl rfl) (fun X hE hX hT hR hr hn => ?_)
  subst hE
  exact fX12_has_ok hX hT hR hr hn  hf
def fX12_isBound_L7 (v1 : Int32) (g : zM) : Nat → Int32 → Int32 → Int32 → Option Int32
  | 0, _, _, _ => none
  | n + 1, v2, v3, v4 => if (g 493 19) ≤ v4 then zbo v3 (some v3) else if v3 = 0 then zjoin (fun t0_5 => if v2 = 0 then zchk v4 24 (zb (fX12_ofPromise v1 0 g) (fun r_8 => if (g 502 v4.toNatClampNeg) = r_8 then fX12_isBound_L7 v1 g n 1 t0_5 (v4 + 1) else fX12_isBound_L7 v1 g n 0 t0_5 (v4 + 1))) else fX12_isBound_L7 v1 g n 1 t0_5 (v4 + 1) : Int32 → Option Int32) (fun k45 => if v2 = 0 then k45 0 else zchk v4 24 (zb (fX12_ofPromise v1 1 g) (fun r_12 => if (g 502 v4.toNatClampNeg) = r_12 then k45 1 else k45 0))) else zbo v3 (some v3)
def fX12_isBound (v1 : Int32) (g : zM) : Option Int32 := fX12_isBound_L7 v1 g zFU 0 0 0
set_option maxHeartbeats 4000000 in
set_option maxRecDepth 100000 in
theorem fX12_isBound_L7_ok {X : zX} (hX : zCX X cX12_isBound RX12) (hT : zNT X) (hR : X.2.2.2.1 = zrm 1 0) (hr : X.2.2.2.2.2.2.2.2.1.sig.returnType = (some .boolean)) (hn : X.2.2.2.2.2.2.2.2.2.1.maxLocals = 5) {v1 : Int32} {g : zM} {r : Int32}  : ∀ (n : Nat) (v2 : Int32) (v3 : Int32) (v4 : Int32), fX12_isBound_L7 v1 g n v2 v3 v4 = some r → zW X (zQ X (.inl (some (.int r), g)) 0) 0 0 7 [(0, .ref (zB X + 493)), (1, .int v1), (2, .int v2), (3, .int v3), (4, .int v4)] [] g := by
  intro n
  induction n with
  | zero => intro v2 v3 v4 hf; exact zno hf
  | succ n ih =>
    intro v2 v3 v4 hf
    rw [fX12_isBound_L7] at hf
    refine z_iload hX dX12_isBound_7 4 rfl ?_
    refine z_aload_n hX dX12_isBound_9 0 rfl ?_
    refine gf_Model_many hX zq_493 q1513 dX12_isBound_10 ?_
    refine z_icmp_ge hX 78 dX12_isBound_13 (by decide) (fun h1 => ?_) (fun h1 => ?_)
    · replace hf := zif_pos h1 hf
      refine z_iload_n hX dX12_isBound_78 3 rfl ?_
      replace hf := zbo_some hf
      obtain ⟨h2, hf⟩ := hf
      obtain rfl := Option.some.inj hf
      exact z_iret hX hr (zbn h2) (zl rfl) (zl rfl) dX12_isBound_79
    · replace hf := zif_neg h1 hf
      refine z_iload_n hX dX12_isBound_16 3 rfl ?_
      refine z_if_ne hX 78 dX12_isBound_17 (by decide) (fun h3 => ?_) (fun h3 => ?_)
      · replace hf := zif_neg h3 hf
        refine z_iload_n hX dX12_isBound_78 3 rfl ?_
        replace hf := zbo_some hf
        obtain ⟨h4, hf⟩ := hf
        obtain rfl := Option.some.inj hf
        exact z_iret hX hr (zbn h4) (zl rfl) (zl rfl) dX12_isBound_79
      · replace hf := zif_pos h3 hf
        refine z_iload_n hX dX12_isBound_20 2 rfl ?_
        refine zjoin_ok (P := fun (k : Int32 → Option Int32) => ∀ (t0_5 : Int32), k t0_5 = some r → zW X (zQ X (.inl (some (.int r), g)) 0) 0 0 45 [(0, .ref (zB X + 493)), (1, .int v1), (2, .int v2), (4, .int v4)] [.int t0_5] g) hf (fun t0_5 hf => ?_) (fun k45 hk45 hf => ?_)
        · refine z_istore_n (lv' := [(3, .int t0_5), (0, .ref (zB X + 493)), (1, .int v1), (2, .int v2), (4, .int v4)]) hX dX12_isBound_45 hn (by decide) rfl ?_
          refine z_iload_n hX dX12_isBound_46 3 rfl ?_
          refine z_if_ne hX 66 dX12_isBound_47 (by decide) (fun h6 => ?_) (fun h6 => ?_)
          · replace hf := zif_neg h6 hf
            refine z_iconst hX dX12_isBound_66 ci_1 ?_
            refine z_goto hX 71 dX12_isBound_67 (by decide) ?_
            refine z_istore_n (lv' := [(2, .int 1), (3, .int t0_5), (0, .ref (zB X + 493)), (1, .int v1), (4, .int v4)]) hX dX12_isBound_71 hn (by decide) rfl ?_
            refine z_iincc (lv' := [(4, .int (v4 + 1)), (2, .int 1), (3, .int t0_5), (0, .ref (zB X + 493)), (1, .int v1)]) hX dX12_isBound_72 hn (by decide) 4 rfl ci_1 rfl ?_
            refine z_goto hX 7 dX12_isBound_75 (by decide) ?_
            refine zW.sub [3, 4, 1, 2, 0] rfl ?_
            exact ih 1 t0_5 (v4 + 1) hf
          · replace hf := zif_pos h6 hf
            refine z_aload_n hX dX12_isBound_50 1 rfl ?_
            refine gf_Model_row hX zq_493 q1512 dX12_isBound_51 ?_
            refine z_iload hX dX12_isBound_54 4 rfl ?_
            replace hf := zchk_some hf
            obtain ⟨h7, hf⟩ := hf
            refine z_iald hX zq_502 (by decide) (zc_1024 _ _ _) h7 dX12_isBound_56 ?_
            refine z_aload_n hX dX12_isBound_57 1 rfl ?_
            refine z_iload_n hX dX12_isBound_58 2 rfl ?_
            refine z_iconst hX dX12_isBound_59 ci_0 ?_
            replace hf := zb_some hf
            obtain ⟨r_8, h8, hf⟩ := hf
            refine z_callV1 hX ok_X12_ofPromise q1865 q1867 q83 (zrm_ok hR (by decide)) (ct_X12_ofPromise  h8) (zrec_Model hX zq_493) dX12_isBound_60 rfl rfl ?_
            refine z_icmp_ne hX 70 dX12_isBound_63 (by decide) (fun h9 => ?_) (fun h9 => ?_)
            · replace hf := zif_neg h9 hf
              refine z_iconst hX dX12_isBound_70 ci_0 ?_
              refine z_istore_n (lv' := [(2, .int 0), (3, .int t0_5), (0, .ref (zB X + 493)), (1, .int v1), (4, .int v4)]) hX dX12_isBound_71 hn (by decide) rfl ?_
              refine z_iincc (lv' := [(4, .int (v4 + 1)), (2, .int 0), (3, .int t0_5), (0, .ref (zB X + 493)), (1, .int v1)]) hX dX12_isBound_72 hn (by decide) 4 rfl ci_1 rfl ?_
              refine z_goto hX 7 dX12_isBound_75 (by decide) ?_
              refine zW.sub [3, 4, 1, 2, 0] rfl ?_
              exact ih 0 t0_5 (v4 + 1) hf
            · replace hf := zif_pos h9 hf
              refine z_iconst hX dX12_isBound_66 ci_1 ?_
              refine z_goto hX 71 dX12_isBound_67 (by decide) ?_
              refine z_istore_n (lv' := [(2, .int 1), (3, .int t0_5), (0, .ref (zB X + 493)), (1, .int v1), (4, .int v4)]) hX dX12_isBound_71 hn (by decide) rfl ?_
              refine z_iincc (lv' := [(4, .int (v4 + 1)), (2, .int 1), (3, .int t0_5), (0, .ref (zB X + 493)), (1, .int v1)]) hX dX12_isBound_72 hn (by decide) 4 rfl ci_1 rfl ?_
              refine z_goto hX 7 dX12_isBound_75 (by decide) ?_
              refine zW.sub [3, 4, 1, 2, 0] rfl ?_
              exact ih 1 t0_5 (v4 + 1) hf
        · refine z_if_eq hX 44 dX12_isBound_21 (by decide) (fun h10 => ?_) (fun h10 => ?_)
          · replace hf := zif_pos h10 hf
            refine z_iconst hX dX12_isBound_44 ci_0 ?_
            refine zW.sub [0, 1, 2, 4] rfl ?_
            exact hk45 0 hf
          · replace hf := zif_neg h10 hf
            refine z_aload_n hX dX12_isBound_24 0 rfl ?_
            refine gf_Model_row hX zq_493 q1512 dX12_isBound_25 ?_
            refine z_iload hX dX12_isBound_28 4 rfl ?_
            replace hf := zchk_some hf
            obtain ⟨h11, hf⟩ := hf
            refine z_iald hX zq_502 (by decide) (zc_1024 _ _ _) h11 dX12_isBound_30 ?_
            refine z_aload_n hX dX12_isBound_31 0 rfl ?_
            refine z_iload_n hX dX12_isBound_32 1 rfl ?_
            refine z_iconst hX dX12_isBound_33 ci_1 ?_
            replace hf := zb_some hf
            obtain ⟨r_12, h12, hf⟩ := hf
            refine z_callV1 hX ok_X12_ofPromise q1865 q1867 q83 (zrm_ok hR (by decide)) (ct_X12_ofPromise  h12) (zrec_Model hX zq_493) dX12_isBound_34 rfl rfl ?_
            refine z_icmp_ne hX 44 dX12_isBound_37 (by decide) (fun h13 => ?_) (fun h13 => ?_)
            · replace hf := zif_neg h13 hf
              refine z_iconst hX dX12_isBound_44 ci_0 ?_
              refine zW.sub [0, 1, 2, 4] rfl ?_
              exact hk45 0 hf
            · replace hf := zif_pos h13 hf
              refine z_iconst hX dX12_isBound_40 ci_1 ?_
              refine z_goto hX 45 dX12_isBound_41 (by decide) ?_
              refine zW.sub [0, 1, 2, 4] rfl ?_
              exact hk45 1 hf
set_option maxHeartbeats 4000000 in
set_option maxRecDepth 100000 in
theorem fX12_isBound_ok {X : zX} (hX : zCX X cX12_isBound RX12) (hT : zNT X) (hR : X.2.2.2.1 = zrm 1 0) (hr : X.2.2.2.2.2.2.2.2.1.sig.returnType = (some .boolean)) (hn : X.2.2.2.2.2.2.2.2.2.1.maxLocals = 5) {v1 : Int32} {g : zM} {r : Int32} (hf : fX12_isBound v1 g = some r) : zW X (zQ X (.inl (some (.int r), g)) 0) 0 0 0 [(0, .ref (zB X + 493)), (1, .int v1)] [] g := by
  unfold fX12_isBound at hf
  refine z_iconst hX dX12_isBound_0 ci_0 ?_
  refine z_istore_n (lv' := [(2, .int 0), (0, .ref (zB X + 493)), (1, .int v1)]) hX dX12_isBound_1 hn (by decide) rfl ?_
  refine z_iconst hX dX12_isBound_2 ci_0 ?_
  refine z_istore_n (lv' := [(3, .int 0), (2, .int 0), (0, .ref (zB X + 493)), (1, .int v1)]) hX dX12_isBound_3 hn (by decide) rfl ?_
  refine z_iconst hX dX12_isBound_4 ci_0 ?_
  refine z_istore (lv' := [(4, .int 0), (3, .int 0), (2, .int 0), (0, .ref (zB X + 493)), (1, .int v1)]) hX dX12_isBound_5 hn (by decide) rfl ?_
  refine zW.sub [3, 4, 2, 1, 0] rfl ?_
  exact fX12_isBound_L7_ok hX hT hR hr hn  zFU 0 0 0 hf
set_option maxHeartbeats 4000000 in
set_option maxRecDepth 100000 in
theorem ct_X12_isBound {E : zE} {v1 : Int32} {g : zM} {r : Int32} (hf : fX12_isBound v1 g = some r) : zCt yX12_isBound cX12_isBound 5 (some .boolean) 1 0 E [.ref (E.1 + 493), .int v1] g (.inl (some (.int r), g)) := by
  refine zmet (by decide) (zl rfl) (fun X hE hX hT hR hr hn => ?_)
  subst hE
  exact fX12_isBound_ok hX hT hR hr hn  hf
def fX12_boundNow_L4 (g : zM) : Nat → Int32 → Int32 → Option Int32
  | 0, _, _ => none
  | n + 1, v1, v2 => zb (fX12_promises g) (fun r_1 => if r_1 ≤ v2 then some v1 else zb (fX12_isBound v2 g) (fun r_3 => if r_3 = 0 then fX12_boundNow_L4 g n (v1 ||| 0) (v2 + 1) else fX12_boundNow_L4 g n (v1 ||| ((1 : Int32) <<< (v2 &&& 31))) (v2 + 1)))
def fX12_boundNow (g : zM) : Option Int32 := fX12_boundNow_L4 g zFU 0 0
set_option maxHeartbeats 4000000 in
set_option maxRecDepth 100000 in
theorem fX12_boundNow_L4_ok {X : zX} (hX : zCX X cX12_boundNow RX12) (hT : zNT X) (hR : X.2.2.2.1 = zrm 2 0) (hr : X.2.2.2.2.2.2.2.2.1.sig.returnType = (some .int)) (hn : X.2.2.2.2.2.2.2.2.2.1.maxLocals = 3) {g : zM} {r : Int32}  : ∀ (n : Nat) (v1 : Int32) (v2 : Int32), fX12_boundNow_L4 g n v1 v2 = some r → zW X (zQ X (.inl (some (.int r), g)) 0) 0 0 4 [(0, .ref (zB X + 493)), (1, .int v1), (2, .int v2)] [] g := by
  intro n
  induction n with
  | zero => intro v1 v2 hf; exact zno hf
  | succ n ih =>
    intro v1 v2 hf
    rw [fX12_boundNow_L4] at hf
    refine z_iload_n hX dX12_boundNow_4 2 rfl ?_
    refine z_aload_n hX dX12_boundNow_5 0 rfl ?_
    replace hf := zb_some hf
    obtain ⟨r_1, h1, hf⟩ := hf
    refine z_callV1 hX ok_X12_promises q1709 q1711 q54 (zrm_ok hR (by decide)) (ct_X12_promises  h1) (zrec_Model hX zq_493) dX12_boundNow_6 rfl rfl ?_
    refine z_icmp_ge hX 36 dX12_boundNow_9 (by decide) (fun h2 => ?_) (fun h2 => ?_)
    · replace hf := zif_pos h2 hf
      refine z_iload_n hX dX12_boundNow_36 1 rfl ?_
      obtain rfl := Option.some.inj hf
      exact z_iret hX hr rfl (zl rfl) (zl rfl) dX12_boundNow_37
    · replace hf := zif_neg h2 hf
      refine z_iload_n hX dX12_boundNow_12 1 rfl ?_
      refine z_aload_n hX dX12_boundNow_13 0 rfl ?_
      refine z_iload_n hX dX12_boundNow_14 2 rfl ?_
      replace hf := zb_some hf
      obtain ⟨r_3, h3, hf⟩ := hf
      refine z_callV1 hX ok_X12_isBound q2067 q2069 q103 (zrm_ok hR (by decide)) (ct_X12_isBound  h3) (zrec_Model hX zq_493) dX12_boundNow_15 rfl rfl ?_
      refine z_if_eq hX 27 dX12_boundNow_18 (by decide) (fun h4 => ?_) (fun h4 => ?_)
      · replace hf := zif_pos h4 hf
        refine z_iconst hX dX12_boundNow_27 ci_0 ?_
        refine z_ior hX dX12_boundNow_28 ?_
        refine z_istore_n (lv' := [(1, .int (v1 ||| 0)), (0, .ref (zB X + 493)), (2, .int v2)]) hX dX12_boundNow_29 hn (by decide) rfl ?_
        refine z_iincc (lv' := [(2, .int (v2 + 1)), (1, .int (v1 ||| 0)), (0, .ref (zB X + 493))]) hX dX12_boundNow_30 hn (by decide) 2 rfl ci_1 rfl ?_
        refine z_goto hX 4 dX12_boundNow_33 (by decide) ?_
        refine zW.sub [2, 1, 0] rfl ?_
        exact ih (v1 ||| 0) (v2 + 1) hf
      · replace hf := zif_neg h4 hf
        refine z_iconst hX dX12_boundNow_21 ci_1 ?_
        refine z_iload_n hX dX12_boundNow_22 2 rfl ?_
        refine z_ishl hX dX12_boundNow_23 ?_
        refine z_goto hX 28 dX12_boundNow_24 (by decide) ?_
        refine z_ior hX dX12_boundNow_28 ?_
        refine z_istore_n (lv' := [(1, .int (v1 ||| ((1 : Int32) <<< (v2 &&& 31)))), (0, .ref (zB X + 493)), (2, .int v2)]) hX dX12_boundNow_29 hn (by decide) rfl ?_
        refine z_iincc (lv' := [(2, .int (v2 + 1)), (1, .int (v1 ||| ((1 : Int32) <<< (v2 &&& 31)))), (0, .ref (zB X + 493))]) hX dX12_boundNow_30 hn (by decide) 2 rfl ci_1 rfl ?_
        refine z_goto hX 4 dX12_boundNow_33 (by decide) ?_
        refine zW.sub [2, 1, 0] rfl ?_
        exact ih (v1 ||| ((1 : Int32) <<< (v2 &&& 31))) (v2 + 1) hf
set_option maxHeartbeats 4000000 in
set_option maxRecDepth 100000 in
theorem fX12_boundNow_ok {X : zX} (hX : zCX X cX12_boundNow RX12) (hT : zNT X) (hR : X.2.2.2.1 = zrm 2 0) (hr : X.2.2.2.2.2.2.2.2.1.sig.returnType = (some .int)) (hn : X.2.2.2.2.2.2.2.2.2.1.maxLocals = 3)  {g : zM} {r : Int32} (hf : fX12_boundNow g = some r) : zW X (zQ X (.inl (some (.int r), g)) 0) 0 0 0 [(0, .ref (zB X + 493))] [] g := by
  unfold fX12_boundNow at hf
  refine z_iconst hX dX12_boundNow_0 ci_0 ?_
  refine z_istore_n (lv' := [(1, .int 0), (0, .ref (zB X + 493))]) hX dX12_boundNow_1 hn (by decide) rfl ?_
  refine z_iconst hX dX12_boundNow_2 ci_0 ?_
  refine z_istore_n (lv' := [(2, .int 0), (1, .int 0), (0, .ref (zB X + 493))]) hX dX12_boundNow_3 hn (by decide) rfl ?_
  refine zW.sub [2, 1, 0] rfl ?_
  exact fX12_boundNow_L4_ok hX hT hR hr hn  zFU 0 0 hf
set_option maxHeartbeats 4000000 in
set_option maxRecDepth 100000 in
theorem ct_X12_boundNow {E : zE} {g : zM} {r : Int32} (hf : fX12_boundNow g = some r) : zCt yX12_boundNow cX12_boundNow 3 (some .int) 2 0 E [.ref (E.1 + 493)] g (.inl (some (.int r), g)) := by
  refine zmet (by decide) (zl rfl) (fun X hE hX hT hR hr hn => ?_)
  subst hE
  exact fX12_boundNow_ok hX hT hR hr hn  hf
def fX12_bound (v1 : Int32) (v2 : Int32) (g : zM) : Option (Int32 × zM) := zput g 493 0 0 (fun g1 => zb (fX12_noLetter v1 g1) (fun r_2 => zb2 (fX12_throwsIf r_2 1 g1) (fun r_3 g3 => if r_3 = 0 then zb (fX12_noAhead v2 g3) (fun r_5 => zb2 (fX12_throwsIf r_5 2 g3) (fun r_6 g6 => if r_6 = 0 then zb (fX12_looksAhead v1 v2 g6) (fun g8 => zb (fX12_boundNow g8) (fun r_9 => some (r_9, g8))) else some (0, g6))) else some (0, g3))))
set_option maxHeartbeats 4000000 in
set_option maxRecDepth 100000 in
theorem fX12_bound_ok {X : zX} (hX : zCX X cX12_bound RX12) (hT : zNT X) (hR : X.2.2.2.1 = zrm 9 0) (hr : X.2.2.2.2.2.2.2.2.1.sig.returnType = (some .int)) (hn : X.2.2.2.2.2.2.2.2.2.1.maxLocals = 3) {v1 : Int32} {v2 : Int32} {g : zM} {r : Int32 × zM} (hf : fX12_bound v1 v2 g = some r) : zW X (zQ X (.inl (some (.int r.1), r.2)) 0) 0 0 0 [(0, .ref (zB X + 493)), (1, .int v1), (2, .int v2)] [] g := by
  unfold fX12_bound at hf
  refine z_aload_n hX dX12_bound_0 0 rfl ?_
  refine z_iconst hX dX12_bound_1 ci_0 ?_
  replace hf := zput_some hf
  obtain ⟨g1, eg1, hf⟩ := hf
  refine gp_Model_thrown hX zq_493 q1494 dX12_bound_2 (zW.eqg eg1 ?_)
  refine z_aload_n hX dX12_bound_5 0 rfl ?_
  refine z_aload_n hX dX12_bound_6 0 rfl ?_
  refine z_iload_n hX dX12_bound_7 1 rfl ?_
  replace hf := zb_some hf
  obtain ⟨r_2, h2, hf⟩ := hf
  refine z_callV1 hX ok_X12_noLetter q1787 q1789 q68 (zrm_ok hR (by decide)) (ct_X12_noLetter  h2) (zrec_Model hX zq_493) dX12_bound_8 rfl rfl ?_
  refine z_iconst hX dX12_bound_11 ci_1 ?_
  replace hf := zb2_some hf
  obtain ⟨r_3, g3, h3, hf⟩ := hf
  refine z_callV1 hX ok_X12_throwsIf q1775 q1777 q67 (zrm_ok hR (by decide)) (ct_X12_throwsIf  h3) (zrec_Model hX zq_493) dX12_bound_12 rfl rfl ?_
  refine z_if_ne hX 30 dX12_bound_15 (by decide) (fun h4 => ?_) (fun h4 => ?_)
  · replace hf := zif_neg h4 hf
    refine z_iconst hX dX12_bound_30 ci_0 ?_
    obtain rfl := Option.some.inj hf
    exact z_iret hX hr rfl (zl rfl) (zl rfl) dX12_bound_31
  · replace hf := zif_pos h4 hf
    refine z_aload_n hX dX12_bound_18 0 rfl ?_
    refine z_iload_n hX dX12_bound_19 2 rfl ?_
    replace hf := zb_some hf
    obtain ⟨r_5, h5, hf⟩ := hf
    refine z_callS1 hX ok_X12_noAhead rfl q1934 q1935 (zrm_ok hR (by decide)) (ct_X12_noAhead  h5) dX12_bound_20 rfl rfl ?_
    refine z_iconst hX dX12_bound_23 ci_2 ?_
    replace hf := zb2_some hf
    obtain ⟨r_6, g6, h6, hf⟩ := hf
    refine z_callV1 hX ok_X12_throwsIf q1775 q1777 q67 (zrm_ok hR (by decide)) (ct_X12_throwsIf  h6) (zrec_Model hX zq_493) dX12_bound_24 rfl rfl ?_
    refine z_if_eq hX 32 dX12_bound_27 (by decide) (fun h7 => ?_) (fun h7 => ?_)
    · replace hf := zif_pos h7 hf
      refine z_aload_n hX dX12_bound_32 0 rfl ?_
      refine z_iload_n hX dX12_bound_33 1 rfl ?_
      refine z_iload_n hX dX12_bound_34 2 rfl ?_
      replace hf := zb_some hf
      obtain ⟨g8, h8, hf⟩ := hf
      refine z_callV0 hX ok_X12_looksAhead q1937 q1939 q89 (zrm_ok hR (by decide)) (ct_X12_looksAhead  h8) (zrec_Model hX zq_493) dX12_bound_35 rfl rfl ?_
      refine z_aload_n hX dX12_bound_38 0 rfl ?_
      replace hf := zb_some hf
      obtain ⟨r_9, h9, hf⟩ := hf
      refine z_callV1 hX ok_X12_boundNow q2063 q2065 q102 (zrm_ok hR (by decide)) (ct_X12_boundNow  h9) (zrec_Model hX zq_493) dX12_bound_39 rfl rfl ?_
      obtain rfl := Option.some.inj hf
      exact z_iret hX hr rfl (zl rfl) (zl rfl) dX12_bound_42
    · replace hf := zif_neg h7 hf
      refine z_iconst hX dX12_bound_30 ci_0 ?_
      obtain rfl := Option.some.inj hf
      exact z_iret hX hr rfl (zl rfl) (zl rfl) dX12_bound_31
set_option maxHeartbeats 4000000 in
set_option maxRecDepth 100000 in
theorem ct_X12_bound {E : zE} {v1 : Int32} {v2 : Int32} {g : zM} {r : Int32 × zM} (hf : fX12_bound v1 v2 g = some r) : zCt yX12_bound cX12_bound 3 (some .int) 9 0 E [.ref (E.1 + 493), .int v1, .int v2] g (.inl (some (.int r.1), r.2)) := by
  refine zmet (by decide) (zl rfl) (fun X hE hX hT hR hr hn => ?_)
  subst hE
  exact fX12_bound_ok hX hT hR hr hn  hf
def fX12_whenOf_L7 (v2 : Int32) : Nat → Int32 → zM → Option (Int32 × zM)
  | 0, _, _ => none
  | n + 1, v3, g => if 40 < v3 then some ((-1), g) else zb (fX12_isBound v2 g) (fun r_3 => if r_3 = 0 then zb (fX12_goesOn g) (fun g5 => fX12_whenOf_L7 v2 n (v3 + 1) g5) else some (v3, g))
def fX12_whenOf (v1 : Int32) (v2 : Int32) (g : zM) : Option (Int32 × zM) := zb (fX12_looksAt v1 g) (fun g1 => fX12_whenOf_L7 v2 zFU 0 g1)
set_option maxHeartbeats 4000000 in
set_option maxRecDepth 100000 in
theorem fX12_whenOf_L7_ok {X : zX} (hX : zCX X cX12_whenOf RX12) (hT : zNT X) (hR : X.2.2.2.1 = zrm 7 0) (hr : X.2.2.2.2.2.2.2.2.1.sig.returnType = (some .int)) (hn : X.2.2.2.2.2.2.2.2.2.1.maxLocals = 4) {v2 : Int32} {r : Int32 × zM}  : ∀ (n : Nat) (v3 : Int32) (g : zM), fX12_whenOf_L7 v2 n v3 g = some r → zW X (zQ X (.inl (some (.int r.1), r.2)) 0) 0 0 7 [(0, .ref (zB X + 493)), (2, .int v2), (3, .int v3)] [] g := by
  intro n
  induction n with
  | zero => intro v3 g hf; exact zno hf
  | succ n ih =>
    intro v3 g hf
    rw [fX12_whenOf_L7] at hf
    refine z_iload_n hX dX12_whenOf_7 2 rfl ?_
    refine z_bipush hX dX12_whenOf_8 cb_40 ?_
    refine z_icmp_gt hX 33 dX12_whenOf_10 (by decide) (fun h2 => ?_) (fun h2 => ?_)
    · replace hf := zif_pos h2 hf
      refine z_iconst hX dX12_whenOf_33 ci_m1 ?_
      obtain rfl := Option.some.inj hf
      exact z_iret hX hr rfl (zl rfl) (zl rfl) dX12_whenOf_34
    · replace hf := zif_neg h2 hf
      refine z_aload_n hX dX12_whenOf_13 0 rfl ?_
      refine z_iload_n hX dX12_whenOf_14 1 rfl ?_
      replace hf := zb_some hf
      obtain ⟨r_3, h3, hf⟩ := hf
      refine z_callV1 hX ok_X12_isBound q2067 q2069 q103 (zrm_ok hR (by decide)) (ct_X12_isBound  h3) (zrec_Model hX zq_493) dX12_whenOf_15 rfl rfl ?_
      refine z_if_eq hX 23 dX12_whenOf_18 (by decide) (fun h4 => ?_) (fun h4 => ?_)
      · replace hf := zif_pos h4 hf
        refine z_aload_n hX dX12_whenOf_23 0 rfl ?_
        replace hf := zb_some hf
        obtain ⟨g5, h5, hf⟩ := hf
        refine z_callV0 hX ok_X12_goesOn q1945 q1947 q91 (zrm_ok hR (by decide)) (ct_X12_goesOn  h5) (zrec_Model hX zq_493) dX12_whenOf_24 rfl rfl ?_
        refine z_iincc (lv' := [(3, .int (v3 + 1)), (0, .ref (zB X + 493)), (2, .int v2)]) hX dX12_whenOf_27 hn (by decide) 2 rfl ci_1 rfl ?_
        refine z_goto hX 7 dX12_whenOf_30 (by decide) ?_
        refine zW.sub [1, 2, 0] rfl ?_
        exact ih (v3 + 1) g5 hf
      · replace hf := zif_neg h4 hf
        refine z_iload_n hX dX12_whenOf_21 2 rfl ?_
        obtain rfl := Option.some.inj hf
        exact z_iret hX hr rfl (zl rfl) (zl rfl) dX12_whenOf_22
set_option maxHeartbeats 4000000 in
set_option maxRecDepth 100000 in
theorem fX12_whenOf_ok {X : zX} (hX : zCX X cX12_whenOf RX12) (hT : zNT X) (hR : X.2.2.2.1 = zrm 7 0) (hr : X.2.2.2.2.2.2.2.2.1.sig.returnType = (some .int)) (hn : X.2.2.2.2.2.2.2.2.2.1.maxLocals = 4) {v1 : Int32} {v2 : Int32} {g : zM} {r : Int32 × zM} (hf : fX12_whenOf v1 v2 g = some r) : zW X (zQ X (.inl (some (.int r.1), r.2)) 0) 0 0 0 [(0, .ref (zB X + 493)), (1, .int v1), (2, .int v2)] [] g := by
  unfold fX12_whenOf at hf
  refine z_aload_n hX dX12_whenOf_0 0 rfl ?_
  refine z_iload_n hX dX12_whenOf_1 1 rfl ?_
  replace hf := zb_some hf
  obtain ⟨g1, h1, hf⟩ := hf
  refine z_callV0 hX ok_X12_looksAt q1791 q1793 q69 (zrm_ok hR (by decide)) (ct_X12_looksAt  h1) (zrec_Model hX zq_493) dX12_whenOf_2 rfl rfl ?_
  refine z_iconst hX dX12_whenOf_5 ci_0 ?_
  refine z_istore_n (lv' := [(3, .int 0), (0, .ref (zB X + 493)), (1, .int v1), (2, .int v2)]) hX dX12_whenOf_6 hn (by decide) rfl ?_
  refine zW.sub [1, 3, 0] rfl ?_
  exact fX12_whenOf_L7_ok hX hT hR hr hn  zFU 0 g1 hf
set_option maxHeartbeats 4000000 in
set_option maxRecDepth 100000 in
theorem ct_X12_whenOf {E : zE} {v1 : Int32} {v2 : Int32} {g : zM} {r : Int32 × zM} (hf : fX12_whenOf v1 v2 g = some r) : zCt yX12_whenOf cX12_whenOf 4 (some .int) 7 0 E [.ref (E.1 + 493), .int v1, .int v2] g (.inl (some (.int r.1), r.2)) := by
  refine zmet (by decide) (zl rfl) (fun X hE hX hT hR hr hn => ?_)
  subst hE
  exact fX12_whenOf_ok hX hT hR hr hn  hf
def fX12_when (v1 : Int32) (v2 : Int32) (g : zM) : Option (Int32 × zM) := zput g 493 0 0 (fun g1 => zb (fX12_noLetter v1 g1) (fun r_2 => zjoin (fun t0_3 => zb2 (fX12_throwsIf t0_3 1 g1) (fun r_4 g4 => if r_4 = 0 then zb2 (fX12_whenOf v1 v2 g4) (fun r_6 g6 => some (r_6, g6)) else some (0, g4)) : Int32 → Option (Int32 × zM)) (fun k27 => if r_2 = 0 then zb (fX12_noPromise v2 g1) (fun r_8 => if r_8 = 0 then k27 0 else k27 1) else k27 1)))
set_option maxHeartbeats 4000000 in
set_option maxRecDepth 100000 in
theorem fX12_when_ok {X : zX} (hX : zCX X cX12_when RX12) (hT : zNT X) (hR : X.2.2.2.1 = zrm 8 0) (hr : X.2.2.2.2.2.2.2.2.1.sig.returnType = (some .int)) (hn : X.2.2.2.2.2.2.2.2.2.1.maxLocals = 3) {v1 : Int32} {v2 : Int32} {g : zM} {r : Int32 × zM} (hf : fX12_when v1 v2 g = some r) : zW X (zQ X (.inl (some (.int r.1), r.2)) 0) 0 0 0 [(0, .ref (zB X + 493)), (1, .int v1), (2, .int v2)] [] g := by
  unfold fX12_when at hf
  refine z_aload_n hX dX12_when_0 0 rfl ?_
  refine z_iconst hX dX12_when_1 ci_0 ?_
  replace hf := zput_some hf
  obtain ⟨g1, eg1, hf⟩ := hf
  refine gp_Model_thrown hX zq_493 q1494 dX12_when_2 (zW.eqg eg1 ?_)
  refine z_aload_n hX dX12_when_5 0 rfl ?_
  refine z_aload_n hX dX12_when_6 0 rfl ?_
  refine z_iload_n hX dX12_when_7 1 rfl ?_
  replace hf := zb_some hf
  obtain ⟨r_2, h2, hf⟩ := hf
  refine z_callV1 hX ok_X12_noLetter q1787 q1789 q68 (zrm_ok hR (by decide)) (ct_X12_noLetter  h2) (zrec_Model hX zq_493) dX12_when_8 rfl rfl ?_
  refine zjoin_ok (P := fun (k : Int32 → Option (Int32 × zM)) => ∀ (t0_3 : Int32), k t0_3 = some r → zW X (zQ X (.inl (some (.int r.1), r.2)) 0) 0 0 27 [(0, .ref (zB X + 493)), (1, .int v1), (2, .int v2)] [.int t0_3, .ref (zB X + 493)] g1) hf (fun t0_3 hf => ?_) (fun k27 hk27 hf => ?_)
  · refine z_iconst hX dX12_when_27 ci_1 ?_
    replace hf := zb2_some hf
    obtain ⟨r_4, g4, h4, hf⟩ := hf
    refine z_callV1 hX ok_X12_throwsIf q1775 q1777 q67 (zrm_ok hR (by decide)) (ct_X12_throwsIf  h4) (zrec_Model hX zq_493) dX12_when_28 rfl rfl ?_
    refine z_if_eq hX 38 dX12_when_31 (by decide) (fun h5 => ?_) (fun h5 => ?_)
    · replace hf := zif_pos h5 hf
      refine z_aload_n hX dX12_when_38 0 rfl ?_
      refine z_iload_n hX dX12_when_39 1 rfl ?_
      refine z_iload_n hX dX12_when_40 2 rfl ?_
      replace hf := zb2_some hf
      obtain ⟨r_6, g6, h6, hf⟩ := hf
      refine z_callV1 hX ok_X12_whenOf q2075 q2077 q104 (zrm_ok hR (by decide)) (ct_X12_whenOf  h6) (zrec_Model hX zq_493) dX12_when_41 rfl rfl ?_
      obtain rfl := Option.some.inj hf
      exact z_iret hX hr rfl (zl rfl) (zl rfl) dX12_when_44
    · replace hf := zif_neg h5 hf
      refine z_iconst hX dX12_when_34 ci_0 ?_
      refine z_goto hX 44 dX12_when_35 (by decide) ?_
      obtain rfl := Option.some.inj hf
      exact z_iret hX hr rfl (zl rfl) (zl rfl) dX12_when_44
  · refine z_if_ne hX 22 dX12_when_11 (by decide) (fun h7 => ?_) (fun h7 => ?_)
    · replace hf := zif_neg h7 hf
      refine z_iconst hX dX12_when_22 ci_1 ?_
      refine z_goto hX 27 dX12_when_23 (by decide) ?_
      exact hk27 1 hf
    · replace hf := zif_pos h7 hf
      refine z_aload_n hX dX12_when_14 0 rfl ?_
      refine z_iload_n hX dX12_when_15 2 rfl ?_
      replace hf := zb_some hf
      obtain ⟨r_8, h8, hf⟩ := hf
      refine z_callV1 hX ok_X12_noPromise q1861 q1863 q82 (zrm_ok hR (by decide)) (ct_X12_noPromise  h8) (zrec_Model hX zq_493) dX12_when_16 rfl rfl ?_
      refine z_if_eq hX 26 dX12_when_19 (by decide) (fun h9 => ?_) (fun h9 => ?_)
      · replace hf := zif_pos h9 hf
        refine z_iconst hX dX12_when_26 ci_0 ?_
        exact hk27 0 hf
      · replace hf := zif_neg h9 hf
        refine z_iconst hX dX12_when_22 ci_1 ?_
        refine z_goto hX 27 dX12_when_23 (by decide) ?_
        exact hk27 1 hf
set_option maxHeartbeats 4000000 in
set_option maxRecDepth 100000 in
theorem ct_X12_when {E : zE} {v1 : Int32} {v2 : Int32} {g : zM} {r : Int32 × zM} (hf : fX12_when v1 v2 g = some r) : zCt yX12_when cX12_when 3 (some .int) 8 0 E [.ref (E.1 + 493), .int v1, .int v2] g (.inl (some (.int r.1), r.2)) := by
  refine zmet (by decide) (zl rfl) (fun X hE hX hT hR hr hn => ?_)
  subst hE
  exact fX12_when_ok hX hT hR hr hn  hf
def fX12_soonest_L28 (v1 : Int32) : Nat → Int32 → Int32 → Int32 → zM → Option (Int32 × zM)
  | 0, _, _, _, _ => none
  | n + 1, v2, v3, v4, g => zb (fX12_letters g) (fun r_5 => if r_5 ≤ v4 then some (v2, g) else zb2 (fX12_whenOf v4 v1 g) (fun r_7 g7 => if r_7 < 0 then fX12_soonest_L28 v1 n v2 v3 (v4 + 1) g7 else if r_7 < v3 then fX12_soonest_L28 v1 n v4 r_7 (v4 + 1) g7 else fX12_soonest_L28 v1 n v2 v3 (v4 + 1) g7))
def fX12_soonest (v1 : Int32) (g : zM) : Option (Int32 × zM) := zput g 493 0 0 (fun g1 => zb (fX12_noPromise v1 g1) (fun r_2 => zb2 (fX12_throwsIf r_2 1 g1) (fun r_3 g3 => if r_3 = 0 then fX12_soonest_L28 v1 zFU ((-1)) 41 0 g3 else some (0, g3))))
set_option maxHeartbeats 4000000 in
set_option maxRecDepth 100000 in
theorem fX12_soonest_L28_ok {X : zX} (hX : zCX X cX12_soonest RX12) (hT : zNT X) (hR : X.2.2.2.1 = zrm 8 0) (hr : X.2.2.2.2.2.2.2.2.1.sig.returnType = (some .int)) (hn : X.2.2.2.2.2.2.2.2.2.1.maxLocals = 6) {v1 : Int32} {r : Int32 × zM}  : ∀ (n : Nat) (v2 : Int32) (v3 : Int32) (v4 : Int32) (g : zM), fX12_soonest_L28 v1 n v2 v3 v4 g = some r → zW X (zQ X (.inl (some (.int r.1), r.2)) 0) 0 0 28 [(0, .ref (zB X + 493)), (1, .int v1), (2, .int v2), (3, .int v3), (4, .int v4)] [] g := by
  intro n
  induction n with
  | zero => intro v2 v3 v4 g hf; exact zno hf
  | succ n ih =>
    intro v2 v3 v4 g hf
    rw [fX12_soonest_L28] at hf
    refine z_iload hX dX12_soonest_28 4 rfl ?_
    refine z_aload_n hX dX12_soonest_30 0 rfl ?_
    replace hf := zb_some hf
    obtain ⟨r_5, h5, hf⟩ := hf
    refine z_callV1 hX ok_X12_letters q1652 q1654 q43 (zrm_ok hR (by decide)) (ct_X12_letters  h5) (zrec_Model hX zq_493) dX12_soonest_31 rfl rfl ?_
    refine z_icmp_ge hX 72 dX12_soonest_34 (by decide) (fun h6 => ?_) (fun h6 => ?_)
    · replace hf := zif_pos h6 hf
      refine z_iload_n hX dX12_soonest_72 2 rfl ?_
      obtain rfl := Option.some.inj hf
      exact z_iret hX hr rfl (zl rfl) (zl rfl) dX12_soonest_73
    · replace hf := zif_neg h6 hf
      refine z_aload_n hX dX12_soonest_37 0 rfl ?_
      refine z_iload hX dX12_soonest_38 4 rfl ?_
      refine z_iload_n hX dX12_soonest_40 1 rfl ?_
      replace hf := zb2_some hf
      obtain ⟨r_7, g7, h7, hf⟩ := hf
      refine z_callV1 hX ok_X12_whenOf q2075 q2077 q104 (zrm_ok hR (by decide)) (ct_X12_whenOf  h7) (zrec_Model hX zq_493) dX12_soonest_41 rfl rfl ?_
      refine z_istore (lv' := [(5, .int r_7), (0, .ref (zB X + 493)), (1, .int v1), (2, .int v2), (3, .int v3), (4, .int v4)]) hX dX12_soonest_44 hn (by decide) rfl ?_
      refine z_iload hX dX12_soonest_46 0 rfl ?_
      refine z_if_lt hX 66 dX12_soonest_48 (by decide) (fun h8 => ?_) (fun h8 => ?_)
      · replace hf := zif_pos h8 hf
        refine z_iincc (lv' := [(4, .int (v4 + 1)), (5, .int r_7), (0, .ref (zB X + 493)), (1, .int v1), (2, .int v2), (3, .int v3)]) hX dX12_soonest_66 hn (by decide) 5 rfl ci_1 rfl ?_
        refine z_goto hX 28 dX12_soonest_69 (by decide) ?_
        refine zW.sub [2, 3, 4, 5, 0] rfl ?_
        exact ih v2 v3 (v4 + 1) g7 hf
      · replace hf := zif_neg h8 hf
        refine z_iload hX dX12_soonest_51 0 rfl ?_
        refine z_iload_n hX dX12_soonest_53 4 rfl ?_
        refine z_icmp_lt hX 60 dX12_soonest_54 (by decide) (fun h9 => ?_) (fun h9 => ?_)
        · replace hf := zif_pos h9 hf
          refine z_iload hX dX12_soonest_60 5 rfl ?_
          refine z_istore_n (lv' := [(2, .int v4), (5, .int r_7), (0, .ref (zB X + 493)), (1, .int v1), (3, .int v3), (4, .int v4)]) hX dX12_soonest_62 hn (by decide) rfl ?_
          refine z_iload hX dX12_soonest_63 1 rfl ?_
          refine z_istore_n (lv' := [(3, .int r_7), (2, .int v4), (5, .int r_7), (0, .ref (zB X + 493)), (1, .int v1), (4, .int v4)]) hX dX12_soonest_65 hn (by decide) rfl ?_
          refine z_iincc (lv' := [(4, .int (v4 + 1)), (3, .int r_7), (2, .int v4), (5, .int r_7), (0, .ref (zB X + 493)), (1, .int v1)]) hX dX12_soonest_66 hn (by decide) 5 rfl ci_1 rfl ?_
          refine z_goto hX 28 dX12_soonest_69 (by decide) ?_
          refine zW.sub [4, 5, 2, 1, 0] rfl ?_
          exact ih v4 r_7 (v4 + 1) g7 hf
        · replace hf := zif_neg h9 hf
          refine z_goto hX 66 dX12_soonest_57 (by decide) ?_
          refine z_iincc (lv' := [(4, .int (v4 + 1)), (5, .int r_7), (0, .ref (zB X + 493)), (1, .int v1), (2, .int v2), (3, .int v3)]) hX dX12_soonest_66 hn (by decide) 5 rfl ci_1 rfl ?_
          refine z_goto hX 28 dX12_soonest_69 (by decide) ?_
          refine zW.sub [2, 3, 4, 5, 0] rfl ?_
          exact ih v2 v3 (v4 + 1) g7 hf
set_option maxHeartbeats 4000000 in
set_option maxRecDepth 100000 in
theorem fX12_soonest_ok {X : zX} (hX : zCX X cX12_soonest RX12) (hT : zNT X) (hR : X.2.2.2.1 = zrm 8 0) (hr : X.2.2.2.2.2.2.2.2.1.sig.returnType = (some .int)) (hn : X.2.2.2.2.2.2.2.2.2.1.maxLocals = 6) {v1 : Int32} {g : zM} {r : Int32 × zM} (hf : fX12_soonest v1 g = some r) : zW X (zQ X (.inl (some (.int r.1), r.2)) 0) 0 0 0 [(0, .ref (zB X + 493)), (1, .int v1)] [] g := by
  unfold fX12_soonest at hf
  refine z_aload_n hX dX12_soonest_0 0 rfl ?_
  refine z_iconst hX dX12_soonest_1 ci_0 ?_
  replace hf := zput_some hf
  obtain ⟨g1, eg1, hf⟩ := hf
  refine gp_Model_thrown hX zq_493 q1494 dX12_soonest_2 (zW.eqg eg1 ?_)
  refine z_aload_n hX dX12_soonest_5 0 rfl ?_
  refine z_aload_n hX dX12_soonest_6 0 rfl ?_
  refine z_iload_n hX dX12_soonest_7 1 rfl ?_
  replace hf := zb_some hf
  obtain ⟨r_2, h2, hf⟩ := hf
  refine z_callV1 hX ok_X12_noPromise q1861 q1863 q82 (zrm_ok hR (by decide)) (ct_X12_noPromise  h2) (zrec_Model hX zq_493) dX12_soonest_8 rfl rfl ?_
  refine z_iconst hX dX12_soonest_11 ci_1 ?_
  replace hf := zb2_some hf
  obtain ⟨r_3, g3, h3, hf⟩ := hf
  refine z_callV1 hX ok_X12_throwsIf q1775 q1777 q67 (zrm_ok hR (by decide)) (ct_X12_throwsIf  h3) (zrec_Model hX zq_493) dX12_soonest_12 rfl rfl ?_
  refine z_if_eq hX 20 dX12_soonest_15 (by decide) (fun h4 => ?_) (fun h4 => ?_)
  · replace hf := zif_pos h4 hf
    refine z_iconst hX dX12_soonest_20 ci_m1 ?_
    refine z_istore_n (lv' := [(2, .int ((-1))), (0, .ref (zB X + 493)), (1, .int v1)]) hX dX12_soonest_21 hn (by decide) rfl ?_
    refine z_bipush hX dX12_soonest_22 cb_41 ?_
    refine z_istore_n (lv' := [(3, .int 41), (2, .int ((-1))), (0, .ref (zB X + 493)), (1, .int v1)]) hX dX12_soonest_24 hn (by decide) rfl ?_
    refine z_iconst hX dX12_soonest_25 ci_0 ?_
    refine z_istore (lv' := [(4, .int 0), (3, .int 41), (2, .int ((-1))), (0, .ref (zB X + 493)), (1, .int v1)]) hX dX12_soonest_26 hn (by decide) rfl ?_
    refine zW.sub [3, 4, 2, 1, 0] rfl ?_
    exact fX12_soonest_L28_ok hX hT hR hr hn  zFU ((-1)) 41 0 g3 hf
  · replace hf := zif_neg h4 hf
    refine z_iconst hX dX12_soonest_18 ci_0 ?_
    obtain rfl := Option.some.inj hf
    exact z_iret hX hr rfl (zl rfl) (zl rfl) dX12_soonest_19
set_option maxHeartbeats 4000000 in
set_option maxRecDepth 100000 in
theorem ct_X12_soonest {E : zE} {v1 : Int32} {g : zM} {r : Int32 × zM} (hf : fX12_soonest v1 g = some r) : zCt yX12_soonest cX12_soonest 6 (some .int) 8 0 E [.ref (E.1 + 493), .int v1] g (.inl (some (.int r.1), r.2)) := by
  refine zmet (by decide) (zl rfl) (fun X hE hX hT hR hr hn => ?_)
  subst hE
  exact fX12_soonest_ok hX hT hR hr hn  hf
def fX12_ripe_L33 (v2 : Int32) (k82 : Int32 → Int32 → zM → Option (Int32 × zM)) : Nat → Int32 → Int32 → Int32 → zM → Option (Int32 × zM)
  | 0, _, _, _, _ => none
  | n + 1, v3, v4, v5, g => if 40 < v5 then k82 v3 v4 g else zb (fX12_boundNow g) (fun r_7 => zb (fJ6_bitCount_0f7a4 r_7 g) (fun r_8 => if r_8 ≤ v4 then zb (fX12_goesOn g) (fun g10 => fX12_ripe_L33 v2 k82 n v3 (if v4 < r_8 then r_8 else v4) (v5 + 1) g10) else zb (fX12_goesOn g) (fun g11 => fX12_ripe_L33 v2 k82 n v5 (if v4 < r_8 then r_8 else v4) (v5 + 1) g11)))
def fX12_ripe (v1 : Int32) (v2 : Int32) (g : zM) : Option (Int32 × zM) := zput g 493 0 0 (fun g1 => zb (fX12_noLetter v1 g1) (fun r_2 => zb2 (fX12_throwsIf r_2 1 g1) (fun r_3 g3 => if r_3 = 0 then zb (fX12_looksAt v1 g3) (fun g5 => fX12_ripe_L33 v2 (fun v3_12 v4_12 g12 => if v2 = 0 then some (v3_12, g12) else some (v4_12, g12)) zFU 0 ((-1)) 0 g5) else some (0, g3))))
set_option maxHeartbeats 4000000 in
set_option maxRecDepth 100000 in
theorem fX12_ripe_L33_ok {X : zX} (hX : zCX X cX12_ripe RX12) (hT : zNT X) (hR : X.2.2.2.1 = zrm 7 0) (hr : X.2.2.2.2.2.2.2.2.1.sig.returnType = (some .int)) (hn : X.2.2.2.2.2.2.2.2.2.1.maxLocals = 7) {v2 : Int32} {k82 : Int32 → Int32 → zM → Option (Int32 × zM)} {r : Int32 × zM} (hk82 : ∀ (v3 : Int32) (v4 : Int32) (g : zM), k82 v3 v4 g = some r → zW X (zQ X (.inl (some (.int r.1), r.2)) 0) 0 0 82 [(2, .int v2), (3, .int v3), (4, .int v4)] [] g) : ∀ (n : Nat) (v3 : Int32) (v4 : Int32) (v5 : Int32) (g : zM), fX12_ripe_L33 v2 k82 n v3 v4 v5 g = some r → zW X (zQ X (.inl (some (.int r.1), r.2)) 0) 0 0 33 [(0, .ref (zB X + 493)), (2, .int v2), (3, .int v3), (4, .int v4), (5, .int v5)] [] g := by
  intro n
  induction n with
  | zero => intro v3 v4 v5 g hf; exact zno hf
  | succ n ih =>
    intro v3 v4 v5 g hf
    rw [fX12_ripe_L33] at hf
    refine z_iload hX dX12_ripe_33 4 rfl ?_
    refine z_bipush hX dX12_ripe_35 cb_40 ?_
    refine z_icmp_gt hX 82 dX12_ripe_37 (by decide) (fun h6 => ?_) (fun h6 => ?_)
    · replace hf := zif_pos h6 hf
      refine zW.sub [1, 2, 3] rfl ?_
      exact hk82 v3 v4 g hf
    · replace hf := zif_neg h6 hf
      refine z_aload_n hX dX12_ripe_40 0 rfl ?_
      replace hf := zb_some hf
      obtain ⟨r_7, h7, hf⟩ := hf
      refine z_callV1 hX ok_X12_boundNow q2063 q2065 q102 (zrm_ok hR (by decide)) (ct_X12_boundNow  h7) (zrec_Model hX zq_493) dX12_ripe_41 rfl rfl ?_
      replace hf := zb_some hf
      obtain ⟨r_8, h8, hf⟩ := hf
      refine z_callJ1 hX ok_J6_bitCount_0f7a4 q2017 q1373 (zrm_ok hR (by decide)) (ct_J6_bitCount_0f7a4  h8) dX12_ripe_44 rfl rfl ?_
      refine z_istore (lv' := [(6, .int r_8), (0, .ref (zB X + 493)), (2, .int v2), (3, .int v3), (4, .int v4), (5, .int v5)]) hX dX12_ripe_47 hn (by decide) rfl ?_
      refine z_iload hX dX12_ripe_49 0 rfl ?_
      refine z_iload hX dX12_ripe_51 4 rfl ?_
      refine z_icmp_le hX 61 dX12_ripe_53 (by decide) (fun h9 => ?_) (fun h9 => ?_)
      · replace hf := zif_pos h9 hf
        refine z_iload_n hX dX12_ripe_61 3 rfl ?_
        refine z_istore_n (lv' := [(3, .int v3), (6, .int r_8), (0, .ref (zB X + 493)), (2, .int v2), (4, .int v4), (5, .int v5)]) hX dX12_ripe_62 hn (by decide) rfl ?_
        refine z_iload hX dX12_ripe_63 4 rfl ?_
        refine z_iload hX dX12_ripe_65 1 rfl ?_
        refine z_max hX hR ⟨zl rfl, zl rfl⟩ q2050 dX12_ripe_67 (zl rfl) ?_
        refine z_istore (lv' := [(4, .int (if v4 < r_8 then r_8 else v4)), (3, .int v3), (6, .int r_8), (0, .ref (zB X + 493)), (2, .int v2), (5, .int v5)]) hX dX12_ripe_70 hn (by decide) rfl ?_
        refine z_aload_n hX dX12_ripe_72 3 rfl ?_
        replace hf := zb_some hf
        obtain ⟨g10, h10, hf⟩ := hf
        refine z_callV0 hX ok_X12_goesOn q1945 q1947 q91 (zrm_ok hR (by decide)) (ct_X12_goesOn  h10) (zrec_Model hX zq_493) dX12_ripe_73 rfl rfl ?_
        refine z_iincc (lv' := [(5, .int (v5 + 1)), (4, .int (if v4 < r_8 then r_8 else v4)), (3, .int v3), (6, .int r_8), (0, .ref (zB X + 493)), (2, .int v2)]) hX dX12_ripe_76 hn (by decide) 5 rfl ci_1 rfl ?_
        refine z_goto hX 33 dX12_ripe_79 (by decide) ?_
        refine zW.sub [4, 5, 2, 1, 0] rfl ?_
        exact ih v3 (if v4 < r_8 then r_8 else v4) (v5 + 1) g10 hf
      · replace hf := zif_neg h9 hf
        refine z_iload hX dX12_ripe_56 5 rfl ?_
        refine z_goto hX 62 dX12_ripe_58 (by decide) ?_
        refine z_istore_n (lv' := [(3, .int v5), (6, .int r_8), (0, .ref (zB X + 493)), (2, .int v2), (4, .int v4), (5, .int v5)]) hX dX12_ripe_62 hn (by decide) rfl ?_
        refine z_iload hX dX12_ripe_63 4 rfl ?_
        refine z_iload hX dX12_ripe_65 1 rfl ?_
        refine z_max hX hR ⟨zl rfl, zl rfl⟩ q2050 dX12_ripe_67 (zl rfl) ?_
        refine z_istore (lv' := [(4, .int (if v4 < r_8 then r_8 else v4)), (3, .int v5), (6, .int r_8), (0, .ref (zB X + 493)), (2, .int v2), (5, .int v5)]) hX dX12_ripe_70 hn (by decide) rfl ?_
        refine z_aload_n hX dX12_ripe_72 3 rfl ?_
        replace hf := zb_some hf
        obtain ⟨g11, h11, hf⟩ := hf
        refine z_callV0 hX ok_X12_goesOn q1945 q1947 q91 (zrm_ok hR (by decide)) (ct_X12_goesOn  h11) (zrec_Model hX zq_493) dX12_ripe_73 rfl rfl ?_
        refine z_iincc (lv' := [(5, .int (v5 + 1)), (4, .int (if v4 < r_8 then r_8 else v4)), (3, .int v5), (6, .int r_8), (0, .ref (zB X + 493)), (2, .int v2)]) hX dX12_ripe_76 hn (by decide) 5 rfl ci_1 rfl ?_
        refine z_goto hX 33 dX12_ripe_79 (by decide) ?_
        refine zW.sub [4, 5, 2, 1, 0] rfl ?_
        exact ih v5 (if v4 < r_8 then r_8 else v4) (v5 + 1) g11 hf
set_option maxHeartbeats 4000000 in
set_option maxRecDepth 100000 in
theorem fX12_ripe_ok {X : zX} (hX : zCX X cX12_ripe RX12) (hT : zNT X) (hR : X.2.2.2.1 = zrm 7 0) (hr : X.2.2.2.2.2.2.2.2.1.sig.returnType = (some .int)) (hn : X.2.2.2.2.2.2.2.2.2.1.maxLocals = 7) {v1 : Int32} {v2 : Int32} {g : zM} {r : Int32 × zM} (hf : fX12_ripe v1 v2 g = some r) : zW X (zQ X (.inl (some (.int r.1), r.2)) 0) 0 0 0 [(0, .ref (zB X + 493)), (1, .int v1), (2, .int v2)] [] g := by
  unfold fX12_ripe at hf
  refine z_aload_n hX dX12_ripe_0 0 rfl ?_
  refine z_iconst hX dX12_ripe_1 ci_0 ?_
  replace hf := zput_some hf
  obtain ⟨g1, eg1, hf⟩ := hf
  refine gp_Model_thrown hX zq_493 q1494 dX12_ripe_2 (zW.eqg eg1 ?_)
  refine z_aload_n hX dX12_ripe_5 0 rfl ?_
  refine z_aload_n hX dX12_ripe_6 0 rfl ?_
  refine z_iload_n hX dX12_ripe_7 1 rfl ?_
  replace hf := zb_some hf
  obtain ⟨r_2, h2, hf⟩ := hf
  refine z_callV1 hX ok_X12_noLetter q1787 q1789 q68 (zrm_ok hR (by decide)) (ct_X12_noLetter  h2) (zrec_Model hX zq_493) dX12_ripe_8 rfl rfl ?_
  refine z_iconst hX dX12_ripe_11 ci_1 ?_
  replace hf := zb2_some hf
  obtain ⟨r_3, g3, h3, hf⟩ := hf
  refine z_callV1 hX ok_X12_throwsIf q1775 q1777 q67 (zrm_ok hR (by decide)) (ct_X12_throwsIf  h3) (zrec_Model hX zq_493) dX12_ripe_12 rfl rfl ?_
  refine z_if_eq hX 20 dX12_ripe_15 (by decide) (fun h4 => ?_) (fun h4 => ?_)
  · replace hf := zif_pos h4 hf
    refine z_aload_n hX dX12_ripe_20 0 rfl ?_
    refine z_iload_n hX dX12_ripe_21 1 rfl ?_
    replace hf := zb_some hf
    obtain ⟨g5, h5, hf⟩ := hf
    refine z_callV0 hX ok_X12_looksAt q1791 q1793 q69 (zrm_ok hR (by decide)) (ct_X12_looksAt  h5) (zrec_Model hX zq_493) dX12_ripe_22 rfl rfl ?_
    refine z_iconst hX dX12_ripe_25 ci_0 ?_
    refine z_istore_n (lv' := [(3, .int 0), (0, .ref (zB X + 493)), (1, .int v1), (2, .int v2)]) hX dX12_ripe_26 hn (by decide) rfl ?_
    refine z_iconst hX dX12_ripe_27 ci_m1 ?_
    refine z_istore (lv' := [(4, .int ((-1))), (3, .int 0), (0, .ref (zB X + 493)), (1, .int v1), (2, .int v2)]) hX dX12_ripe_28 hn (by decide) rfl ?_
    refine z_iconst hX dX12_ripe_30 ci_0 ?_
    refine z_istore (lv' := [(5, .int 0), (4, .int ((-1))), (3, .int 0), (0, .ref (zB X + 493)), (1, .int v1), (2, .int v2)]) hX dX12_ripe_31 hn (by decide) rfl ?_
    refine zW.sub [3, 5, 2, 1, 0] rfl ?_
    refine fX12_ripe_L33_ok hX hT hR hr hn (fun v3_12 v4_12 g12 hf => ?_) zFU 0 ((-1)) 0 g5 hf
    · refine z_iload_n hX dX12_ripe_82 0 rfl ?_
      refine z_if_eq hX 91 dX12_ripe_83 (by decide) (fun h13 => ?_) (fun h13 => ?_)
      · replace hf := zif_pos h13 hf
        refine z_iload_n hX dX12_ripe_91 1 rfl ?_
        obtain rfl := Option.some.inj hf
        exact z_iret hX hr rfl (zl rfl) (zl rfl) dX12_ripe_92
      · replace hf := zif_neg h13 hf
        refine z_iload hX dX12_ripe_86 2 rfl ?_
        refine z_goto hX 92 dX12_ripe_88 (by decide) ?_
        obtain rfl := Option.some.inj hf
        exact z_iret hX hr rfl (zl rfl) (zl rfl) dX12_ripe_92
  · replace hf := zif_neg h4 hf
    refine z_iconst hX dX12_ripe_18 ci_0 ?_
    obtain rfl := Option.some.inj hf
    exact z_iret hX hr rfl (zl rfl) (zl rfl) dX12_ripe_19
set_option maxHeartbeats 4000000 in
set_option maxRecDepth 100000 in
theorem ct_X12_ripe {E : zE} {v1 : Int32} {v2 : Int32} {g : zM} {r : Int32 × zM} (hf : fX12_ripe v1 v2 g = some r) : zCt yX12_ripe cX12_ripe 7 (some .int) 7 0 E [.ref (E.1 + 493), .int v1, .int v2] g (.inl (some (.int r.1), r.2)) := by
  refine zmet (by decide) (zl rfl) (fun X hE hX hT hR hr hn => ?_)
  subst hE
  exact fX12_ripe_ok hX hT hR hr hn  hf
def fX12_spies_L9 (v1 : Int32) : Nat → Int32 → Int32 → zM → Option (Int32 × zM)
  | 0, _, _, _ => none
  | n + 1, v2, v3, g => zb (fX12_letters g) (fun r_2 => if r_2 ≤ v3 then some (v2, g) else zb (fX12_looksAt v3 g) (fun g4 => zb (fX12_wordsNow g4) (fun r_5 => if r_5 = v1 then fX12_spies_L9 v1 n (v2 ||| ((1 : Int32) <<< (v3 &&& 31))) (v3 + 1) g4 else fX12_spies_L9 v1 n (v2 ||| 0) (v3 + 1) g4)))
def fX12_spies (v1 : Int32) (g : zM) : Option (Int32 × zM) := zput g 493 0 0 (fun g1 => fX12_spies_L9 v1 zFU 0 0 g1)
set_option maxHeartbeats 4000000 in
set_option maxRecDepth 100000 in
theorem fX12_spies_L9_ok {X : zX} (hX : zCX X cX12_spies RX12) (hT : zNT X) (hR : X.2.2.2.1 = zrm 4 0) (hr : X.2.2.2.2.2.2.2.2.1.sig.returnType = (some .int)) (hn : X.2.2.2.2.2.2.2.2.2.1.maxLocals = 4) {v1 : Int32} {r : Int32 × zM}  : ∀ (n : Nat) (v2 : Int32) (v3 : Int32) (g : zM), fX12_spies_L9 v1 n v2 v3 g = some r → zW X (zQ X (.inl (some (.int r.1), r.2)) 0) 0 0 9 [(0, .ref (zB X + 493)), (1, .int v1), (2, .int v2), (3, .int v3)] [] g := by
  intro n
  induction n with
  | zero => intro v2 v3 g hf; exact zno hf
  | succ n ih =>
    intro v2 v3 g hf
    rw [fX12_spies_L9] at hf
    refine z_iload_n hX dX12_spies_9 3 rfl ?_
    refine z_aload_n hX dX12_spies_10 0 rfl ?_
    replace hf := zb_some hf
    obtain ⟨r_2, h2, hf⟩ := hf
    refine z_callV1 hX ok_X12_letters q1652 q1654 q43 (zrm_ok hR (by decide)) (ct_X12_letters  h2) (zrec_Model hX zq_493) dX12_spies_11 rfl rfl ?_
    refine z_icmp_ge hX 46 dX12_spies_14 (by decide) (fun h3 => ?_) (fun h3 => ?_)
    · replace hf := zif_pos h3 hf
      refine z_iload_n hX dX12_spies_46 2 rfl ?_
      obtain rfl := Option.some.inj hf
      exact z_iret hX hr rfl (zl rfl) (zl rfl) dX12_spies_47
    · replace hf := zif_neg h3 hf
      refine z_aload_n hX dX12_spies_17 0 rfl ?_
      refine z_iload_n hX dX12_spies_18 3 rfl ?_
      replace hf := zb_some hf
      obtain ⟨g4, h4, hf⟩ := hf
      refine z_callV0 hX ok_X12_looksAt q1791 q1793 q69 (zrm_ok hR (by decide)) (ct_X12_looksAt  h4) (zrec_Model hX zq_493) dX12_spies_19 rfl rfl ?_
      refine z_iload_n hX dX12_spies_22 2 rfl ?_
      refine z_aload_n hX dX12_spies_23 0 rfl ?_
      replace hf := zb_some hf
      obtain ⟨r_5, h5, hf⟩ := hf
      refine z_callV1 hX ok_X12_wordsNow q1803 q1805 q72 (zrm_ok hR (by decide)) (ct_X12_wordsNow  h5) (zrec_Model hX zq_493) dX12_spies_24 rfl rfl ?_
      refine z_iload_n hX dX12_spies_27 1 rfl ?_
      refine z_icmp_ne hX 37 dX12_spies_28 (by decide) (fun h6 => ?_) (fun h6 => ?_)
      · replace hf := zif_neg h6 hf
        refine z_iconst hX dX12_spies_37 ci_0 ?_
        refine z_ior hX dX12_spies_38 ?_
        refine z_istore_n (lv' := [(2, .int (v2 ||| 0)), (0, .ref (zB X + 493)), (1, .int v1), (3, .int v3)]) hX dX12_spies_39 hn (by decide) rfl ?_
        refine z_iincc (lv' := [(3, .int (v3 + 1)), (2, .int (v2 ||| 0)), (0, .ref (zB X + 493)), (1, .int v1)]) hX dX12_spies_40 hn (by decide) 3 rfl ci_1 rfl ?_
        refine z_goto hX 9 dX12_spies_43 (by decide) ?_
        refine zW.sub [2, 3, 1, 0] rfl ?_
        exact ih (v2 ||| 0) (v3 + 1) g4 hf
      · replace hf := zif_pos h6 hf
        refine z_iconst hX dX12_spies_31 ci_1 ?_
        refine z_iload_n hX dX12_spies_32 3 rfl ?_
        refine z_ishl hX dX12_spies_33 ?_
        refine z_goto hX 38 dX12_spies_34 (by decide) ?_
        refine z_ior hX dX12_spies_38 ?_
        refine z_istore_n (lv' := [(2, .int (v2 ||| ((1 : Int32) <<< (v3 &&& 31)))), (0, .ref (zB X + 493)), (1, .int v1), (3, .int v3)]) hX dX12_spies_39 hn (by decide) rfl ?_
        refine z_iincc (lv' := [(3, .int (v3 + 1)), (2, .int (v2 ||| ((1 : Int32) <<< (v3 &&& 31)))), (0, .ref (zB X + 493)), (1, .int v1)]) hX dX12_spies_40 hn (by decide) 3 rfl ci_1 rfl ?_
        refine z_goto hX 9 dX12_spies_43 (by decide) ?_
        refine zW.sub [2, 3, 1, 0] rfl ?_
        exact ih (v2 ||| ((1 : Int32) <<< (v3 &&& 31))) (v3 + 1) g4 hf
set_option maxHeartbeats 4000000 in
set_option maxRecDepth 100000 in
theorem fX12_spies_ok {X : zX} (hX : zCX X cX12_spies RX12) (hT : zNT X) (hR : X.2.2.2.1 = zrm 4 0) (hr : X.2.2.2.2.2.2.2.2.1.sig.returnType = (some .int)) (hn : X.2.2.2.2.2.2.2.2.2.1.maxLocals = 4) {v1 : Int32} {g : zM} {r : Int32 × zM} (hf : fX12_spies v1 g = some r) : zW X (zQ X (.inl (some (.int r.1), r.2)) 0) 0 0 0 [(0, .ref (zB X + 493)), (1, .int v1)] [] g := by
  unfold fX12_spies at hf
  refine z_aload_n hX dX12_spies_0 0 rfl ?_
  refine z_iconst hX dX12_spies_1 ci_0 ?_
  replace hf := zput_some hf
  obtain ⟨g1, eg1, hf⟩ := hf
  refine gp_Model_thrown hX zq_493 q1494 dX12_spies_2 (zW.eqg eg1 ?_)
  refine z_iconst hX dX12_spies_5 ci_0 ?_
  refine z_istore_n (lv' := [(2, .int 0), (0, .ref (zB X + 493)), (1, .int v1)]) hX dX12_spies_6 hn (by decide) rfl ?_
  refine z_iconst hX dX12_spies_7 ci_0 ?_
  refine z_istore_n (lv' := [(3, .int 0), (2, .int 0), (0, .ref (zB X + 493)), (1, .int v1)]) hX dX12_spies_8 hn (by decide) rfl ?_
  refine zW.sub [2, 3, 1, 0] rfl ?_
  exact fX12_spies_L9_ok hX hT hR hr hn  zFU 0 0 g1 hf
set_option maxHeartbeats 4000000 in
set_option maxRecDepth 100000 in
theorem ct_X12_spies {E : zE} {v1 : Int32} {g : zM} {r : Int32 × zM} (hf : fX12_spies v1 g = some r) : zCt yX12_spies cX12_spies 4 (some .int) 4 0 E [.ref (E.1 + 493), .int v1] g (.inl (some (.int r.1), r.2)) := by
  refine zmet (by decide) (zl rfl) (fun X hE hX hT hR hr hn => ?_)
  subst hE
  exact fX12_spies_ok hX hT hR hr hn  hf
def fX12_guess_L29 (g : zM) : Nat → Int32 → Int32 → Option (Int32 × zM)
  | 0, _, _ => none
  | n + 1, v2, v3 => if 12 ≤ v3 then some (v2, g) else zchk (8 + v3) 2158 (zb (fX12_last g) (fun r_8 => zchk (8 + r_8) 2158 (if (g 494 (8 + v3).toNatClampNeg) = (g 494 (8 + r_8).toNatClampNeg) then fX12_guess_L29 g n (v2 ||| ((1 : Int32) <<< (v3 &&& 31))) (v3 + 1) else fX12_guess_L29 g n (v2 ||| 0) (v3 + 1))))
def fX12_guess (v1 : Int32) (g : zM) : Option (Int32 × zM) := zput g 493 0 0 (fun g1 => zb (fX12_noLetter v1 g1) (fun r_2 => zb2 (fX12_throwsIf r_2 1 g1) (fun r_3 g3 => if r_3 = 0 then zb (fX12_looksAt v1 g3) (fun g5 => fX12_guess_L29 g5 zFU 0 0) else some (0, g3))))
set_option maxHeartbeats 4000000 in
set_option maxRecDepth 100000 in
theorem fX12_guess_L29_ok {X : zX} (hX : zCX X cX12_guess RX12) (hT : zNT X) (hR : X.2.2.2.1 = zrm 4 0) (hr : X.2.2.2.2.2.2.2.2.1.sig.returnType = (some .int)) (hn : X.2.2.2.2.2.2.2.2.2.1.maxLocals = 4) {g : zM} {r : Int32 × zM}  : ∀ (n : Nat) (v2 : Int32) (v3 : Int32), fX12_guess_L29 g n v2 v3 = some r → zW X (zQ X (.inl (some (.int r.1), r.2)) 0) 0 0 29 [(0, .ref (zB X + 493)), (2, .int v2), (3, .int v3)] [] g := by
  intro n
  induction n with
  | zero => intro v2 v3 hf; exact zno hf
  | succ n ih =>
    intro v2 v3 hf
    rw [fX12_guess_L29] at hf
    refine z_iload_n hX dX12_guess_29 2 rfl ?_
    refine z_bipush hX dX12_guess_30 cb_12 ?_
    refine z_icmp_ge hX 75 dX12_guess_32 (by decide) (fun h6 => ?_) (fun h6 => ?_)
    · replace hf := zif_pos h6 hf
      refine z_iload_n hX dX12_guess_75 1 rfl ?_
      obtain rfl := Option.some.inj hf
      exact z_iret hX hr rfl (zl rfl) (zl rfl) dX12_guess_76
    · replace hf := zif_neg h6 hf
      refine z_iload_n hX dX12_guess_35 1 rfl ?_
      refine z_aload_n hX dX12_guess_36 0 rfl ?_
      refine gf_Model_world hX zq_493 q1495 dX12_guess_37 ?_
      refine z_bipush hX dX12_guess_40 cb_8 ?_
      refine z_iload_n hX dX12_guess_42 2 rfl ?_
      refine z_iadd hX dX12_guess_43 ?_
      replace hf := zchk_some hf
      obtain ⟨h7, hf⟩ := hf
      refine z_iald hX zq_494 (by decide) (zc_3158 _ _ _) h7 dX12_guess_44 ?_
      refine z_aload_n hX dX12_guess_45 0 rfl ?_
      refine gf_Model_world hX zq_493 q1495 dX12_guess_46 ?_
      refine z_bipush hX dX12_guess_49 cb_8 ?_
      refine z_aload_n hX dX12_guess_51 0 rfl ?_
      replace hf := zb_some hf
      obtain ⟨r_8, h8, hf⟩ := hf
      refine z_callV1 hX ok_X12_last q1807 q1809 q73 (zrm_ok hR (by decide)) (ct_X12_last  h8) (zrec_Model hX zq_493) dX12_guess_52 rfl rfl ?_
      refine z_iadd hX dX12_guess_55 ?_
      replace hf := zchk_some hf
      obtain ⟨h9, hf⟩ := hf
      refine z_iald hX zq_494 (by decide) (zc_3158 _ _ _) h9 dX12_guess_56 ?_
      refine z_icmp_ne hX 66 dX12_guess_57 (by decide) (fun h10 => ?_) (fun h10 => ?_)
      · replace hf := zif_neg h10 hf
        refine z_iconst hX dX12_guess_66 ci_0 ?_
        refine z_ior hX dX12_guess_67 ?_
        refine z_istore_n (lv' := [(2, .int (v2 ||| 0)), (0, .ref (zB X + 493)), (3, .int v3)]) hX dX12_guess_68 hn (by decide) rfl ?_
        refine z_iincc (lv' := [(3, .int (v3 + 1)), (2, .int (v2 ||| 0)), (0, .ref (zB X + 493))]) hX dX12_guess_69 hn (by decide) 2 rfl ci_1 rfl ?_
        refine z_goto hX 29 dX12_guess_72 (by decide) ?_
        refine zW.sub [2, 1, 0] rfl ?_
        exact ih (v2 ||| 0) (v3 + 1) hf
      · replace hf := zif_pos h10 hf
        refine z_iconst hX dX12_guess_60 ci_1 ?_
        refine z_iload_n hX dX12_guess_61 2 rfl ?_
        refine z_ishl hX dX12_guess_62 ?_
        refine z_goto hX 67 dX12_guess_63 (by decide) ?_
        refine z_ior hX dX12_guess_67 ?_
        refine z_istore_n (lv' := [(2, .int (v2 ||| ((1 : Int32) <<< (v3 &&& 31)))), (0, .ref (zB X + 493)), (3, .int v3)]) hX dX12_guess_68 hn (by decide) rfl ?_
        refine z_iincc (lv' := [(3, .int (v3 + 1)), (2, .int (v2 ||| ((1 : Int32) <<< (v3 &&& 31)))), (0, .ref (zB X + 493))]) hX dX12_guess_69 hn (by decide) 2 rfl ci_1 rfl ?_
        refine z_goto hX 29 dX12_guess_72 (by decide) ?_
        refine zW.sub [2, 1, 0] rfl ?_
        exact ih (v2 ||| ((1 : Int32) <<< (v3 &&& 31))) (v3 + 1) hf
set_option maxHeartbeats 4000000 in
set_option maxRecDepth 100000 in
theorem fX12_guess_ok {X : zX} (hX : zCX X cX12_guess RX12) (hT : zNT X) (hR : X.2.2.2.1 = zrm 4 0) (hr : X.2.2.2.2.2.2.2.2.1.sig.returnType = (some .int)) (hn : X.2.2.2.2.2.2.2.2.2.1.maxLocals = 4) {v1 : Int32} {g : zM} {r : Int32 × zM} (hf : fX12_guess v1 g = some r) : zW X (zQ X (.inl (some (.int r.1), r.2)) 0) 0 0 0 [(0, .ref (zB X + 493)), (1, .int v1)] [] g := by
  unfold fX12_guess at hf
  refine z_aload_n hX dX12_guess_0 0 rfl ?_
  refine z_iconst hX dX12_guess_1 ci_0 ?_
  replace hf := zput_some hf
  obtain ⟨g1, eg1, hf⟩ := hf
  refine gp_Model_thrown hX zq_493 q1494 dX12_guess_2 (zW.eqg eg1 ?_)
  refine z_aload_n hX dX12_guess_5 0 rfl ?_
  refine z_aload_n hX dX12_guess_6 0 rfl ?_
  refine z_iload_n hX dX12_guess_7 1 rfl ?_
  replace hf := zb_some hf
  obtain ⟨r_2, h2, hf⟩ := hf
  refine z_callV1 hX ok_X12_noLetter q1787 q1789 q68 (zrm_ok hR (by decide)) (ct_X12_noLetter  h2) (zrec_Model hX zq_493) dX12_guess_8 rfl rfl ?_
  refine z_iconst hX dX12_guess_11 ci_1 ?_
  replace hf := zb2_some hf
  obtain ⟨r_3, g3, h3, hf⟩ := hf
  refine z_callV1 hX ok_X12_throwsIf q1775 q1777 q67 (zrm_ok hR (by decide)) (ct_X12_throwsIf  h3) (zrec_Model hX zq_493) dX12_guess_12 rfl rfl ?_
  refine z_if_eq hX 20 dX12_guess_15 (by decide) (fun h4 => ?_) (fun h4 => ?_)
  · replace hf := zif_pos h4 hf
    refine z_aload_n hX dX12_guess_20 0 rfl ?_
    refine z_iload_n hX dX12_guess_21 1 rfl ?_
    replace hf := zb_some hf
    obtain ⟨g5, h5, hf⟩ := hf
    refine z_callV0 hX ok_X12_looksAt q1791 q1793 q69 (zrm_ok hR (by decide)) (ct_X12_looksAt  h5) (zrec_Model hX zq_493) dX12_guess_22 rfl rfl ?_
    refine z_iconst hX dX12_guess_25 ci_0 ?_
    refine z_istore_n (lv' := [(2, .int 0), (0, .ref (zB X + 493)), (1, .int v1)]) hX dX12_guess_26 hn (by decide) rfl ?_
    refine z_iconst hX dX12_guess_27 ci_0 ?_
    refine z_istore_n (lv' := [(3, .int 0), (2, .int 0), (0, .ref (zB X + 493)), (1, .int v1)]) hX dX12_guess_28 hn (by decide) rfl ?_
    refine zW.sub [2, 1, 0] rfl ?_
    exact fX12_guess_L29_ok hX hT hR hr hn  zFU 0 0 hf
  · replace hf := zif_neg h4 hf
    refine z_iconst hX dX12_guess_18 ci_0 ?_
    obtain rfl := Option.some.inj hf
    exact z_iret hX hr rfl (zl rfl) (zl rfl) dX12_guess_19
set_option maxHeartbeats 4000000 in
set_option maxRecDepth 100000 in
theorem ct_X12_guess {E : zE} {v1 : Int32} {g : zM} {r : Int32 × zM} (hf : fX12_guess v1 g = some r) : zCt yX12_guess cX12_guess 4 (some .int) 4 0 E [.ref (E.1 + 493), .int v1] g (.inl (some (.int r.1), r.2)) := by
  refine zmet (by decide) (zl rfl) (fun X hE hX hT hR hr hn => ?_)
  subst hE
  exact fX12_guess_ok hX hT hR hr hn  hf
def fX12_postageOf (v1 : Int32) (v2 : Int32) (g : zM) : Option (Int32 × zM) := zb (fX12_looksAhead v1 v2 g) (fun g1 => zb (fX12_wordsNow g1) (fun r_2 => zb (fX12_boundNow g1) (fun r_3 => zb (fJ6_bitCount_0f7a4 r_3 g1) (fun r_4 => some (((r_2 + 9) / 10) + (2 * r_4), g1)))))
set_option maxHeartbeats 4000000 in
set_option maxRecDepth 100000 in
theorem fX12_postageOf_ok {X : zX} (hX : zCX X cX12_postageOf RX12) (hT : zNT X) (hR : X.2.2.2.1 = zrm 9 0) (hr : X.2.2.2.2.2.2.2.2.1.sig.returnType = (some .int)) (hn : X.2.2.2.2.2.2.2.2.2.1.maxLocals = 3) {v1 : Int32} {v2 : Int32} {g : zM} {r : Int32 × zM} (hf : fX12_postageOf v1 v2 g = some r) : zW X (zQ X (.inl (some (.int r.1), r.2)) 0) 0 0 0 [(0, .ref (zB X + 493)), (1, .int v1), (2, .int v2)] [] g := by
  unfold fX12_postageOf at hf
  refine z_aload_n hX dX12_postageOf_0 0 rfl ?_
  refine z_iload_n hX dX12_postageOf_1 1 rfl ?_
  refine z_iload_n hX dX12_postageOf_2 2 rfl ?_
  replace hf := zb_some hf
  obtain ⟨g1, h1, hf⟩ := hf
  refine z_callV0 hX ok_X12_looksAhead q1937 q1939 q89 (zrm_ok hR (by decide)) (ct_X12_looksAhead  h1) (zrec_Model hX zq_493) dX12_postageOf_3 rfl rfl ?_
  refine z_aload_n hX dX12_postageOf_6 0 rfl ?_
  replace hf := zb_some hf
  obtain ⟨r_2, h2, hf⟩ := hf
  refine z_callV1 hX ok_X12_wordsNow q1803 q1805 q72 (zrm_ok hR (by decide)) (ct_X12_wordsNow  h2) (zrec_Model hX zq_493) dX12_postageOf_7 rfl rfl ?_
  refine z_bipush hX dX12_postageOf_10 cb_9 ?_
  refine z_iadd hX dX12_postageOf_12 ?_
  refine z_bipush hX dX12_postageOf_13 cb_10 ?_
  refine z_idiv hX dX12_postageOf_15 (by decide) ?_
  refine z_iconst hX dX12_postageOf_16 ci_2 ?_
  refine z_aload_n hX dX12_postageOf_17 0 rfl ?_
  replace hf := zb_some hf
  obtain ⟨r_3, h3, hf⟩ := hf
  refine z_callV1 hX ok_X12_boundNow q2063 q2065 q102 (zrm_ok hR (by decide)) (ct_X12_boundNow  h3) (zrec_Model hX zq_493) dX12_postageOf_18 rfl rfl ?_
  replace hf := zb_some hf
  obtain ⟨r_4, h4, hf⟩ := hf
  refine z_callJ1 hX ok_J6_bitCount_0f7a4 q2017 q1373 (zrm_ok hR (by decide)) (ct_J6_bitCount_0f7a4  h4) dX12_postageOf_21 rfl rfl ?_
  refine z_imul hX dX12_postageOf_24 ?_
  refine z_iadd hX dX12_postageOf_25 ?_
  obtain rfl := Option.some.inj hf
  exact z_iret hX hr rfl (zl rfl) (zl rfl) dX12_postageOf_26
set_option maxHeartbeats 4000000 in
set_option maxRecDepth 100000 in
theorem ct_X12_postageOf {E : zE} {v1 : Int32} {v2 : Int32} {g : zM} {r : Int32 × zM} (hf : fX12_postageOf v1 v2 g = some r) : zCt yX12_postageOf cX12_postageOf 3 (some .int) 9 0 E [.ref (E.1 + 493), .int v1, .int v2] g (.inl (some (.int r.1), r.2)) := by
  refine zmet (by decide) (zl rfl) (fun X hE hX hT hR hr hn => ?_)
  subst hE
  exact fX12_postageOf_ok hX hT hR hr hn  hf
def fX12_postage (v1 : Int32) (v2 : Int32) (v3 : Int32) (g : zM) : Option (Int32 × zM) := zput g 493 0 0 (fun g1 => zb (fX12_noLetter v1 g1) (fun r_2 => zb2 (fX12_throwsIf r_2 1 g1) (fun r_3 g3 => if r_3 = 0 then zjoin (fun t0_5 => zb (fX12_in v2 t0_5 40 g3) (fun r_6 => zjoin (fun t0_7 => zb2 (fX12_throwsIf t0_7 2 g3) (fun r_8 g8 => if r_8 = 0 then zb2 (fX12_postageOf v1 v2 g8) (fun r_10 g10 => if v3 = 0 then some (r_10 - 0, g10) else zb2 (fX12_postageOf v1 (v2 - 1) g10) (fun r_12 g12 => some (r_10 - r_12, g12))) else some (0, g8)) : Int32 → Option (Int32 × zM)) (fun k42 => if r_6 = 0 then k42 1 else k42 0)) : Int32 → Option (Int32 × zM)) (fun k29 => if v3 = 0 then k29 0 else k29 1) else some (0, g3))))
set_option maxHeartbeats 4000000 in
set_option maxRecDepth 100000 in
theorem fX12_postage_ok {X : zX} (hX : zCX X cX12_postage RX12) (hT : zNT X) (hR : X.2.2.2.1 = zrm 10 0) (hr : X.2.2.2.2.2.2.2.2.1.sig.returnType = (some .int)) (hn : X.2.2.2.2.2.2.2.2.2.1.maxLocals = 4) {v1 : Int32} {v2 : Int32} {v3 : Int32} {g : zM} {r : Int32 × zM} (hf : fX12_postage v1 v2 v3 g = some r) : zW X (zQ X (.inl (some (.int r.1), r.2)) 0) 0 0 0 [(0, .ref (zB X + 493)), (1, .int v1), (2, .int v2), (3, .int v3)] [] g := by
  unfold fX12_postage at hf
  refine z_aload_n hX dX12_postage_0 0 rfl ?_
  refine z_iconst hX dX12_postage_1 ci_0 ?_
  replace hf := zput_some hf
  obtain ⟨g1, eg1, hf⟩ := hf
  refine gp_Model_thrown hX zq_493 q1494 dX12_postage_2 (zW.eqg eg1 ?_)
  refine z_aload_n hX dX12_postage_5 0 rfl ?_
  refine z_aload_n hX dX12_postage_6 0 rfl ?_
  refine z_iload_n hX dX12_postage_7 1 rfl ?_
  replace hf := zb_some hf
  obtain ⟨r_2, h2, hf⟩ := hf
  refine z_callV1 hX ok_X12_noLetter q1787 q1789 q68 (zrm_ok hR (by decide)) (ct_X12_noLetter  h2) (zrec_Model hX zq_493) dX12_postage_8 rfl rfl ?_
  refine z_iconst hX dX12_postage_11 ci_1 ?_
  replace hf := zb2_some hf
  obtain ⟨r_3, g3, h3, hf⟩ := hf
  refine z_callV1 hX ok_X12_throwsIf q1775 q1777 q67 (zrm_ok hR (by decide)) (ct_X12_throwsIf  h3) (zrec_Model hX zq_493) dX12_postage_12 rfl rfl ?_
  refine z_if_ne hX 49 dX12_postage_15 (by decide) (fun h4 => ?_) (fun h4 => ?_)
  · replace hf := zif_neg h4 hf
    refine z_iconst hX dX12_postage_49 ci_0 ?_
    obtain rfl := Option.some.inj hf
    exact z_iret hX hr rfl (zl rfl) (zl rfl) dX12_postage_50
  · replace hf := zif_pos h4 hf
    refine z_aload_n hX dX12_postage_18 0 rfl ?_
    refine z_iload_n hX dX12_postage_19 2 rfl ?_
    refine z_iload_n hX dX12_postage_20 3 rfl ?_
    refine zjoin_ok (P := fun (k : Int32 → Option (Int32 × zM)) => ∀ (t0_5 : Int32), k t0_5 = some r → zW X (zQ X (.inl (some (.int r.1), r.2)) 0) 0 0 29 [(0, .ref (zB X + 493)), (1, .int v1), (2, .int v2), (3, .int v3)] [.int t0_5, .int v2, .ref (zB X + 493)] g3) hf (fun t0_5 hf => ?_) (fun k29 hk29 hf => ?_)
    · refine z_bipush hX dX12_postage_29 cb_40 ?_
      replace hf := zb_some hf
      obtain ⟨r_6, h6, hf⟩ := hf
      refine z_callS1 hX ok_X12_in rfl q1666 q1667 (zrm_ok hR (by decide)) (ct_X12_in  h6) dX12_postage_31 rfl rfl ?_
      refine zjoin_ok (P := fun (k : Int32 → Option (Int32 × zM)) => ∀ (t0_7 : Int32), k t0_7 = some r → zW X (zQ X (.inl (some (.int r.1), r.2)) 0) 0 0 42 [(0, .ref (zB X + 493)), (1, .int v1), (2, .int v2), (3, .int v3)] [.int t0_7, .ref (zB X + 493)] g3) hf (fun t0_7 hf => ?_) (fun k42 hk42 hf => ?_)
      · refine z_iconst hX dX12_postage_42 ci_2 ?_
        replace hf := zb2_some hf
        obtain ⟨r_8, g8, h8, hf⟩ := hf
        refine z_callV1 hX ok_X12_throwsIf q1775 q1777 q67 (zrm_ok hR (by decide)) (ct_X12_throwsIf  h8) (zrec_Model hX zq_493) dX12_postage_43 rfl rfl ?_
        refine z_if_eq hX 51 dX12_postage_46 (by decide) (fun h9 => ?_) (fun h9 => ?_)
        · replace hf := zif_pos h9 hf
          refine z_aload_n hX dX12_postage_51 0 rfl ?_
          refine z_iload_n hX dX12_postage_52 1 rfl ?_
          refine z_iload_n hX dX12_postage_53 2 rfl ?_
          replace hf := zb2_some hf
          obtain ⟨r_10, g10, h10, hf⟩ := hf
          refine z_callV1 hX ok_X12_postageOf q2099 q2101 q105 (zrm_ok hR (by decide)) (ct_X12_postageOf  h10) (zrec_Model hX zq_493) dX12_postage_54 rfl rfl ?_
          refine z_iload_n hX dX12_postage_57 3 rfl ?_
          refine z_if_eq hX 72 dX12_postage_58 (by decide) (fun h11 => ?_) (fun h11 => ?_)
          · replace hf := zif_pos h11 hf
            refine z_iconst hX dX12_postage_72 ci_0 ?_
            refine z_isub hX dX12_postage_73 ?_
            obtain rfl := Option.some.inj hf
            exact z_iret hX hr rfl (zl rfl) (zl rfl) dX12_postage_74
          · replace hf := zif_neg h11 hf
            refine z_aload_n hX dX12_postage_61 0 rfl ?_
            refine z_iload_n hX dX12_postage_62 1 rfl ?_
            refine z_iload_n hX dX12_postage_63 2 rfl ?_
            refine z_iconst hX dX12_postage_64 ci_1 ?_
            refine z_isub hX dX12_postage_65 ?_
            replace hf := zb2_some hf
            obtain ⟨r_12, g12, h12, hf⟩ := hf
            refine z_callV1 hX ok_X12_postageOf q2099 q2101 q105 (zrm_ok hR (by decide)) (ct_X12_postageOf  h12) (zrec_Model hX zq_493) dX12_postage_66 rfl rfl ?_
            refine z_goto hX 73 dX12_postage_69 (by decide) ?_
            refine z_isub hX dX12_postage_73 ?_
            obtain rfl := Option.some.inj hf
            exact z_iret hX hr rfl (zl rfl) (zl rfl) dX12_postage_74
        · replace hf := zif_neg h9 hf
          refine z_iconst hX dX12_postage_49 ci_0 ?_
          obtain rfl := Option.some.inj hf
          exact z_iret hX hr rfl (zl rfl) (zl rfl) dX12_postage_50
      · refine z_if_ne hX 41 dX12_postage_34 (by decide) (fun h13 => ?_) (fun h13 => ?_)
        · replace hf := zif_neg h13 hf
          refine z_iconst hX dX12_postage_41 ci_0 ?_
          exact hk42 0 hf
        · replace hf := zif_pos h13 hf
          refine z_iconst hX dX12_postage_37 ci_1 ?_
          refine z_goto hX 42 dX12_postage_38 (by decide) ?_
          exact hk42 1 hf
    · refine z_if_eq hX 28 dX12_postage_21 (by decide) (fun h14 => ?_) (fun h14 => ?_)
      · replace hf := zif_pos h14 hf
        refine z_iconst hX dX12_postage_28 ci_0 ?_
        exact hk29 0 hf
      · replace hf := zif_neg h14 hf
        refine z_iconst hX dX12_postage_24 ci_1 ?_
        refine z_goto hX 29 dX12_postage_25 (by decide) ?_
        exact hk29 1 hf
set_option maxHeartbeats 4000000 in
set_option maxRecDepth 100000 in
theorem ct_X12_postage {E : zE} {v1 : Int32} {v2 : Int32} {v3 : Int32} {g : zM} {r : Int32 × zM} (hf : fX12_postage v1 v2 v3 g = some r) : zCt yX12_postage cX12_postage 4 (some .int) 10 0 E [.ref (E.1 + 493), .int v1, .int v2, .int v3] g (.inl (some (.int r.1), r.2)) := by
  refine zmet (by decide) (zl rfl) (fun X hE hX hT hR hr hn => ?_)
  subst hE
  exact fX12_postage_ok hX hT hR hr hn  hf
def fX12_forkOf_L11 (v2 : Int32) (v3 : Int32) : Nat → Int32 → Int32 → zM → Option (Int32 × zM)
  | 0, _, _, _ => none
  | n + 1, v4, v5, g => if v2 ≤ v5 then zb (fX12_last g) (fun r_3 => some (r_3, g)) else zb (fX12_growsOnce g) (fun g4 => zjoin (fun v4_5 g5 => zjoin (fun g6 => zput g6 493 22 (if (g6 493 22) + 1 < 9999 then (g6 493 22) + 1 else 9999) (fun g7 => fX12_forkOf_L11 v2 v3 n v4_5 (v5 + 1) g7) : zM → Option (Int32 × zM)) (fun k63 => if (g5 493 24) = 0 then k63 g5 else zb (fX12_growsOnce g5) (fun g9 => k63 g9)) : Int32 → zM → Option (Int32 × zM)) (fun k52 => if v4 = 0 then if (g4 493 19) ≤ (g 493 19) then k52 v4 g4 else zchk (g 493 19) 24 (zput g4 502 (g 493 19).toNatClampNeg v3 (fun g13 => k52 1 g13)) else k52 v4 g4))
def fX12_forkOf (v1 : Int32) (v2 : Int32) (v3 : Int32) (g : zM) : Option (Int32 × zM) := zb (fX12_looksAt v1 g) (fun g1 => fX12_forkOf_L11 v2 v3 zFU 0 0 g1)
set_option maxHeartbeats 4000000 in
set_option maxRecDepth 100000 in
theorem fX12_forkOf_L11_ok {X : zX} (hX : zCX X cX12_forkOf RX12) (hT : zNT X) (hR : X.2.2.2.1 = zrm 6 0) (hr : X.2.2.2.2.2.2.2.2.1.sig.returnType = (some .int)) (hn : X.2.2.2.2.2.2.2.2.2.1.maxLocals = 7) {v2 : Int32} {v3 : Int32} {r : Int32 × zM}  : ∀ (n : Nat) (v4 : Int32) (v5 : Int32) (g : zM), fX12_forkOf_L11 v2 v3 n v4 v5 g = some r → zW X (zQ X (.inl (some (.int r.1), r.2)) 0) 0 0 11 [(0, .ref (zB X + 493)), (2, .int v2), (3, .int v3), (4, .int v4), (5, .int v5)] [] g := by
  intro n
  induction n with
  | zero => intro v4 v5 g hf; exact zno hf
  | succ n ih =>
    intro v4 v5 g hf
    rw [fX12_forkOf_L11] at hf
    refine z_iload hX dX12_forkOf_11 4 rfl ?_
    refine z_iload_n hX dX12_forkOf_13 1 rfl ?_
    refine z_icmp_ge hX 85 dX12_forkOf_14 (by decide) (fun h2 => ?_) (fun h2 => ?_)
    · replace hf := zif_pos h2 hf
      refine z_aload_n hX dX12_forkOf_85 0 rfl ?_
      replace hf := zb_some hf
      obtain ⟨r_3, h3, hf⟩ := hf
      refine z_callV1 hX ok_X12_last q1807 q1809 q73 (zrm_ok hR (by decide)) (ct_X12_last  h3) (zrec_Model hX zq_493) dX12_forkOf_86 rfl rfl ?_
      obtain rfl := Option.some.inj hf
      exact z_iret hX hr rfl (zl rfl) (zl rfl) dX12_forkOf_89
    · replace hf := zif_neg h2 hf
      refine z_aload_n hX dX12_forkOf_17 0 rfl ?_
      refine gf_Model_many hX zq_493 q1513 dX12_forkOf_18 ?_
      refine z_istore (lv' := [(6, .int (g 493 19)), (0, .ref (zB X + 493)), (2, .int v2), (3, .int v3), (4, .int v4), (5, .int v5)]) hX dX12_forkOf_21 hn (by decide) rfl ?_
      refine z_aload_n hX dX12_forkOf_23 1 rfl ?_
      replace hf := zb_some hf
      obtain ⟨g4, h4, hf⟩ := hf
      refine z_callV0 hX ok_X12_growsOnce q1949 q1951 q92 (zrm_ok hR (by decide)) (ct_X12_growsOnce  h4) (zrec_Model hX zq_493) dX12_forkOf_24 rfl rfl ?_
      refine z_iload hX dX12_forkOf_27 4 rfl ?_
      refine zjoin_ok (P := fun (k : Int32 → zM → Option (Int32 × zM)) => ∀ (v4_5 : Int32) (g5 : zM), k v4_5 g5 = some r → zW X (zQ X (.inl (some (.int r.1), r.2)) 0) 0 0 52 [(0, .ref (zB X + 493)), (2, .int v2), (3, .int v3), (4, .int v4_5), (5, .int v5)] [] g5) hf (fun v4_5 g5 hf => ?_) (fun k52 hk52 hf => ?_)
      · refine z_aload_n hX dX12_forkOf_52 0 rfl ?_
        refine gf_Model_hot hX zq_493 q1518 dX12_forkOf_53 ?_
        refine zjoin_ok (P := fun (k : zM → Option (Int32 × zM)) => ∀ (g6 : zM), k g6 = some r → zW X (zQ X (.inl (some (.int r.1), r.2)) 0) 0 0 63 [(0, .ref (zB X + 493)), (2, .int v2), (3, .int v3), (4, .int v4_5), (5, .int v5)] [] g6) hf (fun g6 hf => ?_) (fun k63 hk63 hf => ?_)
        · refine z_aload_n hX dX12_forkOf_63 0 rfl ?_
          refine z_sipush hX dX12_forkOf_64 cs_9999 ?_
          refine z_aload_n hX dX12_forkOf_67 0 rfl ?_
          refine gf_Model_week hX zq_493 q1516 dX12_forkOf_68 ?_
          refine z_iconst hX dX12_forkOf_71 ci_1 ?_
          refine z_iadd hX dX12_forkOf_72 ?_
          refine z_min hX hR ⟨zl rfl, zl rfl⟩ q1929 dX12_forkOf_73 (zl rfl) ?_
          replace hf := zput_some hf
          obtain ⟨g7, eg7, hf⟩ := hf
          refine gp_Model_week hX zq_493 q1516 dX12_forkOf_76 (zW.eqg eg7 ?_)
          refine z_iincc (lv' := [(5, .int (v5 + 1)), (0, .ref (zB X + 493)), (2, .int v2), (3, .int v3), (4, .int v4_5)]) hX dX12_forkOf_79 hn (by decide) 4 rfl ci_1 rfl ?_
          refine z_goto hX 11 dX12_forkOf_82 (by decide) ?_
          refine zW.sub [1, 2, 3, 4, 0] rfl ?_
          exact ih v4_5 (v5 + 1) g7 hf
        · refine z_if_eq hX 63 dX12_forkOf_56 (by decide) (fun h8 => ?_) (fun h8 => ?_)
          · replace hf := zif_pos h8 hf
            exact hk63 g5 hf
          · replace hf := zif_neg h8 hf
            refine z_aload_n hX dX12_forkOf_59 0 rfl ?_
            replace hf := zb_some hf
            obtain ⟨g9, h9, hf⟩ := hf
            refine z_callV0 hX ok_X12_growsOnce q1949 q1951 q92 (zrm_ok hR (by decide)) (ct_X12_growsOnce  h9) (zrec_Model hX zq_493) dX12_forkOf_60 rfl rfl ?_
            exact hk63 g9 hf
      · refine z_if_ne hX 52 dX12_forkOf_29 (by decide) (fun h10 => ?_) (fun h10 => ?_)
        · replace hf := zif_neg h10 hf
          refine zW.sub [1, 2, 3, 4, 5] rfl ?_
          exact hk52 v4 g4 hf
        · replace hf := zif_pos h10 hf
          refine z_aload_n hX dX12_forkOf_32 1 rfl ?_
          refine gf_Model_many hX zq_493 q1513 dX12_forkOf_33 ?_
          refine z_iload hX dX12_forkOf_36 0 rfl ?_
          refine z_icmp_le hX 52 dX12_forkOf_38 (by decide) (fun h11 => ?_) (fun h11 => ?_)
          · replace hf := zif_pos h11 hf
            refine zW.sub [1, 2, 3, 4, 5] rfl ?_
            exact hk52 v4 g4 hf
          · replace hf := zif_neg h11 hf
            refine z_aload_n hX dX12_forkOf_41 1 rfl ?_
            refine gf_Model_row hX zq_493 q1512 dX12_forkOf_42 ?_
            refine z_iload hX dX12_forkOf_45 0 rfl ?_
            refine z_iload_n hX dX12_forkOf_47 3 rfl ?_
            replace hf := zchk_some hf
            obtain ⟨h12, hf⟩ := hf
            replace hf := zput_some hf
            obtain ⟨g13, eg13, hf⟩ := hf
            refine z_iast hX zq_502 (by decide) (zc_1024 _ _) h12 dX12_forkOf_48 (zW.eqg eg13 ?_)
            refine z_iconst hX dX12_forkOf_49 ci_1 ?_
            refine z_istore (lv' := [(4, .int 1), (6, .int (g 493 19)), (0, .ref (zB X + 493)), (2, .int v2), (3, .int v3), (5, .int v5)]) hX dX12_forkOf_50 hn (by decide) rfl ?_
            refine zW.sub [2, 3, 4, 0, 5] rfl ?_
            exact hk52 1 g13 hf
set_option maxHeartbeats 4000000 in
set_option maxRecDepth 100000 in
theorem fX12_forkOf_ok {X : zX} (hX : zCX X cX12_forkOf RX12) (hT : zNT X) (hR : X.2.2.2.1 = zrm 6 0) (hr : X.2.2.2.2.2.2.2.2.1.sig.returnType = (some .int)) (hn : X.2.2.2.2.2.2.2.2.2.1.maxLocals = 7) {v1 : Int32} {v2 : Int32} {v3 : Int32} {g : zM} {r : Int32 × zM} (hf : fX12_forkOf v1 v2 v3 g = some r) : zW X (zQ X (.inl (some (.int r.1), r.2)) 0) 0 0 0 [(0, .ref (zB X + 493)), (1, .int v1), (2, .int v2), (3, .int v3)] [] g := by
  unfold fX12_forkOf at hf
  refine z_aload_n hX dX12_forkOf_0 0 rfl ?_
  refine z_iload_n hX dX12_forkOf_1 1 rfl ?_
  replace hf := zb_some hf
  obtain ⟨g1, h1, hf⟩ := hf
  refine z_callV0 hX ok_X12_looksAt q1791 q1793 q69 (zrm_ok hR (by decide)) (ct_X12_looksAt  h1) (zrec_Model hX zq_493) dX12_forkOf_2 rfl rfl ?_
  refine z_iconst hX dX12_forkOf_5 ci_0 ?_
  refine z_istore (lv' := [(4, .int 0), (0, .ref (zB X + 493)), (1, .int v1), (2, .int v2), (3, .int v3)]) hX dX12_forkOf_6 hn (by decide) rfl ?_
  refine z_iconst hX dX12_forkOf_8 ci_0 ?_
  refine z_istore (lv' := [(5, .int 0), (4, .int 0), (0, .ref (zB X + 493)), (1, .int v1), (2, .int v2), (3, .int v3)]) hX dX12_forkOf_9 hn (by decide) rfl ?_
  refine zW.sub [2, 4, 5, 1, 0] rfl ?_
  exact fX12_forkOf_L11_ok hX hT hR hr hn  zFU 0 0 g1 hf
set_option maxHeartbeats 4000000 in
set_option maxRecDepth 100000 in
theorem ct_X12_forkOf {E : zE} {v1 : Int32} {v2 : Int32} {v3 : Int32} {g : zM} {r : Int32 × zM} (hf : fX12_forkOf v1 v2 v3 g = some r) : zCt yX12_forkOf cX12_forkOf 7 (some .int) 6 0 E [.ref (E.1 + 493), .int v1, .int v2, .int v3] g (.inl (some (.int r.1), r.2)) := by
  refine zmet (by decide) (zl rfl) (fun X hE hX hT hR hr hn => ?_)
  subst hE
  exact fX12_forkOf_ok hX hT hR hr hn  hf
