def fX12_readPart (g : zM) : Option (Int32 × zM) := zb (fX12_lettersPass g) (fun g1 => if (g1 493 10) = (g1 493 12) then zb2 (fX12_number 0 999 g1) (fun r_18 g18 => zb (fX12_emits 8 r_18 g18) (fun g19 => if r_18 < 0 then some (0, g19) else some (1, g19))) else zb (fX12_isWord 33 g1) (fun r_3 => zjoin (fun t0_4 => zb (fX12_emits t0_4 0 g1) (fun g5 => if t0_4 < 0 then some (0, g5) else some (1, g5)) : Int32 → Option (Int32 × zM)) (fun k113 => if r_3 = 0 then zb (fX12_isWord 22 g1) (fun r_8 => if r_8 = 0 then zb (fX12_isWord 34 g1) (fun r_10 => if r_10 = 0 then zb (fX12_isWord 28 g1) (fun r_12 => if r_12 = 0 then zb (fX12_isWord 35 g1) (fun r_14 => if r_14 = 0 then zb (fX12_isWord 36 g1) (fun r_16 => if r_16 = 0 then k113 ((-1)) else k113 5) else k113 4) else k113 3) else k113 2) else k113 1) else k113 0)))
set_option maxHeartbeats 4000000 in
set_option maxRecDepth 100000 in
theorem fX12_readPart_ok {X : zX} (hX : zCX X cX12_readPart RX12) (hT : zNT X) (hR : X.2.2.2.1 = zrm 6 0) (hr : X.2.2.2.2.2.2.2.2.1.sig.returnType = (some .boolean)) (hn : X.2.2.2.2.2.2.2.2.2.1.maxLocals = 2)  {g : zM} {r : Int32 × zM} (hf : fX12_readPart g = some r) : zW X (zQ X (.inl (some (.int r.1), r.2)) 0) 0 0 0 [(0, .ref (zB X + 493))] [] g := by
  unfold fX12_readPart at hf
  refine z_aload_n hX dX12_readPart_0 0 rfl ?_
  replace hf := zb_some hf
  obtain ⟨g1, h1, hf⟩ := hf
  refine z_callV0 hX ok_X12_lettersPass q1633 q1635 q39 (zrm_ok hR (by decide)) (ct_X12_lettersPass  h1) (zrec_Model hX zq_493) dX12_readPart_1 rfl rfl ?_
  refine z_aload_n hX dX12_readPart_4 0 rfl ?_
  refine gf_Model_point hX zq_493 q1504 dX12_readPart_5 ?_
  refine z_aload_n hX dX12_readPart_8 0 rfl ?_
  refine gf_Model_begin hX zq_493 q1506 dX12_readPart_9 ?_
  refine z_icmp_ne hX 34 dX12_readPart_12 (by decide) (fun h2 => ?_) (fun h2 => ?_)
  · replace hf := zif_neg h2 hf
    refine z_aload_n hX dX12_readPart_34 0 rfl ?_
    refine z_ldcs hX dX12_readPart_35 (i := 33) rfl ?_
    replace hf := zb_some hf
    obtain ⟨r_3, h3, hf⟩ := hf
    refine z_callV1 hX ok_X12_isWord q1642 q1644 q41 (zrm_ok hR (by decide)) (ct_X12_isWord  h3) (zrec_Model hX zq_493) dX12_readPart_37 rfl rfl ?_
    refine zjoin_ok (P := fun (k : Int32 → Option (Int32 × zM)) => ∀ (t0_4 : Int32), k t0_4 = some r → zW X (zQ X (.inl (some (.int r.1), r.2)) 0) 0 0 113 [(0, .ref (zB X + 493))] [.int t0_4] g1) hf (fun t0_4 hf => ?_) (fun k113 hk113 hf => ?_)
    · refine z_istore_n (lv' := [(1, .int t0_4), (0, .ref (zB X + 493))]) hX dX12_readPart_113 hn (by decide) rfl ?_
      refine z_aload_n hX dX12_readPart_114 1 rfl ?_
      refine z_iload_n hX dX12_readPart_115 0 rfl ?_
      refine z_iconst hX dX12_readPart_116 ci_0 ?_
      replace hf := zb_some hf
      obtain ⟨g5, h5, hf⟩ := hf
      refine z_callV0 hX ok_X12_emits q1752 q1754 q63 (zrm_ok hR (by decide)) (ct_X12_emits  h5) (zrec_Model hX zq_493) dX12_readPart_117 rfl rfl ?_
      refine z_iload_n hX dX12_readPart_120 0 rfl ?_
      refine z_if_lt hX 128 dX12_readPart_121 (by decide) (fun h6 => ?_) (fun h6 => ?_)
      · replace hf := zif_pos h6 hf
        refine z_iconst hX dX12_readPart_128 ci_0 ?_
        obtain rfl := Option.some.inj hf
        exact z_iret hX hr (zbn (Or.inl rfl)) (zl rfl) (zl rfl) dX12_readPart_129
      · replace hf := zif_neg h6 hf
        refine z_iconst hX dX12_readPart_124 ci_1 ?_
        refine z_goto hX 129 dX12_readPart_125 (by decide) ?_
        obtain rfl := Option.some.inj hf
        exact z_iret hX hr (zbn (Or.inr rfl)) (zl rfl) (zl rfl) dX12_readPart_129
    · refine z_if_eq hX 47 dX12_readPart_40 (by decide) (fun h7 => ?_) (fun h7 => ?_)
      · replace hf := zif_pos h7 hf
        refine z_aload_n hX dX12_readPart_47 0 rfl ?_
        refine z_ldcs hX dX12_readPart_48 (i := 22) rfl ?_
        replace hf := zb_some hf
        obtain ⟨r_8, h8, hf⟩ := hf
        refine z_callV1 hX ok_X12_isWord q1642 q1644 q41 (zrm_ok hR (by decide)) (ct_X12_isWord  h8) (zrec_Model hX zq_493) dX12_readPart_50 rfl rfl ?_
        refine z_if_eq hX 60 dX12_readPart_53 (by decide) (fun h9 => ?_) (fun h9 => ?_)
        · replace hf := zif_pos h9 hf
          refine z_aload_n hX dX12_readPart_60 0 rfl ?_
          refine z_ldcs hX dX12_readPart_61 (i := 34) rfl ?_
          replace hf := zb_some hf
          obtain ⟨r_10, h10, hf⟩ := hf
          refine z_callV1 hX ok_X12_isWord q1642 q1644 q41 (zrm_ok hR (by decide)) (ct_X12_isWord  h10) (zrec_Model hX zq_493) dX12_readPart_63 rfl rfl ?_
          refine z_if_eq hX 73 dX12_readPart_66 (by decide) (fun h11 => ?_) (fun h11 => ?_)
          · replace hf := zif_pos h11 hf
            refine z_aload_n hX dX12_readPart_73 0 rfl ?_
            refine z_ldcs hX dX12_readPart_74 (i := 28) rfl ?_
            replace hf := zb_some hf
            obtain ⟨r_12, h12, hf⟩ := hf
            refine z_callV1 hX ok_X12_isWord q1642 q1644 q41 (zrm_ok hR (by decide)) (ct_X12_isWord  h12) (zrec_Model hX zq_493) dX12_readPart_76 rfl rfl ?_
            refine z_if_eq hX 86 dX12_readPart_79 (by decide) (fun h13 => ?_) (fun h13 => ?_)
            · replace hf := zif_pos h13 hf
              refine z_aload_n hX dX12_readPart_86 0 rfl ?_
              refine z_ldcs hX dX12_readPart_87 (i := 35) rfl ?_
              replace hf := zb_some hf
              obtain ⟨r_14, h14, hf⟩ := hf
              refine z_callV1 hX ok_X12_isWord q1642 q1644 q41 (zrm_ok hR (by decide)) (ct_X12_isWord  h14) (zrec_Model hX zq_493) dX12_readPart_89 rfl rfl ?_
              refine z_if_eq hX 99 dX12_readPart_92 (by decide) (fun h15 => ?_) (fun h15 => ?_)
              · replace hf := zif_pos h15 hf
                refine z_aload_n hX dX12_readPart_99 0 rfl ?_
                refine z_ldcs hX dX12_readPart_100 (i := 36) rfl ?_
                replace hf := zb_some hf
                obtain ⟨r_16, h16, hf⟩ := hf
                refine z_callV1 hX ok_X12_isWord q1642 q1644 q41 (zrm_ok hR (by decide)) (ct_X12_isWord  h16) (zrec_Model hX zq_493) dX12_readPart_102 rfl rfl ?_
                refine z_if_eq hX 112 dX12_readPart_105 (by decide) (fun h17 => ?_) (fun h17 => ?_)
                · replace hf := zif_pos h17 hf
                  refine z_iconst hX dX12_readPart_112 ci_m1 ?_
                  exact hk113 ((-1)) hf
                · replace hf := zif_neg h17 hf
                  refine z_iconst hX dX12_readPart_108 ci_5 ?_
                  refine z_goto hX 113 dX12_readPart_109 (by decide) ?_
                  exact hk113 5 hf
              · replace hf := zif_neg h15 hf
                refine z_iconst hX dX12_readPart_95 ci_4 ?_
                refine z_goto hX 113 dX12_readPart_96 (by decide) ?_
                exact hk113 4 hf
            · replace hf := zif_neg h13 hf
              refine z_iconst hX dX12_readPart_82 ci_3 ?_
              refine z_goto hX 113 dX12_readPart_83 (by decide) ?_
              exact hk113 3 hf
          · replace hf := zif_neg h11 hf
            refine z_iconst hX dX12_readPart_69 ci_2 ?_
            refine z_goto hX 113 dX12_readPart_70 (by decide) ?_
            exact hk113 2 hf
        · replace hf := zif_neg h9 hf
          refine z_iconst hX dX12_readPart_56 ci_1 ?_
          refine z_goto hX 113 dX12_readPart_57 (by decide) ?_
          exact hk113 1 hf
      · replace hf := zif_neg h7 hf
        refine z_iconst hX dX12_readPart_43 ci_0 ?_
        refine z_goto hX 113 dX12_readPart_44 (by decide) ?_
        exact hk113 0 hf
  · replace hf := zif_pos h2 hf
    refine z_aload_n hX dX12_readPart_15 0 rfl ?_
    refine z_iconst hX dX12_readPart_16 ci_0 ?_
    refine z_sipush hX dX12_readPart_17 cs_999 ?_
    replace hf := zb2_some hf
    obtain ⟨r_18, g18, h18, hf⟩ := hf
    refine z_callV1 hX ok_X12_number q1661 q1663 q45 (zrm_ok hR (by decide)) (ct_X12_number  h18) (zrec_Model hX zq_493) dX12_readPart_20 rfl rfl ?_
    refine z_istore_n (lv' := [(1, .int r_18), (0, .ref (zB X + 493))]) hX dX12_readPart_23 hn (by decide) rfl ?_
    refine z_aload_n hX dX12_readPart_24 1 rfl ?_
    refine z_bipush hX dX12_readPart_25 cb_8 ?_
    refine z_iload_n hX dX12_readPart_27 0 rfl ?_
    replace hf := zb_some hf
    obtain ⟨g19, h19, hf⟩ := hf
    refine z_callV0 hX ok_X12_emits q1752 q1754 q63 (zrm_ok hR (by decide)) (ct_X12_emits  h19) (zrec_Model hX zq_493) dX12_readPart_28 rfl rfl ?_
    refine z_goto hX 120 dX12_readPart_31 (by decide) ?_
    refine z_iload_n hX dX12_readPart_120 0 rfl ?_
    refine z_if_lt hX 128 dX12_readPart_121 (by decide) (fun h20 => ?_) (fun h20 => ?_)
    · replace hf := zif_pos h20 hf
      refine z_iconst hX dX12_readPart_128 ci_0 ?_
      obtain rfl := Option.some.inj hf
      exact z_iret hX hr (zbn (Or.inl rfl)) (zl rfl) (zl rfl) dX12_readPart_129
    · replace hf := zif_neg h20 hf
      refine z_iconst hX dX12_readPart_124 ci_1 ?_
      refine z_goto hX 129 dX12_readPart_125 (by decide) ?_
      obtain rfl := Option.some.inj hf
      exact z_iret hX hr (zbn (Or.inr rfl)) (zl rfl) (zl rfl) dX12_readPart_129
set_option maxHeartbeats 4000000 in
set_option maxRecDepth 100000 in
theorem ct_X12_readPart {E : zE} {g : zM} {r : Int32 × zM} (hf : fX12_readPart g = some r) : zCt yX12_readPart cX12_readPart 2 (some .boolean) 6 0 E [.ref (E.1 + 493)] g (.inl (some (.int r.1), r.2)) := by
  refine zmet (by decide) (zl rfl) (fun X hE hX hT hR hr hn => ?_)
  subst hE
  exact fX12_readPart_ok hX hT hR hr hn  hf
def fX12_readSum_L9  : Nat → zM → Option (Int32 × zM)
  | 0, _ => none
  | n + 1, g => zb2 (fX12_sign 43 g) (fun r_3 g3 => if r_3 = 0 then some (1, g3) else zb2 (fX12_readPart g3) (fun r_5 g5 => if r_5 = 0 then some (0, g5) else zb (fX12_emits 9 0 g5) (fun g7 => fX12_readSum_L9 n g7)))
def fX12_readSum (g : zM) : Option (Int32 × zM) := zb2 (fX12_readPart g) (fun r_1 g1 => if r_1 = 0 then some (0, g1) else fX12_readSum_L9 zFU g1)
set_option maxHeartbeats 4000000 in
set_option maxRecDepth 100000 in
theorem fX12_readSum_L9_ok {X : zX} (hX : zCX X cX12_readSum RX12) (hT : zNT X) (hR : X.2.2.2.1 = zrm 7 0) (hr : X.2.2.2.2.2.2.2.2.1.sig.returnType = (some .boolean)) (hn : X.2.2.2.2.2.2.2.2.2.1.maxLocals = 1)  {r : Int32 × zM}  : ∀ (n : Nat) (g : zM), fX12_readSum_L9 n g = some r → zW X (zQ X (.inl (some (.int r.1), r.2)) 0) 0 0 9 [(0, .ref (zB X + 493))] [] g := by
  intro n
  induction n with
  | zero => intro g hf; exact zno hf
  | succ n ih =>
    intro g hf
    rw [fX12_readSum_L9] at hf
    refine z_aload_n hX dX12_readSum_9 0 rfl ?_
    refine z_bipush hX dX12_readSum_10 cb_43 ?_
    replace hf := zb2_some hf
    obtain ⟨r_3, g3, h3, hf⟩ := hf
    refine z_callV1 hX ok_X12_sign q1747 q1749 q62 (zrm_ok hR (by decide)) (ct_X12_sign  h3) (zrec_Model hX zq_493) dX12_readSum_12 rfl rfl ?_
    refine z_if_eq hX 37 dX12_readSum_15 (by decide) (fun h4 => ?_) (fun h4 => ?_)
    · replace hf := zif_pos h4 hf
      refine z_iconst hX dX12_readSum_37 ci_1 ?_
      obtain rfl := Option.some.inj hf
      exact z_iret hX hr (zbn (Or.inr rfl)) (zl rfl) (zl rfl) dX12_readSum_38
    · replace hf := zif_neg h4 hf
      refine z_aload_n hX dX12_readSum_18 0 rfl ?_
      replace hf := zb2_some hf
      obtain ⟨r_5, g5, h5, hf⟩ := hf
      refine z_callV1 hX ok_X12_readPart q1765 q1767 q66 (zrm_ok hR (by decide)) (ct_X12_readPart  h5) (zrec_Model hX zq_493) dX12_readSum_19 rfl rfl ?_
      refine z_if_ne hX 27 dX12_readSum_22 (by decide) (fun h6 => ?_) (fun h6 => ?_)
      · replace hf := zif_neg h6 hf
        refine z_aload_n hX dX12_readSum_27 0 rfl ?_
        refine z_bipush hX dX12_readSum_28 cb_9 ?_
        refine z_iconst hX dX12_readSum_30 ci_0 ?_
        replace hf := zb_some hf
        obtain ⟨g7, h7, hf⟩ := hf
        refine z_callV0 hX ok_X12_emits q1752 q1754 q63 (zrm_ok hR (by decide)) (ct_X12_emits  h7) (zrec_Model hX zq_493) dX12_readSum_31 rfl rfl ?_
        refine z_goto hX 9 dX12_readSum_34 (by decide) ?_
        exact ih g7 hf
      · replace hf := zif_pos h6 hf
        refine z_iconst hX dX12_readSum_25 ci_0 ?_
        obtain rfl := Option.some.inj hf
        exact z_iret hX hr (zbn (Or.inl rfl)) (zl rfl) (zl rfl) dX12_readSum_26
set_option maxHeartbeats 4000000 in
set_option maxRecDepth 100000 in
theorem fX12_readSum_ok {X : zX} (hX : zCX X cX12_readSum RX12) (hT : zNT X) (hR : X.2.2.2.1 = zrm 7 0) (hr : X.2.2.2.2.2.2.2.2.1.sig.returnType = (some .boolean)) (hn : X.2.2.2.2.2.2.2.2.2.1.maxLocals = 1)  {g : zM} {r : Int32 × zM} (hf : fX12_readSum g = some r) : zW X (zQ X (.inl (some (.int r.1), r.2)) 0) 0 0 0 [(0, .ref (zB X + 493))] [] g := by
  unfold fX12_readSum at hf
  refine z_aload_n hX dX12_readSum_0 0 rfl ?_
  replace hf := zb2_some hf
  obtain ⟨r_1, g1, h1, hf⟩ := hf
  refine z_callV1 hX ok_X12_readPart q1765 q1767 q66 (zrm_ok hR (by decide)) (ct_X12_readPart  h1) (zrec_Model hX zq_493) dX12_readSum_1 rfl rfl ?_
  refine z_if_ne hX 9 dX12_readSum_4 (by decide) (fun h2 => ?_) (fun h2 => ?_)
  · replace hf := zif_neg h2 hf
    exact fX12_readSum_L9_ok hX hT hR hr hn  zFU g1 hf
  · replace hf := zif_pos h2 hf
    refine z_iconst hX dX12_readSum_7 ci_0 ?_
    obtain rfl := Option.some.inj hf
    exact z_iret hX hr (zbn (Or.inl rfl)) (zl rfl) (zl rfl) dX12_readSum_8
set_option maxHeartbeats 4000000 in
set_option maxRecDepth 100000 in
theorem ct_X12_readSum {E : zE} {g : zM} {r : Int32 × zM} (hf : fX12_readSum g = some r) : zCt yX12_readSum cX12_readSum 1 (some .boolean) 7 0 E [.ref (E.1 + 493)] g (.inl (some (.int r.1), r.2)) := by
  refine zmet (by decide) (zl rfl) (fun X hE hX hT hR hr hn => ?_)
  subst hE
  exact fX12_readSum_ok hX hT hR hr hn  hf
def fX12_readTag (g : zM) : Option (Int32 × zM) := zb (fX12_lettersPass g) (fun g1 => zb (fX12_isWord 26 g1) (fun r_2 => zjoin (fun t0_3 => if t0_3 < 0 then zput g1 493 10 (g1 493 12) (fun g5 => if t0_3 < 0 then some (0, g5) else some (1, g5)) else zb (fX12_emits t0_3 0 g1) (fun g7 => if t0_3 < 0 then some (0, g7) else some (1, g7)) : Int32 → Option (Int32 × zM)) (fun k33 => if r_2 = 0 then zb (fX12_isWord 32 g1) (fun r_10 => if r_10 = 0 then k33 ((-1)) else k33 7) else k33 6)))
set_option maxHeartbeats 4000000 in
set_option maxRecDepth 100000 in
theorem fX12_readTag_ok {X : zX} (hX : zCX X cX12_readTag RX12) (hT : zNT X) (hR : X.2.2.2.1 = zrm 6 0) (hr : X.2.2.2.2.2.2.2.2.1.sig.returnType = (some .boolean)) (hn : X.2.2.2.2.2.2.2.2.2.1.maxLocals = 2)  {g : zM} {r : Int32 × zM} (hf : fX12_readTag g = some r) : zW X (zQ X (.inl (some (.int r.1), r.2)) 0) 0 0 0 [(0, .ref (zB X + 493))] [] g := by
  unfold fX12_readTag at hf
  refine z_aload_n hX dX12_readTag_0 0 rfl ?_
  replace hf := zb_some hf
  obtain ⟨g1, h1, hf⟩ := hf
  refine z_callV0 hX ok_X12_lettersPass q1633 q1635 q39 (zrm_ok hR (by decide)) (ct_X12_lettersPass  h1) (zrec_Model hX zq_493) dX12_readTag_1 rfl rfl ?_
  refine z_aload_n hX dX12_readTag_4 0 rfl ?_
  refine z_ldcs hX dX12_readTag_5 (i := 26) rfl ?_
  replace hf := zb_some hf
  obtain ⟨r_2, h2, hf⟩ := hf
  refine z_callV1 hX ok_X12_isWord q1642 q1644 q41 (zrm_ok hR (by decide)) (ct_X12_isWord  h2) (zrec_Model hX zq_493) dX12_readTag_7 rfl rfl ?_
  refine zjoin_ok (P := fun (k : Int32 → Option (Int32 × zM)) => ∀ (t0_3 : Int32), k t0_3 = some r → zW X (zQ X (.inl (some (.int r.1), r.2)) 0) 0 0 33 [(0, .ref (zB X + 493))] [.int t0_3] g1) hf (fun t0_3 hf => ?_) (fun k33 hk33 hf => ?_)
  · refine z_istore_n (lv' := [(1, .int t0_3), (0, .ref (zB X + 493))]) hX dX12_readTag_33 hn (by decide) rfl ?_
    refine z_iload_n hX dX12_readTag_34 0 rfl ?_
    refine z_if_lt hX 47 dX12_readTag_35 (by decide) (fun h4 => ?_) (fun h4 => ?_)
    · replace hf := zif_pos h4 hf
      refine z_aload_n hX dX12_readTag_47 1 rfl ?_
      refine z_aload_n hX dX12_readTag_48 1 rfl ?_
      refine gf_Model_begin hX zq_493 q1506 dX12_readTag_49 ?_
      replace hf := zput_some hf
      obtain ⟨g5, eg5, hf⟩ := hf
      refine gp_Model_point hX zq_493 q1504 dX12_readTag_52 (zW.eqg eg5 ?_)
      refine z_iload_n hX dX12_readTag_55 0 rfl ?_
      refine z_if_lt hX 63 dX12_readTag_56 (by decide) (fun h6 => ?_) (fun h6 => ?_)
      · replace hf := zif_pos h6 hf
        refine z_iconst hX dX12_readTag_63 ci_0 ?_
        obtain rfl := Option.some.inj hf
        exact z_iret hX hr (zbn (Or.inl rfl)) (zl rfl) (zl rfl) dX12_readTag_64
      · replace hf := zif_neg h6 hf
        refine z_iconst hX dX12_readTag_59 ci_1 ?_
        refine z_goto hX 64 dX12_readTag_60 (by decide) ?_
        obtain rfl := Option.some.inj hf
        exact z_iret hX hr (zbn (Or.inr rfl)) (zl rfl) (zl rfl) dX12_readTag_64
    · replace hf := zif_neg h4 hf
      refine z_aload_n hX dX12_readTag_38 1 rfl ?_
      refine z_iload_n hX dX12_readTag_39 0 rfl ?_
      refine z_iconst hX dX12_readTag_40 ci_0 ?_
      replace hf := zb_some hf
      obtain ⟨g7, h7, hf⟩ := hf
      refine z_callV0 hX ok_X12_emits q1752 q1754 q63 (zrm_ok hR (by decide)) (ct_X12_emits  h7) (zrec_Model hX zq_493) dX12_readTag_41 rfl rfl ?_
      refine z_goto hX 55 dX12_readTag_44 (by decide) ?_
      refine z_iload_n hX dX12_readTag_55 0 rfl ?_
      refine z_if_lt hX 63 dX12_readTag_56 (by decide) (fun h8 => ?_) (fun h8 => ?_)
      · replace hf := zif_pos h8 hf
        refine z_iconst hX dX12_readTag_63 ci_0 ?_
        obtain rfl := Option.some.inj hf
        exact z_iret hX hr (zbn (Or.inl rfl)) (zl rfl) (zl rfl) dX12_readTag_64
      · replace hf := zif_neg h8 hf
        refine z_iconst hX dX12_readTag_59 ci_1 ?_
        refine z_goto hX 64 dX12_readTag_60 (by decide) ?_
        obtain rfl := Option.some.inj hf
        exact z_iret hX hr (zbn (Or.inr rfl)) (zl rfl) (zl rfl) dX12_readTag_64
  · refine z_if_eq hX 18 dX12_readTag_10 (by decide) (fun h9 => ?_) (fun h9 => ?_)
    · replace hf := zif_pos h9 hf
      refine z_aload_n hX dX12_readTag_18 0 rfl ?_
      refine z_ldcs hX dX12_readTag_19 (i := 32) rfl ?_
      replace hf := zb_some hf
      obtain ⟨r_10, h10, hf⟩ := hf
      refine z_callV1 hX ok_X12_isWord q1642 q1644 q41 (zrm_ok hR (by decide)) (ct_X12_isWord  h10) (zrec_Model hX zq_493) dX12_readTag_21 rfl rfl ?_
      refine z_if_eq hX 32 dX12_readTag_24 (by decide) (fun h11 => ?_) (fun h11 => ?_)
      · replace hf := zif_pos h11 hf
        refine z_iconst hX dX12_readTag_32 ci_m1 ?_
        exact hk33 ((-1)) hf
      · replace hf := zif_neg h11 hf
        refine z_bipush hX dX12_readTag_27 cb_7 ?_
        refine z_goto hX 33 dX12_readTag_29 (by decide) ?_
        exact hk33 7 hf
    · replace hf := zif_neg h9 hf
      refine z_bipush hX dX12_readTag_13 cb_6 ?_
      refine z_goto hX 33 dX12_readTag_15 (by decide) ?_
      exact hk33 6 hf
set_option maxHeartbeats 4000000 in
set_option maxRecDepth 100000 in
theorem ct_X12_readTag {E : zE} {g : zM} {r : Int32 × zM} (hf : fX12_readTag g = some r) : zCt yX12_readTag cX12_readTag 2 (some .boolean) 6 0 E [.ref (E.1 + 493)] g (.inl (some (.int r.1), r.2)) := by
  refine zmet (by decide) (zl rfl) (fun X hE hX hT hR hr hn => ?_)
  subst hE
  exact fX12_readTag_ok hX hT hR hr hn  hf
def fX12_readAllOf_L9 (rec_readCond : zM → Option (Int32 × zM)) (rec_readAtom : zM → Option (Int32 × zM)) : Nat → zM → Option (Int32 × zM)
  | 0, _ => none
  | n + 1, g => zb2 (fX12_passes 37 g) (fun r_3 g3 => if r_3 = 0 then some (1, g3) else zb2 (rec_readAtom g3) (fun r_5 g5 => if r_5 = 0 then some (0, g5) else zb (fX12_emits 13 0 g5) (fun g7 => fX12_readAllOf_L9 rec_readCond rec_readAtom n g7)))
def fX12_readAllOf (rec_readCond : zM → Option (Int32 × zM)) (rec_readAtom : zM → Option (Int32 × zM)) (g : zM) : Option (Int32 × zM) := zb2 (rec_readAtom g) (fun r_1 g1 => if r_1 = 0 then some (0, g1) else fX12_readAllOf_L9 rec_readCond rec_readAtom zFU g1)
set_option maxHeartbeats 4000000 in
set_option maxRecDepth 100000 in
theorem fX12_readAllOf_L9_ok {d0 : Nat} (hd0 : 20 ≤ d0) {X : zX} (hX : zCX X cX12_readAllOf RX12) (hT : zNT X) (hR : X.2.2.2.1 = zrm (d0 + 1) 0) (hr : X.2.2.2.2.2.2.2.2.1.sig.returnType = (some .boolean)) (hn : X.2.2.2.2.2.2.2.2.2.1.maxLocals = 1) {rec_readCond : zM → Option (Int32 × zM)} {rec_readAtom : zM → Option (Int32 × zM)} (hrec_readCond : ∀ (E : zE)  (g : zM) (r : Int32 × zM), rec_readCond  g = some r → zCt yX12_readCond cX12_readCond 1 (some .boolean) d0 0 E [.ref (E.1 + 493)] g (.inl (some (.int r.1), r.2))) (hrec_readAtom : ∀ (E : zE)  (g : zM) (r : Int32 × zM), rec_readAtom  g = some r → zCt yX12_readAtom cX12_readAtom 2 (some .boolean) d0 0 E [.ref (E.1 + 493)] g (.inl (some (.int r.1), r.2))) {r : Int32 × zM}  : ∀ (n : Nat) (g : zM), fX12_readAllOf_L9 rec_readCond rec_readAtom n g = some r → zW X (zQ X (.inl (some (.int r.1), r.2)) 0) 0 0 9 [(0, .ref (zB X + 493))] [] g := by
  intro n
  induction n with
  | zero => intro g hf; exact zno hf
  | succ n ih =>
    intro g hf
    rw [fX12_readAllOf_L9] at hf
    refine z_aload_n hX dX12_readAllOf_9 0 rfl ?_
    refine z_ldcs hX dX12_readAllOf_10 (i := 37) rfl ?_
    replace hf := zb2_some hf
    obtain ⟨r_3, g3, h3, hf⟩ := hf
    refine z_callV1 hX ok_X12_passes q1731 q1733 q58 (zrm_okd hR (by omega)) (ct_X12_passes  h3) (zrec_Model hX zq_493) dX12_readAllOf_12 rfl rfl ?_
    refine z_if_eq hX 37 dX12_readAllOf_15 (by decide) (fun h4 => ?_) (fun h4 => ?_)
    · replace hf := zif_pos h4 hf
      refine z_iconst hX dX12_readAllOf_37 ci_1 ?_
      obtain rfl := Option.some.inj hf
      exact z_iret hX hr (zbn (Or.inr rfl)) (zl rfl) (zl rfl) dX12_readAllOf_38
    · replace hf := zif_neg h4 hf
      refine z_aload_n hX dX12_readAllOf_18 0 rfl ?_
      replace hf := zb2_some hf
      obtain ⟨r_5, g5, h5, hf⟩ := hf
      refine z_callV1 hX ok_X12_readAtom q1743 q1745 q61 (zrm_okd hR (by omega)) (hrec_readAtom _ _ _ h5) (zrec_Model hX zq_493) dX12_readAllOf_19 rfl rfl ?_
      refine z_if_ne hX 27 dX12_readAllOf_22 (by decide) (fun h6 => ?_) (fun h6 => ?_)
      · replace hf := zif_neg h6 hf
        refine z_aload_n hX dX12_readAllOf_27 0 rfl ?_
        refine z_bipush hX dX12_readAllOf_28 cb_13 ?_
        refine z_iconst hX dX12_readAllOf_30 ci_0 ?_
        replace hf := zb_some hf
        obtain ⟨g7, h7, hf⟩ := hf
        refine z_callV0 hX ok_X12_emits q1752 q1754 q63 (zrm_okd hR (by omega)) (ct_X12_emits  h7) (zrec_Model hX zq_493) dX12_readAllOf_31 rfl rfl ?_
        refine z_goto hX 9 dX12_readAllOf_34 (by decide) ?_
        exact ih g7 hf
      · replace hf := zif_pos h6 hf
        refine z_iconst hX dX12_readAllOf_25 ci_0 ?_
        obtain rfl := Option.some.inj hf
        exact z_iret hX hr (zbn (Or.inl rfl)) (zl rfl) (zl rfl) dX12_readAllOf_26
set_option maxHeartbeats 4000000 in
set_option maxRecDepth 100000 in
theorem fX12_readAllOf_ok {d0 : Nat} (hd0 : 20 ≤ d0) {X : zX} (hX : zCX X cX12_readAllOf RX12) (hT : zNT X) (hR : X.2.2.2.1 = zrm (d0 + 1) 0) (hr : X.2.2.2.2.2.2.2.2.1.sig.returnType = (some .boolean)) (hn : X.2.2.2.2.2.2.2.2.2.1.maxLocals = 1) {rec_readCond : zM → Option (Int32 × zM)} {rec_readAtom : zM → Option (Int32 × zM)} (hrec_readCond : ∀ (E : zE)  (g : zM) (r : Int32 × zM), rec_readCond  g = some r → zCt yX12_readCond cX12_readCond 1 (some .boolean) d0 0 E [.ref (E.1 + 493)] g (.inl (some (.int r.1), r.2))) (hrec_readAtom : ∀ (E : zE)  (g : zM) (r : Int32 × zM), rec_readAtom  g = some r → zCt yX12_readAtom cX12_readAtom 2 (some .boolean) d0 0 E [.ref (E.1 + 493)] g (.inl (some (.int r.1), r.2))) {g : zM} {r : Int32 × zM} (hf : fX12_readAllOf rec_readCond rec_readAtom g = some r) : zW X (zQ X (.inl (some (.int r.1), r.2)) 0) 0 0 0 [(0, .ref (zB X + 493))] [] g := by
  unfold fX12_readAllOf at hf
  refine z_aload_n hX dX12_readAllOf_0 0 rfl ?_
  replace hf := zb2_some hf
  obtain ⟨r_1, g1, h1, hf⟩ := hf
  refine z_callV1 hX ok_X12_readAtom q1743 q1745 q61 (zrm_okd hR (by omega)) (hrec_readAtom _ _ _ h1) (zrec_Model hX zq_493) dX12_readAllOf_1 rfl rfl ?_
  refine z_if_ne hX 9 dX12_readAllOf_4 (by decide) (fun h2 => ?_) (fun h2 => ?_)
  · replace hf := zif_neg h2 hf
    exact fX12_readAllOf_L9_ok hd0 hX hT hR hr hn hrec_readCond hrec_readAtom zFU g1 hf
  · replace hf := zif_pos h2 hf
    refine z_iconst hX dX12_readAllOf_7 ci_0 ?_
    obtain rfl := Option.some.inj hf
    exact z_iret hX hr (zbn (Or.inl rfl)) (zl rfl) (zl rfl) dX12_readAllOf_8
set_option maxHeartbeats 4000000 in
set_option maxRecDepth 100000 in
theorem ct_X12_readAllOf {E : zE} {d0 : Nat} (hd0 : 20 ≤ d0) {rec_readCond : zM → Option (Int32 × zM)} {rec_readAtom : zM → Option (Int32 × zM)} (hrec_readCond : ∀ (E : zE)  (g : zM) (r : Int32 × zM), rec_readCond  g = some r → zCt yX12_readCond cX12_readCond 1 (some .boolean) d0 0 E [.ref (E.1 + 493)] g (.inl (some (.int r.1), r.2))) (hrec_readAtom : ∀ (E : zE)  (g : zM) (r : Int32 × zM), rec_readAtom  g = some r → zCt yX12_readAtom cX12_readAtom 2 (some .boolean) d0 0 E [.ref (E.1 + 493)] g (.inl (some (.int r.1), r.2))) {g : zM} {r : Int32 × zM} (hf : fX12_readAllOf rec_readCond rec_readAtom g = some r) : zCt yX12_readAllOf cX12_readAllOf 1 (some .boolean) (d0 + 1) 0 E [.ref (E.1 + 493)] g (.inl (some (.int r.1), r.2)) := by
  refine zmet (by decide) (zl rfl) (fun X hE hX hT hR hr hn => ?_)
  subst hE
  exact fX12_readAllOf_ok hd0 hX hT hR hr hn hrec_readCond hrec_readAtom hf
def fX12_readCond_L9 (rec_readCond : zM → Option (Int32 × zM)) (rec_readAtom : zM → Option (Int32 × zM)) : Nat → zM → Option (Int32 × zM)
  | 0, _ => none
  | n + 1, g => zb2 (fX12_passes 38 g) (fun r_3 g3 => if r_3 = 0 then some (1, g3) else zb2 (fX12_readAllOf rec_readCond rec_readAtom g3) (fun r_5 g5 => if r_5 = 0 then some (0, g5) else zb (fX12_emits 14 0 g5) (fun g7 => fX12_readCond_L9 rec_readCond rec_readAtom n g7)))
def fX12_readCond (rec_readCond : zM → Option (Int32 × zM)) (rec_readAtom : zM → Option (Int32 × zM)) (g : zM) : Option (Int32 × zM) := zb2 (fX12_readAllOf rec_readCond rec_readAtom g) (fun r_1 g1 => if r_1 = 0 then some (0, g1) else fX12_readCond_L9 rec_readCond rec_readAtom zFU g1)
set_option maxHeartbeats 4000000 in
set_option maxRecDepth 100000 in
theorem fX12_readCond_L9_ok {d0 : Nat} (hd0 : 20 ≤ d0) {X : zX} (hX : zCX X cX12_readCond RX12) (hT : zNT X) (hR : X.2.2.2.1 = zrm (d0 + 2) 0) (hr : X.2.2.2.2.2.2.2.2.1.sig.returnType = (some .boolean)) (hn : X.2.2.2.2.2.2.2.2.2.1.maxLocals = 1) {rec_readCond : zM → Option (Int32 × zM)} {rec_readAtom : zM → Option (Int32 × zM)} (hrec_readCond : ∀ (E : zE)  (g : zM) (r : Int32 × zM), rec_readCond  g = some r → zCt yX12_readCond cX12_readCond 1 (some .boolean) d0 0 E [.ref (E.1 + 493)] g (.inl (some (.int r.1), r.2))) (hrec_readAtom : ∀ (E : zE)  (g : zM) (r : Int32 × zM), rec_readAtom  g = some r → zCt yX12_readAtom cX12_readAtom 2 (some .boolean) d0 0 E [.ref (E.1 + 493)] g (.inl (some (.int r.1), r.2))) {r : Int32 × zM}  : ∀ (n : Nat) (g : zM), fX12_readCond_L9 rec_readCond rec_readAtom n g = some r → zW X (zQ X (.inl (some (.int r.1), r.2)) 0) 0 0 9 [(0, .ref (zB X + 493))] [] g := by
  intro n
  induction n with
  | zero => intro g hf; exact zno hf
  | succ n ih =>
    intro g hf
    rw [fX12_readCond_L9] at hf
    refine z_aload_n hX dX12_readCond_9 0 rfl ?_
    refine z_ldcs hX dX12_readCond_10 (i := 38) rfl ?_
    replace hf := zb2_some hf
    obtain ⟨r_3, g3, h3, hf⟩ := hf
    refine z_callV1 hX ok_X12_passes q1731 q1733 q58 (zrm_okd hR (by omega)) (ct_X12_passes  h3) (zrec_Model hX zq_493) dX12_readCond_12 rfl rfl ?_
    refine z_if_eq hX 37 dX12_readCond_15 (by decide) (fun h4 => ?_) (fun h4 => ?_)
    · replace hf := zif_pos h4 hf
      refine z_iconst hX dX12_readCond_37 ci_1 ?_
      obtain rfl := Option.some.inj hf
      exact z_iret hX hr (zbn (Or.inr rfl)) (zl rfl) (zl rfl) dX12_readCond_38
    · replace hf := zif_neg h4 hf
      refine z_aload_n hX dX12_readCond_18 0 rfl ?_
      replace hf := zb2_some hf
      obtain ⟨r_5, g5, h5, hf⟩ := hf
      refine z_callV1 hX ok_X12_readAllOf q1739 q1741 q60 (zrm_okd hR (by omega)) (ct_X12_readAllOf hd0 hrec_readCond hrec_readAtom  h5) (zrec_Model hX zq_493) dX12_readCond_19 rfl rfl ?_
      refine z_if_ne hX 27 dX12_readCond_22 (by decide) (fun h6 => ?_) (fun h6 => ?_)
      · replace hf := zif_neg h6 hf
        refine z_aload_n hX dX12_readCond_27 0 rfl ?_
        refine z_bipush hX dX12_readCond_28 cb_14 ?_
        refine z_iconst hX dX12_readCond_30 ci_0 ?_
        replace hf := zb_some hf
        obtain ⟨g7, h7, hf⟩ := hf
        refine z_callV0 hX ok_X12_emits q1752 q1754 q63 (zrm_okd hR (by omega)) (ct_X12_emits  h7) (zrec_Model hX zq_493) dX12_readCond_31 rfl rfl ?_
        refine z_goto hX 9 dX12_readCond_34 (by decide) ?_
        exact ih g7 hf
      · replace hf := zif_pos h6 hf
        refine z_iconst hX dX12_readCond_25 ci_0 ?_
        obtain rfl := Option.some.inj hf
        exact z_iret hX hr (zbn (Or.inl rfl)) (zl rfl) (zl rfl) dX12_readCond_26
set_option maxHeartbeats 4000000 in
set_option maxRecDepth 100000 in
theorem fX12_readCond_ok {d0 : Nat} (hd0 : 20 ≤ d0) {X : zX} (hX : zCX X cX12_readCond RX12) (hT : zNT X) (hR : X.2.2.2.1 = zrm (d0 + 2) 0) (hr : X.2.2.2.2.2.2.2.2.1.sig.returnType = (some .boolean)) (hn : X.2.2.2.2.2.2.2.2.2.1.maxLocals = 1) {rec_readCond : zM → Option (Int32 × zM)} {rec_readAtom : zM → Option (Int32 × zM)} (hrec_readCond : ∀ (E : zE)  (g : zM) (r : Int32 × zM), rec_readCond  g = some r → zCt yX12_readCond cX12_readCond 1 (some .boolean) d0 0 E [.ref (E.1 + 493)] g (.inl (some (.int r.1), r.2))) (hrec_readAtom : ∀ (E : zE)  (g : zM) (r : Int32 × zM), rec_readAtom  g = some r → zCt yX12_readAtom cX12_readAtom 2 (some .boolean) d0 0 E [.ref (E.1 + 493)] g (.inl (some (.int r.1), r.2))) {g : zM} {r : Int32 × zM} (hf : fX12_readCond rec_readCond rec_readAtom g = some r) : zW X (zQ X (.inl (some (.int r.1), r.2)) 0) 0 0 0 [(0, .ref (zB X + 493))] [] g := by
  unfold fX12_readCond at hf
  refine z_aload_n hX dX12_readCond_0 0 rfl ?_
  replace hf := zb2_some hf
  obtain ⟨r_1, g1, h1, hf⟩ := hf
  refine z_callV1 hX ok_X12_readAllOf q1739 q1741 q60 (zrm_okd hR (by omega)) (ct_X12_readAllOf hd0 hrec_readCond hrec_readAtom  h1) (zrec_Model hX zq_493) dX12_readCond_1 rfl rfl ?_
  refine z_if_ne hX 9 dX12_readCond_4 (by decide) (fun h2 => ?_) (fun h2 => ?_)
  · replace hf := zif_neg h2 hf
    exact fX12_readCond_L9_ok hd0 hX hT hR hr hn hrec_readCond hrec_readAtom zFU g1 hf
  · replace hf := zif_pos h2 hf
    refine z_iconst hX dX12_readCond_7 ci_0 ?_
    obtain rfl := Option.some.inj hf
    exact z_iret hX hr (zbn (Or.inl rfl)) (zl rfl) (zl rfl) dX12_readCond_8
set_option maxHeartbeats 4000000 in
set_option maxRecDepth 100000 in
theorem ct_X12_readCond {E : zE} {d0 : Nat} (hd0 : 20 ≤ d0) {rec_readCond : zM → Option (Int32 × zM)} {rec_readAtom : zM → Option (Int32 × zM)} (hrec_readCond : ∀ (E : zE)  (g : zM) (r : Int32 × zM), rec_readCond  g = some r → zCt yX12_readCond cX12_readCond 1 (some .boolean) d0 0 E [.ref (E.1 + 493)] g (.inl (some (.int r.1), r.2))) (hrec_readAtom : ∀ (E : zE)  (g : zM) (r : Int32 × zM), rec_readAtom  g = some r → zCt yX12_readAtom cX12_readAtom 2 (some .boolean) d0 0 E [.ref (E.1 + 493)] g (.inl (some (.int r.1), r.2))) {g : zM} {r : Int32 × zM} (hf : fX12_readCond rec_readCond rec_readAtom g = some r) : zCt yX12_readCond cX12_readCond 1 (some .boolean) (d0 + 2) 0 E [.ref (E.1 + 493)] g (.inl (some (.int r.1), r.2)) := by
  refine zmet (by decide) (zl rfl) (fun X hE hX hT hR hr hn => ?_)
  subst hE
  exact fX12_readCond_ok hd0 hX hT hR hr hn hrec_readCond hrec_readAtom hf
def fX12_readAtom (rec_readCond : zM → Option (Int32 × zM)) (rec_readAtom : zM → Option (Int32 × zM)) (g : zM) : Option (Int32 × zM) := zb2 (fX12_sign 40 g) (fun r_1 g1 => if r_1 = 0 then zb2 (fX12_passes 31 g1) (fun r_3 g3 => if r_3 = 0 then zb2 (fX12_readTag g3) (fun r_5 g5 => if r_5 = 0 then zb2 (fX12_readSum g5) (fun r_7 g7 => if r_7 = 0 then some (0, g7) else zb2 (fX12_sign 60 g7) (fun r_9 g9 => zjoin (fun g10 => zb2 (fX12_readSum g10) (fun r_11 g11 => if r_11 = 0 then some (0, g11) else if r_9 = 0 then zb (fX12_emits 11 0 g11) (fun g14 => some (1, g14)) else zb (fX12_emits 10 0 g11) (fun g15 => some (1, g15))) : zM → Option (Int32 × zM)) (fun k152 => if r_9 = 0 then zb2 (fX12_sign 62 g9) (fun r_17 g17 => if r_17 = 0 then some (0, g17) else k152 g17) else k152 g9))) else some (1, g5)) else if (g3 493 13) = 6 then some (0, g3) else zput g3 493 13 ((g3 493 13) + 1) (fun g20 => zb2 (rec_readAtom g20) (fun r_21 g21 => if r_21 = 0 then some (0, g21) else zput g21 493 13 ((g21 493 13) - 1) (fun g23 => zb (fX12_emits 12 0 g23) (fun g24 => some (1, g24)))))) else if (g1 493 13) = 6 then some (0, g1) else zput g1 493 13 ((g1 493 13) + 1) (fun g26 => zb2 (rec_readCond g26) (fun r_27 g27 => if r_27 = 0 then some (0, g27) else zput g27 493 13 ((g27 493 13) - 1) (fun g29 => zb2 (fX12_sign 41 g29) (fun r_30 g30 => zbo r_30 (some (r_30, g30)))))))
set_option maxHeartbeats 4000000 in
set_option maxRecDepth 100000 in
theorem fX12_readAtom_ok {d0 : Nat} (hd0 : 20 ≤ d0) {X : zX} (hX : zCX X cX12_readAtom RX12) (hT : zNT X) (hR : X.2.2.2.1 = zrm (d0 + 2) 0) (hr : X.2.2.2.2.2.2.2.2.1.sig.returnType = (some .boolean)) (hn : X.2.2.2.2.2.2.2.2.2.1.maxLocals = 2) {rec_readCond : zM → Option (Int32 × zM)} {rec_readAtom : zM → Option (Int32 × zM)} (hrec_readCond : ∀ (E : zE)  (g : zM) (r : Int32 × zM), rec_readCond  g = some r → zCt yX12_readCond cX12_readCond 1 (some .boolean) d0 0 E [.ref (E.1 + 493)] g (.inl (some (.int r.1), r.2))) (hrec_readAtom : ∀ (E : zE)  (g : zM) (r : Int32 × zM), rec_readAtom  g = some r → zCt yX12_readAtom cX12_readAtom 2 (some .boolean) d0 0 E [.ref (E.1 + 493)] g (.inl (some (.int r.1), r.2))) {g : zM} {r : Int32 × zM} (hf : fX12_readAtom rec_readCond rec_readAtom g = some r) : zW X (zQ X (.inl (some (.int r.1), r.2)) 0) 0 0 0 [(0, .ref (zB X + 493))] [] g := by
  unfold fX12_readAtom at hf
  refine z_aload_n hX dX12_readAtom_0 0 rfl ?_
  refine z_bipush hX dX12_readAtom_1 cb_40 ?_
  replace hf := zb2_some hf
  obtain ⟨r_1, g1, h1, hf⟩ := hf
  refine z_callV1 hX ok_X12_sign q1747 q1749 q62 (zrm_okd hR (by omega)) (ct_X12_sign  h1) (zrec_Model hX zq_493) dX12_readAtom_3 rfl rfl ?_
  refine z_if_eq hX 56 dX12_readAtom_6 (by decide) (fun h2 => ?_) (fun h2 => ?_)
  · replace hf := zif_pos h2 hf
    refine z_aload_n hX dX12_readAtom_56 0 rfl ?_
    refine z_ldcs hX dX12_readAtom_57 (i := 31) rfl ?_
    replace hf := zb2_some hf
    obtain ⟨r_3, g3, h3, hf⟩ := hf
    refine z_callV1 hX ok_X12_passes q1731 q1733 q58 (zrm_okd hR (by omega)) (ct_X12_passes  h3) (zrec_Model hX zq_493) dX12_readAtom_59 rfl rfl ?_
    refine z_if_eq hX 114 dX12_readAtom_62 (by decide) (fun h4 => ?_) (fun h4 => ?_)
    · replace hf := zif_pos h4 hf
      refine z_aload_n hX dX12_readAtom_114 0 rfl ?_
      replace hf := zb2_some hf
      obtain ⟨r_5, g5, h5, hf⟩ := hf
      refine z_callV1 hX ok_X12_readTag q1756 q1758 q64 (zrm_okd hR (by omega)) (ct_X12_readTag  h5) (zrec_Model hX zq_493) dX12_readAtom_115 rfl rfl ?_
      refine z_if_eq hX 123 dX12_readAtom_118 (by decide) (fun h6 => ?_) (fun h6 => ?_)
      · replace hf := zif_pos h6 hf
        refine z_aload_n hX dX12_readAtom_123 0 rfl ?_
        replace hf := zb2_some hf
        obtain ⟨r_7, g7, h7, hf⟩ := hf
        refine z_callV1 hX ok_X12_readSum q1761 q1763 q65 (zrm_okd hR (by omega)) (ct_X12_readSum  h7) (zrec_Model hX zq_493) dX12_readAtom_124 rfl rfl ?_
        refine z_if_ne hX 132 dX12_readAtom_127 (by decide) (fun h8 => ?_) (fun h8 => ?_)
        · replace hf := zif_neg h8 hf
          refine z_aload_n hX dX12_readAtom_132 0 rfl ?_
          refine z_bipush hX dX12_readAtom_133 cb_60 ?_
          replace hf := zb2_some hf
          obtain ⟨r_9, g9, h9, hf⟩ := hf
          refine z_callV1 hX ok_X12_sign q1747 q1749 q62 (zrm_okd hR (by omega)) (ct_X12_sign  h9) (zrec_Model hX zq_493) dX12_readAtom_135 rfl rfl ?_
          refine z_istore_n (lv' := [(1, .int r_9), (0, .ref (zB X + 493))]) hX dX12_readAtom_138 hn (by decide) rfl ?_
          refine z_iload_n hX dX12_readAtom_139 0 rfl ?_
          refine zjoin_ok (P := fun (k : zM → Option (Int32 × zM)) => ∀ (g10 : zM), k g10 = some r → zW X (zQ X (.inl (some (.int r.1), r.2)) 0) 0 0 152 [(0, .ref (zB X + 493)), (1, .int r_9)] [] g10) hf (fun g10 hf => ?_) (fun k152 hk152 hf => ?_)
          · refine z_aload_n hX dX12_readAtom_152 0 rfl ?_
            replace hf := zb2_some hf
            obtain ⟨r_11, g11, h11, hf⟩ := hf
            refine z_callV1 hX ok_X12_readSum q1761 q1763 q65 (zrm_okd hR (by omega)) (ct_X12_readSum  h11) (zrec_Model hX zq_493) dX12_readAtom_153 rfl rfl ?_
            refine z_if_ne hX 161 dX12_readAtom_156 (by decide) (fun h12 => ?_) (fun h12 => ?_)
            · replace hf := zif_neg h12 hf
              refine z_aload_n hX dX12_readAtom_161 0 rfl ?_
              refine z_iload_n hX dX12_readAtom_162 1 rfl ?_
              refine z_if_eq hX 171 dX12_readAtom_163 (by decide) (fun h13 => ?_) (fun h13 => ?_)
              · replace hf := zif_pos h13 hf
                refine z_bipush hX dX12_readAtom_171 cb_11 ?_
                refine z_iconst hX dX12_readAtom_173 ci_0 ?_
                replace hf := zb_some hf
                obtain ⟨g14, h14, hf⟩ := hf
                refine z_callV0 hX ok_X12_emits q1752 q1754 q63 (zrm_okd hR (by omega)) (ct_X12_emits  h14) (zrec_Model hX zq_493) dX12_readAtom_174 rfl rfl ?_
                refine z_iconst hX dX12_readAtom_177 ci_1 ?_
                obtain rfl := Option.some.inj hf
                exact z_iret hX hr (zbn (Or.inr rfl)) (zl rfl) (zl rfl) dX12_readAtom_178
              · replace hf := zif_neg h13 hf
                refine z_bipush hX dX12_readAtom_166 cb_10 ?_
                refine z_goto hX 173 dX12_readAtom_168 (by decide) ?_
                refine z_iconst hX dX12_readAtom_173 ci_0 ?_
                replace hf := zb_some hf
                obtain ⟨g15, h15, hf⟩ := hf
                refine z_callV0 hX ok_X12_emits q1752 q1754 q63 (zrm_okd hR (by omega)) (ct_X12_emits  h15) (zrec_Model hX zq_493) dX12_readAtom_174 rfl rfl ?_
                refine z_iconst hX dX12_readAtom_177 ci_1 ?_
                obtain rfl := Option.some.inj hf
                exact z_iret hX hr (zbn (Or.inr rfl)) (zl rfl) (zl rfl) dX12_readAtom_178
            · replace hf := zif_pos h12 hf
              refine z_iconst hX dX12_readAtom_159 ci_0 ?_
              obtain rfl := Option.some.inj hf
              exact z_iret hX hr (zbn (Or.inl rfl)) (zl rfl) (zl rfl) dX12_readAtom_160
          · refine z_if_ne hX 152 dX12_readAtom_140 (by decide) (fun h16 => ?_) (fun h16 => ?_)
            · replace hf := zif_neg h16 hf
              refine zW.sub [1, 0] rfl ?_
              exact hk152 g9 hf
            · replace hf := zif_pos h16 hf
              refine z_aload_n hX dX12_readAtom_143 1 rfl ?_
              refine z_bipush hX dX12_readAtom_144 cb_62 ?_
              replace hf := zb2_some hf
              obtain ⟨r_17, g17, h17, hf⟩ := hf
              refine z_callV1 hX ok_X12_sign q1747 q1749 q62 (zrm_okd hR (by omega)) (ct_X12_sign  h17) (zrec_Model hX zq_493) dX12_readAtom_146 rfl rfl ?_
              refine z_if_eq hX 159 dX12_readAtom_149 (by decide) (fun h18 => ?_) (fun h18 => ?_)
              · replace hf := zif_pos h18 hf
                refine z_iconst hX dX12_readAtom_159 ci_0 ?_
                obtain rfl := Option.some.inj hf
                exact z_iret hX hr (zbn (Or.inl rfl)) (zl rfl) (zl rfl) dX12_readAtom_160
              · replace hf := zif_neg h18 hf
                refine zW.sub [1, 0] rfl ?_
                exact hk152 g17 hf
        · replace hf := zif_pos h8 hf
          refine z_iconst hX dX12_readAtom_130 ci_0 ?_
          obtain rfl := Option.some.inj hf
          exact z_iret hX hr (zbn (Or.inl rfl)) (zl rfl) (zl rfl) dX12_readAtom_131
      · replace hf := zif_neg h6 hf
        refine z_iconst hX dX12_readAtom_121 ci_1 ?_
        obtain rfl := Option.some.inj hf
        exact z_iret hX hr (zbn (Or.inr rfl)) (zl rfl) (zl rfl) dX12_readAtom_122
    · replace hf := zif_neg h4 hf
      refine z_aload_n hX dX12_readAtom_65 0 rfl ?_
      refine gf_Model_deep hX zq_493 q1507 dX12_readAtom_66 ?_
      refine z_bipush hX dX12_readAtom_69 cb_6 ?_
      refine z_icmp_ne hX 76 dX12_readAtom_71 (by decide) (fun h19 => ?_) (fun h19 => ?_)
      · replace hf := zif_neg h19 hf
        refine z_aload_n hX dX12_readAtom_76 0 rfl ?_
        refine z_dup hX dX12_readAtom_77 rfl ?_
        refine gf_Model_deep hX zq_493 q1507 dX12_readAtom_78 ?_
        refine z_iconst hX dX12_readAtom_81 ci_1 ?_
        refine z_iadd hX dX12_readAtom_82 ?_
        replace hf := zput_some hf
        obtain ⟨g20, eg20, hf⟩ := hf
        refine gp_Model_deep hX zq_493 q1507 dX12_readAtom_83 (zW.eqg eg20 ?_)
        refine z_aload_n hX dX12_readAtom_86 0 rfl ?_
        replace hf := zb2_some hf
        obtain ⟨r_21, g21, h21, hf⟩ := hf
        refine z_callV1 hX ok_X12_readAtom q1743 q1745 q61 (zrm_okd hR (by omega)) (hrec_readAtom _ _ _ h21) (zrec_Model hX zq_493) dX12_readAtom_87 rfl rfl ?_
        refine z_if_ne hX 95 dX12_readAtom_90 (by decide) (fun h22 => ?_) (fun h22 => ?_)
        · replace hf := zif_neg h22 hf
          refine z_aload_n hX dX12_readAtom_95 0 rfl ?_
          refine z_dup hX dX12_readAtom_96 rfl ?_
          refine gf_Model_deep hX zq_493 q1507 dX12_readAtom_97 ?_
          refine z_iconst hX dX12_readAtom_100 ci_1 ?_
          refine z_isub hX dX12_readAtom_101 ?_
          replace hf := zput_some hf
          obtain ⟨g23, eg23, hf⟩ := hf
          refine gp_Model_deep hX zq_493 q1507 dX12_readAtom_102 (zW.eqg eg23 ?_)
          refine z_aload_n hX dX12_readAtom_105 0 rfl ?_
          refine z_bipush hX dX12_readAtom_106 cb_12 ?_
          refine z_iconst hX dX12_readAtom_108 ci_0 ?_
          replace hf := zb_some hf
          obtain ⟨g24, h24, hf⟩ := hf
          refine z_callV0 hX ok_X12_emits q1752 q1754 q63 (zrm_okd hR (by omega)) (ct_X12_emits  h24) (zrec_Model hX zq_493) dX12_readAtom_109 rfl rfl ?_
          refine z_iconst hX dX12_readAtom_112 ci_1 ?_
          obtain rfl := Option.some.inj hf
          exact z_iret hX hr (zbn (Or.inr rfl)) (zl rfl) (zl rfl) dX12_readAtom_113
        · replace hf := zif_pos h22 hf
          refine z_iconst hX dX12_readAtom_93 ci_0 ?_
          obtain rfl := Option.some.inj hf
          exact z_iret hX hr (zbn (Or.inl rfl)) (zl rfl) (zl rfl) dX12_readAtom_94
      · replace hf := zif_pos h19 hf
        refine z_iconst hX dX12_readAtom_74 ci_0 ?_
        obtain rfl := Option.some.inj hf
        exact z_iret hX hr (zbn (Or.inl rfl)) (zl rfl) (zl rfl) dX12_readAtom_75
  · replace hf := zif_neg h2 hf
    refine z_aload_n hX dX12_readAtom_9 0 rfl ?_
    refine gf_Model_deep hX zq_493 q1507 dX12_readAtom_10 ?_
    refine z_bipush hX dX12_readAtom_13 cb_6 ?_
    refine z_icmp_ne hX 20 dX12_readAtom_15 (by decide) (fun h25 => ?_) (fun h25 => ?_)
    · replace hf := zif_neg h25 hf
      refine z_aload_n hX dX12_readAtom_20 0 rfl ?_
      refine z_dup hX dX12_readAtom_21 rfl ?_
      refine gf_Model_deep hX zq_493 q1507 dX12_readAtom_22 ?_
      refine z_iconst hX dX12_readAtom_25 ci_1 ?_
      refine z_iadd hX dX12_readAtom_26 ?_
      replace hf := zput_some hf
      obtain ⟨g26, eg26, hf⟩ := hf
      refine gp_Model_deep hX zq_493 q1507 dX12_readAtom_27 (zW.eqg eg26 ?_)
      refine z_aload_n hX dX12_readAtom_30 0 rfl ?_
      replace hf := zb2_some hf
      obtain ⟨r_27, g27, h27, hf⟩ := hf
      refine z_callV1 hX ok_X12_readCond q1735 q1737 q59 (zrm_okd hR (by omega)) (hrec_readCond _ _ _ h27) (zrec_Model hX zq_493) dX12_readAtom_31 rfl rfl ?_
      refine z_if_ne hX 39 dX12_readAtom_34 (by decide) (fun h28 => ?_) (fun h28 => ?_)
      · replace hf := zif_neg h28 hf
        refine z_aload_n hX dX12_readAtom_39 0 rfl ?_
        refine z_dup hX dX12_readAtom_40 rfl ?_
        refine gf_Model_deep hX zq_493 q1507 dX12_readAtom_41 ?_
        refine z_iconst hX dX12_readAtom_44 ci_1 ?_
        refine z_isub hX dX12_readAtom_45 ?_
        replace hf := zput_some hf
        obtain ⟨g29, eg29, hf⟩ := hf
        refine gp_Model_deep hX zq_493 q1507 dX12_readAtom_46 (zW.eqg eg29 ?_)
        refine z_aload_n hX dX12_readAtom_49 0 rfl ?_
        refine z_bipush hX dX12_readAtom_50 cb_41 ?_
        replace hf := zb2_some hf
        obtain ⟨r_30, g30, h30, hf⟩ := hf
        refine z_callV1 hX ok_X12_sign q1747 q1749 q62 (zrm_okd hR (by omega)) (ct_X12_sign  h30) (zrec_Model hX zq_493) dX12_readAtom_52 rfl rfl ?_
        replace hf := zbo_some hf
        obtain ⟨h31, hf⟩ := hf
        obtain rfl := Option.some.inj hf
        exact z_iret hX hr (zbn h31) (zl rfl) (zl rfl) dX12_readAtom_55
      · replace hf := zif_pos h28 hf
        refine z_iconst hX dX12_readAtom_37 ci_0 ?_
        obtain rfl := Option.some.inj hf
        exact z_iret hX hr (zbn (Or.inl rfl)) (zl rfl) (zl rfl) dX12_readAtom_38
    · replace hf := zif_pos h25 hf
      refine z_iconst hX dX12_readAtom_18 ci_0 ?_
      obtain rfl := Option.some.inj hf
      exact z_iret hX hr (zbn (Or.inl rfl)) (zl rfl) (zl rfl) dX12_readAtom_19
set_option maxHeartbeats 4000000 in
set_option maxRecDepth 100000 in
theorem ct_X12_readAtom {E : zE} {d0 : Nat} (hd0 : 20 ≤ d0) {rec_readCond : zM → Option (Int32 × zM)} {rec_readAtom : zM → Option (Int32 × zM)} (hrec_readCond : ∀ (E : zE)  (g : zM) (r : Int32 × zM), rec_readCond  g = some r → zCt yX12_readCond cX12_readCond 1 (some .boolean) d0 0 E [.ref (E.1 + 493)] g (.inl (some (.int r.1), r.2))) (hrec_readAtom : ∀ (E : zE)  (g : zM) (r : Int32 × zM), rec_readAtom  g = some r → zCt yX12_readAtom cX12_readAtom 2 (some .boolean) d0 0 E [.ref (E.1 + 493)] g (.inl (some (.int r.1), r.2))) {g : zM} {r : Int32 × zM} (hf : fX12_readAtom rec_readCond rec_readAtom g = some r) : zCt yX12_readAtom cX12_readAtom 2 (some .boolean) (d0 + 2) 0 E [.ref (E.1 + 493)] g (.inl (some (.int r.1), r.2)) := by
  refine zmet (by decide) (zl rfl) (fun X hE hX hT hR hr hn => ?_)
  subst hE
  exact fX12_readAtom_ok hd0 hX hT hR hr hn hrec_readCond hrec_readAtom hf
def fX12_lev : Nat → (zM → Option (Int32 × zM)) × (zM → Option (Int32 × zM))
  | 0 => ((fun _ => none), (fun _ => none))
  | n + 1 => (fX12_readCond (fX12_lev n).1 (fX12_lev n).2, fX12_readAtom (fX12_lev n).1 (fX12_lev n).2)
def fX12_readCond_T  (g : zM) : Option (Int32 × zM) := (fX12_lev 20).1  g
def fX12_readAtom_T  (g : zM) : Option (Int32 × zM) := (fX12_lev 20).2  g
theorem fX12_lev_ok : ∀ n : Nat, (∀ (E : zE)  (g : zM) (r : Int32 × zM), (fX12_lev n).1  g = some r → zCt yX12_readCond cX12_readCond 1 (some .boolean) (20 + 2 * n) 0 E [.ref (E.1 + 493)] g (.inl (some (.int r.1), r.2))) ∧ (∀ (E : zE)  (g : zM) (r : Int32 × zM), (fX12_lev n).2  g = some r → zCt yX12_readAtom cX12_readAtom 2 (some .boolean) (20 + 2 * n) 0 E [.ref (E.1 + 493)] g (.inl (some (.int r.1), r.2))) := by
  intro n
  induction n with
  | zero => exact ⟨fun _ _ _ hf => zno hf, fun _ _ _ hf => zno hf⟩
  | succ n ih => exact ⟨fun _ _ _ hf => ct_X12_readCond (d0 := 20 + 2 * n) (by omega) ih.1 ih.2 hf, fun _ _ _ hf => ct_X12_readAtom (d0 := 20 + 2 * n) (by omega) ih.1 ih.2 hf⟩
theorem ct_X12_readCond_T {E : zE}  {g : zM} {r : Int32 × zM} (hf : fX12_readCond_T  g = some r) : zCt yX12_readCond cX12_readCond 1 (some .boolean) 60 0 E [.ref (E.1 + 493)] g (.inl (some (.int r.1), r.2)) := (fX12_lev_ok 20).1 _ _ _ hf
theorem ct_X12_readAtom_T {E : zE}  {g : zM} {r : Int32 × zM} (hf : fX12_readAtom_T  g = some r) : zCt yX12_readAtom cX12_readAtom 2 (some .boolean) 60 0 E [.ref (E.1 + 493)] g (.inl (some (.int r.1), r.2)) := (fX12_lev_ok 20).2 _ _ _ hf
def fX12_readLawLine (v1 : Int32) (g : zM) : Option (Int32 × zM) := zb (fX12_kindTold g) (fun r_1 => zchk (1310 + (4 * v1)) 2158 (zput g 494 (1310 + (4 * v1)).toNatClampNeg r_1 (fun g3 => zchk (1310 + (4 * v1)) 2158 (if 0 ≤ (g3 494 (1310 + (4 * v1)).toNatClampNeg) then zb (fX12_lettersPass g3) (fun g6 => zb (fX12_isWord 29 g6) (fun r_7 => if r_7 = 0 then some (0, g6) else zb2 (fX12_kindNext g6) (fun r_9 g9 => zchk ((1310 + (4 * v1)) + 1) 2158 (zput g9 494 ((1310 + (4 * v1)) + 1).toNatClampNeg r_9 (fun g11 => zchk ((1310 + (4 * v1)) + 1) 2158 (if 0 ≤ (g11 494 ((1310 + (4 * v1)) + 1).toNatClampNeg) then zchk ((1310 + (4 * v1)) + 2) 2158 (zput g11 494 ((1310 + (4 * v1)) + 2).toNatClampNeg (g11 493 16) (fun g15 => zput g15 493 13 0 (fun g16 => zb2 (fX12_passes 30 g16) (fun r_17 g17 => zjoin (fun g18 => zchk ((1310 + (4 * v1)) + 3) 2158 (zput g18 494 ((1310 + (4 * v1)) + 3).toNatClampNeg (g18 493 16) (fun g20 => some (1, g20))) : zM → Option (Int32 × zM)) (fun k104 => if r_17 = 0 then k104 g17 else zb2 (fX12_readCond_T g17) (fun r_22 g22 => if r_22 = 0 then some (0, g22) else k104 g22)))))) else some (0, g11))))))) else some (0, g3)))))
set_option maxHeartbeats 4000000 in
set_option maxRecDepth 100000 in
theorem fX12_readLawLine_ok {X : zX} (hX : zCX X cX12_readLawLine RX12) (hT : zNT X) (hR : X.2.2.2.1 = zrm 61 0) (hr : X.2.2.2.2.2.2.2.2.1.sig.returnType = (some .boolean)) (hn : X.2.2.2.2.2.2.2.2.2.1.maxLocals = 3) {v1 : Int32} {g : zM} {r : Int32 × zM} (hf : fX12_readLawLine v1 g = some r) : zW X (zQ X (.inl (some (.int r.1), r.2)) 0) 0 0 0 [(0, .ref (zB X + 493)), (1, .int v1)] [] g := by
  unfold fX12_readLawLine at hf
  refine z_sipush hX dX12_readLawLine_0 cs_1310 ?_
  refine z_iconst hX dX12_readLawLine_3 ci_4 ?_
  refine z_iload_n hX dX12_readLawLine_4 1 rfl ?_
  refine z_imul hX dX12_readLawLine_5 ?_
  refine z_iadd hX dX12_readLawLine_6 ?_
  refine z_istore_n (lv' := [(2, .int (1310 + (4 * v1))), (0, .ref (zB X + 493)), (1, .int v1)]) hX dX12_readLawLine_7 hn (by decide) rfl ?_
  refine z_aload_n hX dX12_readLawLine_8 1 rfl ?_
  refine gf_Model_world hX zq_493 q1495 dX12_readLawLine_9 ?_
  refine z_iload_n hX dX12_readLawLine_12 0 rfl ?_
  refine z_aload_n hX dX12_readLawLine_13 1 rfl ?_
  replace hf := zb_some hf
  obtain ⟨r_1, h1, hf⟩ := hf
  refine z_callV1 hX ok_X12_kindTold q1700 q1702 q52 (zrm_ok hR (by decide)) (ct_X12_kindTold  h1) (zrec_Model hX zq_493) dX12_readLawLine_14 rfl rfl ?_
  replace hf := zchk_some hf
  obtain ⟨h2, hf⟩ := hf
  replace hf := zput_some hf
  obtain ⟨g3, eg3, hf⟩ := hf
  refine z_iast hX zq_494 (by decide) (zc_3158 _ _) h2 dX12_readLawLine_17 (zW.eqg eg3 ?_)
  refine z_aload_n hX dX12_readLawLine_18 1 rfl ?_
  refine gf_Model_world hX zq_493 q1495 dX12_readLawLine_19 ?_
  refine z_iload_n hX dX12_readLawLine_22 0 rfl ?_
  replace hf := zchk_some hf
  obtain ⟨h4, hf⟩ := hf
  refine z_iald hX zq_494 (by decide) (zc_3158 _ _ _) h4 dX12_readLawLine_23 ?_
  refine z_if_ge hX 29 dX12_readLawLine_24 (by decide) (fun h5 => ?_) (fun h5 => ?_)
  · replace hf := zif_pos h5 hf
    refine z_aload_n hX dX12_readLawLine_29 1 rfl ?_
    replace hf := zb_some hf
    obtain ⟨g6, h6, hf⟩ := hf
    refine z_callV0 hX ok_X12_lettersPass q1633 q1635 q39 (zrm_ok hR (by decide)) (ct_X12_lettersPass  h6) (zrec_Model hX zq_493) dX12_readLawLine_30 rfl rfl ?_
    refine z_aload_n hX dX12_readLawLine_33 1 rfl ?_
    refine z_ldcs hX dX12_readLawLine_34 (i := 29) rfl ?_
    replace hf := zb_some hf
    obtain ⟨r_7, h7, hf⟩ := hf
    refine z_callV1 hX ok_X12_isWord q1642 q1644 q41 (zrm_ok hR (by decide)) (ct_X12_isWord  h7) (zrec_Model hX zq_493) dX12_readLawLine_36 rfl rfl ?_
    refine z_if_ne hX 44 dX12_readLawLine_39 (by decide) (fun h8 => ?_) (fun h8 => ?_)
    · replace hf := zif_neg h8 hf
      refine z_aload_n hX dX12_readLawLine_44 1 rfl ?_
      refine gf_Model_world hX zq_493 q1495 dX12_readLawLine_45 ?_
      refine z_iload_n hX dX12_readLawLine_48 0 rfl ?_
      refine z_iconst hX dX12_readLawLine_49 ci_1 ?_
      refine z_iadd hX dX12_readLawLine_50 ?_
      refine z_aload_n hX dX12_readLawLine_51 1 rfl ?_
      replace hf := zb2_some hf
      obtain ⟨r_9, g9, h9, hf⟩ := hf
      refine z_callV1 hX ok_X12_kindNext q1696 q1698 q51 (zrm_ok hR (by decide)) (ct_X12_kindNext  h9) (zrec_Model hX zq_493) dX12_readLawLine_52 rfl rfl ?_
      replace hf := zchk_some hf
      obtain ⟨h10, hf⟩ := hf
      replace hf := zput_some hf
      obtain ⟨g11, eg11, hf⟩ := hf
      refine z_iast hX zq_494 (by decide) (zc_3158 _ _) h10 dX12_readLawLine_55 (zW.eqg eg11 ?_)
      refine z_aload_n hX dX12_readLawLine_56 1 rfl ?_
      refine gf_Model_world hX zq_493 q1495 dX12_readLawLine_57 ?_
      refine z_iload_n hX dX12_readLawLine_60 0 rfl ?_
      refine z_iconst hX dX12_readLawLine_61 ci_1 ?_
      refine z_iadd hX dX12_readLawLine_62 ?_
      replace hf := zchk_some hf
      obtain ⟨h12, hf⟩ := hf
      refine z_iald hX zq_494 (by decide) (zc_3158 _ _ _) h12 dX12_readLawLine_63 ?_
      refine z_if_ge hX 69 dX12_readLawLine_64 (by decide) (fun h13 => ?_) (fun h13 => ?_)
      · replace hf := zif_pos h13 hf
        refine z_aload_n hX dX12_readLawLine_69 1 rfl ?_
        refine gf_Model_world hX zq_493 q1495 dX12_readLawLine_70 ?_
        refine z_iload_n hX dX12_readLawLine_73 0 rfl ?_
        refine z_iconst hX dX12_readLawLine_74 ci_2 ?_
        refine z_iadd hX dX12_readLawLine_75 ?_
        refine z_aload_n hX dX12_readLawLine_76 1 rfl ?_
        refine gf_Model_steps hX zq_493 q1510 dX12_readLawLine_77 ?_
        replace hf := zchk_some hf
        obtain ⟨h14, hf⟩ := hf
        replace hf := zput_some hf
        obtain ⟨g15, eg15, hf⟩ := hf
        refine z_iast hX zq_494 (by decide) (zc_3158 _ _) h14 dX12_readLawLine_80 (zW.eqg eg15 ?_)
        refine z_aload_n hX dX12_readLawLine_81 1 rfl ?_
        refine z_iconst hX dX12_readLawLine_82 ci_0 ?_
        replace hf := zput_some hf
        obtain ⟨g16, eg16, hf⟩ := hf
        refine gp_Model_deep hX zq_493 q1507 dX12_readLawLine_83 (zW.eqg eg16 ?_)
        refine z_aload_n hX dX12_readLawLine_86 1 rfl ?_
        refine z_ldcs hX dX12_readLawLine_87 (i := 30) rfl ?_
        replace hf := zb2_some hf
        obtain ⟨r_17, g17, h17, hf⟩ := hf
        refine z_callV1 hX ok_X12_passes q1731 q1733 q58 (zrm_ok hR (by decide)) (ct_X12_passes  h17) (zrec_Model hX zq_493) dX12_readLawLine_89 rfl rfl ?_
        refine zjoin_ok (P := fun (k : zM → Option (Int32 × zM)) => ∀ (g18 : zM), k g18 = some r → zW X (zQ X (.inl (some (.int r.1), r.2)) 0) 0 0 104 [(0, .ref (zB X + 493)), (2, .int (1310 + (4 * v1)))] [] g18) hf (fun g18 hf => ?_) (fun k104 hk104 hf => ?_)
        · refine z_aload_n hX dX12_readLawLine_104 0 rfl ?_
          refine gf_Model_world hX zq_493 q1495 dX12_readLawLine_105 ?_
          refine z_iload_n hX dX12_readLawLine_108 1 rfl ?_
          refine z_iconst hX dX12_readLawLine_109 ci_3 ?_
          refine z_iadd hX dX12_readLawLine_110 ?_
          refine z_aload_n hX dX12_readLawLine_111 0 rfl ?_
          refine gf_Model_steps hX zq_493 q1510 dX12_readLawLine_112 ?_
          replace hf := zchk_some hf
          obtain ⟨h19, hf⟩ := hf
          replace hf := zput_some hf
          obtain ⟨g20, eg20, hf⟩ := hf
          refine z_iast hX zq_494 (by decide) (zc_3158 _ _) h19 dX12_readLawLine_115 (zW.eqg eg20 ?_)
          refine z_iconst hX dX12_readLawLine_116 ci_1 ?_
          obtain rfl := Option.some.inj hf
          exact z_iret hX hr (zbn (Or.inr rfl)) (zl rfl) (zl rfl) dX12_readLawLine_117
        · refine z_if_eq hX 104 dX12_readLawLine_92 (by decide) (fun h21 => ?_) (fun h21 => ?_)
          · replace hf := zif_pos h21 hf
            refine zW.sub [1, 0] rfl ?_
            exact hk104 g17 hf
          · replace hf := zif_neg h21 hf
            refine z_aload_n hX dX12_readLawLine_95 1 rfl ?_
            replace hf := zb2_some hf
            obtain ⟨r_22, g22, h22, hf⟩ := hf
            refine z_callV1 hX ok_X12_readCond q1735 q1737 q59 (zrm_ok hR (by decide)) (ct_X12_readCond_T  h22) (zrec_Model hX zq_493) dX12_readLawLine_96 rfl rfl ?_
            refine z_if_ne hX 104 dX12_readLawLine_99 (by decide) (fun h23 => ?_) (fun h23 => ?_)
            · replace hf := zif_neg h23 hf
              refine zW.sub [1, 0] rfl ?_
              exact hk104 g22 hf
            · replace hf := zif_pos h23 hf
              refine z_iconst hX dX12_readLawLine_102 ci_0 ?_
              obtain rfl := Option.some.inj hf
              exact z_iret hX hr (zbn (Or.inl rfl)) (zl rfl) (zl rfl) dX12_readLawLine_103
      · replace hf := zif_neg h13 hf
        refine z_iconst hX dX12_readLawLine_67 ci_0 ?_
        obtain rfl := Option.some.inj hf
        exact z_iret hX hr (zbn (Or.inl rfl)) (zl rfl) (zl rfl) dX12_readLawLine_68
    · replace hf := zif_pos h8 hf
      refine z_iconst hX dX12_readLawLine_42 ci_0 ?_
      obtain rfl := Option.some.inj hf
      exact z_iret hX hr (zbn (Or.inl rfl)) (zl rfl) (zl rfl) dX12_readLawLine_43
  · replace hf := zif_neg h5 hf
    refine z_iconst hX dX12_readLawLine_27 ci_0 ?_
    obtain rfl := Option.some.inj hf
    exact z_iret hX hr (zbn (Or.inl rfl)) (zl rfl) (zl rfl) dX12_readLawLine_28
set_option maxHeartbeats 4000000 in
set_option maxRecDepth 100000 in
theorem ct_X12_readLawLine {E : zE} {v1 : Int32} {g : zM} {r : Int32 × zM} (hf : fX12_readLawLine v1 g = some r) : zCt yX12_readLawLine cX12_readLawLine 3 (some .boolean) 61 0 E [.ref (E.1 + 493), .int v1] g (.inl (some (.int r.1), r.2)) := by
  refine zmet (by decide) (zl rfl) (fun X hE hX hT hR hr hn => ?_)
  subst hE
  exact fX12_readLawLine_ok hX hT hR hr hn  hf
def fX12_readLine (v1 : Int32) (v2 : Int32) (g : zM) : Option (Int32 × zM) := zb (fX12_lettersPass g) (fun g1 => zjoin (fun t0_2 => if t0_2 ≤ v2 then some (0, g1) else if v1 = 0 then zb2 (fX12_readLawLine v2 g1) (fun r_5 g5 => if r_5 = 0 then some (0, g5) else some (1, g5)) else zb2 (fX12_readPostLine g1) (fun r_7 g7 => if r_7 = 0 then some (0, g7) else some (1, g7)) : Int32 → Option (Int32 × zM)) (fun k16 => if v1 = 0 then k16 12 else k16 14))
set_option maxHeartbeats 4000000 in
set_option maxRecDepth 100000 in
theorem fX12_readLine_ok {X : zX} (hX : zCX X cX12_readLine RX12) (hT : zNT X) (hR : X.2.2.2.1 = zrm 62 0) (hr : X.2.2.2.2.2.2.2.2.1.sig.returnType = (some .boolean)) (hn : X.2.2.2.2.2.2.2.2.2.1.maxLocals = 3) {v1 : Int32} {v2 : Int32} {g : zM} {r : Int32 × zM} (hf : fX12_readLine v1 v2 g = some r) : zW X (zQ X (.inl (some (.int r.1), r.2)) 0) 0 0 0 [(0, .ref (zB X + 493)), (1, .int v1), (2, .int v2)] [] g := by
  unfold fX12_readLine at hf
  refine z_aload_n hX dX12_readLine_0 0 rfl ?_
  replace hf := zb_some hf
  obtain ⟨g1, h1, hf⟩ := hf
  refine z_callV0 hX ok_X12_lettersPass q1633 q1635 q39 (zrm_ok hR (by decide)) (ct_X12_lettersPass  h1) (zrec_Model hX zq_493) dX12_readLine_1 rfl rfl ?_
  refine z_iload_n hX dX12_readLine_4 2 rfl ?_
  refine z_iload_n hX dX12_readLine_5 1 rfl ?_
  refine zjoin_ok (P := fun (k : Int32 → Option (Int32 × zM)) => ∀ (t0_2 : Int32), k t0_2 = some r → zW X (zQ X (.inl (some (.int r.1), r.2)) 0) 0 0 16 [(0, .ref (zB X + 493)), (1, .int v1), (2, .int v2)] [.int t0_2, .int v2] g1) hf (fun t0_2 hf => ?_) (fun k16 hk16 hf => ?_)
  · refine z_icmp_ge hX 45 dX12_readLine_16 (by decide) (fun h3 => ?_) (fun h3 => ?_)
    · replace hf := zif_pos h3 hf
      refine z_iconst hX dX12_readLine_45 ci_0 ?_
      obtain rfl := Option.some.inj hf
      exact z_iret hX hr (zbn (Or.inl rfl)) (zl rfl) (zl rfl) dX12_readLine_46
    · replace hf := zif_neg h3 hf
      refine z_iload_n hX dX12_readLine_19 1 rfl ?_
      refine z_if_eq hX 33 dX12_readLine_20 (by decide) (fun h4 => ?_) (fun h4 => ?_)
      · replace hf := zif_pos h4 hf
        refine z_aload_n hX dX12_readLine_33 0 rfl ?_
        refine z_iload_n hX dX12_readLine_34 2 rfl ?_
        replace hf := zb2_some hf
        obtain ⟨r_5, g5, h5, hf⟩ := hf
        refine z_callV1 hX ok_X12_readLawLine q1725 q1727 q57 (zrm_ok hR (by decide)) (ct_X12_readLawLine  h5) (zrec_Model hX zq_493) dX12_readLine_35 rfl rfl ?_
        refine z_if_eq hX 45 dX12_readLine_38 (by decide) (fun h6 => ?_) (fun h6 => ?_)
        · replace hf := zif_pos h6 hf
          refine z_iconst hX dX12_readLine_45 ci_0 ?_
          obtain rfl := Option.some.inj hf
          exact z_iret hX hr (zbn (Or.inl rfl)) (zl rfl) (zl rfl) dX12_readLine_46
        · replace hf := zif_neg h6 hf
          refine z_iconst hX dX12_readLine_41 ci_1 ?_
          refine z_goto hX 46 dX12_readLine_42 (by decide) ?_
          obtain rfl := Option.some.inj hf
          exact z_iret hX hr (zbn (Or.inr rfl)) (zl rfl) (zl rfl) dX12_readLine_46
      · replace hf := zif_neg h4 hf
        refine z_aload_n hX dX12_readLine_23 0 rfl ?_
        replace hf := zb2_some hf
        obtain ⟨r_7, g7, h7, hf⟩ := hf
        refine z_callV1 hX ok_X12_readPostLine q1637 q1639 q40 (zrm_ok hR (by decide)) (ct_X12_readPostLine  h7) (zrec_Model hX zq_493) dX12_readLine_24 rfl rfl ?_
        refine z_if_eq hX 45 dX12_readLine_27 (by decide) (fun h8 => ?_) (fun h8 => ?_)
        · replace hf := zif_pos h8 hf
          refine z_iconst hX dX12_readLine_45 ci_0 ?_
          obtain rfl := Option.some.inj hf
          exact z_iret hX hr (zbn (Or.inl rfl)) (zl rfl) (zl rfl) dX12_readLine_46
        · replace hf := zif_neg h8 hf
          refine z_goto hX 41 dX12_readLine_30 (by decide) ?_
          refine z_iconst hX dX12_readLine_41 ci_1 ?_
          refine z_goto hX 46 dX12_readLine_42 (by decide) ?_
          obtain rfl := Option.some.inj hf
          exact z_iret hX hr (zbn (Or.inr rfl)) (zl rfl) (zl rfl) dX12_readLine_46
  · refine z_if_eq hX 14 dX12_readLine_6 (by decide) (fun h9 => ?_) (fun h9 => ?_)
    · replace hf := zif_pos h9 hf
      refine z_bipush hX dX12_readLine_14 cb_12 ?_
      exact hk16 12 hf
    · replace hf := zif_neg h9 hf
      refine z_bipush hX dX12_readLine_9 cb_14 ?_
      refine z_goto hX 16 dX12_readLine_11 (by decide) ?_
      exact hk16 14 hf
set_option maxHeartbeats 4000000 in
set_option maxRecDepth 100000 in
theorem ct_X12_readLine {E : zE} {v1 : Int32} {v2 : Int32} {g : zM} {r : Int32 × zM} (hf : fX12_readLine v1 v2 g = some r) : zCt yX12_readLine cX12_readLine 3 (some .boolean) 62 0 E [.ref (E.1 + 493), .int v1, .int v2] g (.inl (some (.int r.1), r.2)) := by
  refine zmet (by decide) (zl rfl) (fun X hE hX hT hR hr hn => ?_)
  subst hE
  exact fX12_readLine_ok hX hT hR hr hn  hf
def fX12_readAll_L28 (v1 : Int32) (k54 : Int32 → zM → Option (Int32 × zM)) : Nat → Int32 → zM → Option (Int32 × zM)
  | 0, _, _ => none
  | n + 1, v2, g => zb2 (fX12_readLine v1 v2 g) (fun r_5 g5 => if r_5 = 0 then some ((-1), g5) else zb (fX12_blanks g5) (fun g7 => if (g7 493 10) = (g7 493 11) then k54 v2 g7 else zb (fX12_isAt 59 59 g7) (fun r_9 => if r_9 = 0 then some ((-1), g7) else zput g7 493 10 ((g7 493 10) + 1) (fun g11 => fX12_readAll_L28 v1 k54 n (v2 + 1) g11))))
def fX12_readAll (v1 : Int32) (g : zM) : Option (Int32 × zM) := zb (fX12_uses g) (fun g1 => zput g1 493 16 0 (fun g2 => zb (fX12_blanks g2) (fun g3 => if (g3 493 10) = (g3 493 11) then some (0, g3) else fX12_readAll_L28 v1 (fun v2_12 g12 => some (v2_12 + 1, g12)) zFU 0 g3)))
set_option maxHeartbeats 4000000 in
set_option maxRecDepth 100000 in
theorem fX12_readAll_L28_ok {X : zX} (hX : zCX X cX12_readAll RX12) (hT : zNT X) (hR : X.2.2.2.1 = zrm 63 0) (hr : X.2.2.2.2.2.2.2.2.1.sig.returnType = (some .int)) (hn : X.2.2.2.2.2.2.2.2.2.1.maxLocals = 3) {v1 : Int32} {k54 : Int32 → zM → Option (Int32 × zM)} {r : Int32 × zM} (hk54 : ∀ (v2 : Int32) (g : zM), k54 v2 g = some r → zW X (zQ X (.inl (some (.int r.1), r.2)) 0) 0 0 54 [(2, .int v2)] [] g) : ∀ (n : Nat) (v2 : Int32) (g : zM), fX12_readAll_L28 v1 k54 n v2 g = some r → zW X (zQ X (.inl (some (.int r.1), r.2)) 0) 0 0 28 [(0, .ref (zB X + 493)), (1, .int v1), (2, .int v2)] [] g := by
  intro n
  induction n with
  | zero => intro v2 g hf; exact zno hf
  | succ n ih =>
    intro v2 g hf
    rw [fX12_readAll_L28] at hf
    refine z_aload_n hX dX12_readAll_28 0 rfl ?_
    refine z_iload_n hX dX12_readAll_29 1 rfl ?_
    refine z_iload_n hX dX12_readAll_30 2 rfl ?_
    replace hf := zb2_some hf
    obtain ⟨r_5, g5, h5, hf⟩ := hf
    refine z_callV1 hX ok_X12_readLine q1629 q1631 q38 (zrm_ok hR (by decide)) (ct_X12_readLine  h5) (zrec_Model hX zq_493) dX12_readAll_31 rfl rfl ?_
    refine z_if_ne hX 39 dX12_readAll_34 (by decide) (fun h6 => ?_) (fun h6 => ?_)
    · replace hf := zif_neg h6 hf
      refine z_aload_n hX dX12_readAll_39 0 rfl ?_
      replace hf := zb_some hf
      obtain ⟨g7, h7, hf⟩ := hf
      refine z_callV0 hX ok_X12_blanks q1621 q1623 q36 (zrm_ok hR (by decide)) (ct_X12_blanks  h7) (zrec_Model hX zq_493) dX12_readAll_40 rfl rfl ?_
      refine z_aload_n hX dX12_readAll_43 0 rfl ?_
      refine gf_Model_point hX zq_493 q1504 dX12_readAll_44 ?_
      refine z_aload_n hX dX12_readAll_47 0 rfl ?_
      refine gf_Model_end hX zq_493 q1505 dX12_readAll_48 ?_
      refine z_icmp_ne hX 58 dX12_readAll_51 (by decide) (fun h8 => ?_) (fun h8 => ?_)
      · replace hf := zif_neg h8 hf
        refine z_aload_n hX dX12_readAll_58 0 rfl ?_
        refine z_bipush hX dX12_readAll_59 cb_59 ?_
        refine z_bipush hX dX12_readAll_61 cb_59 ?_
        replace hf := zb_some hf
        obtain ⟨r_9, h9, hf⟩ := hf
        refine z_callV1 hX ok_X12_isAt q1625 q1627 q37 (zrm_ok hR (by decide)) (ct_X12_isAt  h9) (zrec_Model hX zq_493) dX12_readAll_63 rfl rfl ?_
        refine z_if_ne hX 71 dX12_readAll_66 (by decide) (fun h10 => ?_) (fun h10 => ?_)
        · replace hf := zif_neg h10 hf
          refine z_aload_n hX dX12_readAll_71 0 rfl ?_
          refine z_dup hX dX12_readAll_72 rfl ?_
          refine gf_Model_point hX zq_493 q1504 dX12_readAll_73 ?_
          refine z_iconst hX dX12_readAll_76 ci_1 ?_
          refine z_iadd hX dX12_readAll_77 ?_
          replace hf := zput_some hf
          obtain ⟨g11, eg11, hf⟩ := hf
          refine gp_Model_point hX zq_493 q1504 dX12_readAll_78 (zW.eqg eg11 ?_)
          refine z_iincc (lv' := [(2, .int (v2 + 1)), (0, .ref (zB X + 493)), (1, .int v1)]) hX dX12_readAll_81 hn (by decide) 2 rfl ci_1 rfl ?_
          refine z_goto hX 28 dX12_readAll_84 (by decide) ?_
          refine zW.sub [1, 2, 0] rfl ?_
          exact ih (v2 + 1) g11 hf
        · replace hf := zif_pos h10 hf
          refine z_iconst hX dX12_readAll_69 ci_m1 ?_
          obtain rfl := Option.some.inj hf
          exact z_iret hX hr rfl (zl rfl) (zl rfl) dX12_readAll_70
      · replace hf := zif_pos h8 hf
        refine zW.sub [2] rfl ?_
        exact hk54 v2 g7 hf
    · replace hf := zif_pos h6 hf
      refine z_iconst hX dX12_readAll_37 ci_m1 ?_
      obtain rfl := Option.some.inj hf
      exact z_iret hX hr rfl (zl rfl) (zl rfl) dX12_readAll_38
set_option maxHeartbeats 4000000 in
set_option maxRecDepth 100000 in
theorem fX12_readAll_ok {X : zX} (hX : zCX X cX12_readAll RX12) (hT : zNT X) (hR : X.2.2.2.1 = zrm 63 0) (hr : X.2.2.2.2.2.2.2.2.1.sig.returnType = (some .int)) (hn : X.2.2.2.2.2.2.2.2.2.1.maxLocals = 3) {v1 : Int32} {g : zM} {r : Int32 × zM} (hf : fX12_readAll v1 g = some r) : zW X (zQ X (.inl (some (.int r.1), r.2)) 0) 0 0 0 [(0, .ref (zB X + 493)), (1, .int v1)] [] g := by
  unfold fX12_readAll at hf
  refine z_aload_n hX dX12_readAll_0 0 rfl ?_
  replace hf := zb_some hf
  obtain ⟨g1, h1, hf⟩ := hf
  refine z_callV0 hX ok_X12_uses q1617 q1619 q35 (zrm_ok hR (by decide)) (ct_X12_uses  h1) (zrec_Model hX zq_493) dX12_readAll_1 rfl rfl ?_
  refine z_aload_n hX dX12_readAll_4 0 rfl ?_
  refine z_iconst hX dX12_readAll_5 ci_0 ?_
  replace hf := zput_some hf
  obtain ⟨g2, eg2, hf⟩ := hf
  refine gp_Model_steps hX zq_493 q1510 dX12_readAll_6 (zW.eqg eg2 ?_)
  refine z_aload_n hX dX12_readAll_9 0 rfl ?_
  replace hf := zb_some hf
  obtain ⟨g3, h3, hf⟩ := hf
  refine z_callV0 hX ok_X12_blanks q1621 q1623 q36 (zrm_ok hR (by decide)) (ct_X12_blanks  h3) (zrec_Model hX zq_493) dX12_readAll_10 rfl rfl ?_
  refine z_aload_n hX dX12_readAll_13 0 rfl ?_
  refine gf_Model_point hX zq_493 q1504 dX12_readAll_14 ?_
  refine z_aload_n hX dX12_readAll_17 0 rfl ?_
  refine gf_Model_end hX zq_493 q1505 dX12_readAll_18 ?_
  refine z_icmp_ne hX 26 dX12_readAll_21 (by decide) (fun h4 => ?_) (fun h4 => ?_)
  · replace hf := zif_neg h4 hf
    refine z_iconst hX dX12_readAll_26 ci_0 ?_
    refine z_istore_n (lv' := [(2, .int 0), (0, .ref (zB X + 493)), (1, .int v1)]) hX dX12_readAll_27 hn (by decide) rfl ?_
    refine zW.sub [1, 2, 0] rfl ?_
    refine fX12_readAll_L28_ok hX hT hR hr hn (fun v2_12 g12 hf => ?_) zFU 0 g3 hf
    · refine z_iload_n hX dX12_readAll_54 0 rfl ?_
      refine z_iconst hX dX12_readAll_55 ci_1 ?_
      refine z_iadd hX dX12_readAll_56 ?_
      obtain rfl := Option.some.inj hf
      exact z_iret hX hr rfl (zl rfl) (zl rfl) dX12_readAll_57
  · replace hf := zif_pos h4 hf
    refine z_iconst hX dX12_readAll_24 ci_0 ?_
    obtain rfl := Option.some.inj hf
    exact z_iret hX hr rfl (zl rfl) (zl rfl) dX12_readAll_25
set_option maxHeartbeats 4000000 in
set_option maxRecDepth 100000 in
theorem ct_X12_readAll {E : zE} {v1 : Int32} {g : zM} {r : Int32 × zM} (hf : fX12_readAll v1 g = some r) : zCt yX12_readAll cX12_readAll 3 (some .int) 63 0 E [.ref (E.1 + 493), .int v1] g (.inl (some (.int r.1), r.2)) := by
  refine zmet (by decide) (zl rfl) (fun X hE hX hT hR hr hn => ?_)
  subst hE
  exact fX12_readAll_ok hX hT hR hr hn  hf
def fX12_post_L2 (k27 : zM → Option (Int32 × zM)) : Nat → Int32 → zM → Option (Int32 × zM)
  | 0, _, _ => none
  | n + 1, v1, g => if 1309 ≤ v1 then k27 g else zchk v1 2158 (zchk v1 1309 (zput g 496 v1.toNatClampNeg (g 494 v1.toNatClampNeg) (fun g4 => fX12_post_L2 k27 n (v1 + 1) g4)))
def fX12_post_L92  : Nat → Int32 → zM → Option (Int32 × zM)
  | 0, _, _ => none
  | n + 1, v2, g => if 1309 ≤ v2 then some (0, g) else zchk v2 1309 (zchk v2 2158 (zput g 494 v2.toNatClampNeg (g 496 v2.toNatClampNeg) (fun g15 => fX12_post_L92 n (v2 + 1) g15)))
def fX12_post (g : zM) : Option (Int32 × zM) := fX12_post_L2 (fun g5 => zb2 (fX12_readAll 1 g5) (fun r_6 g6 => zjoin (fun t0_7 => zput g6 493 14 t0_7 (fun g8 => zjoin (fun t0_9 => zb2 (fX12_throwsIf t0_9 1 g8) (fun r_10 g10 => if r_10 = 0 then zchk 2 2158 (zjoin (fun t0_17 => zb2 (fX12_throwsIf t0_17 2 g10) (fun r_18 g18 => if r_18 = 0 then zchk 2 2158 (zchk 2 2158 (zput g18 494 (2 : Int32).toNatClampNeg ((g18 494 (2 : Int32).toNatClampNeg) + 1) (fun g22 => zput g22 493 7 0 (fun g23 => zchk 2 2158 (some (g23 494 (2 : Int32).toNatClampNeg, g23)))))) else fX12_post_L92 zFU 0 g18) : Int32 → Option (Int32 × zM)) (fun k83 => if (g10 494 (2 : Int32).toNatClampNeg) = 12 then k83 1 else k83 0)) else fX12_post_L92 zFU 0 g10) : Int32 → Option (Int32 × zM)) (fun k59 => if 0 ≤ r_6 then k59 0 else k59 1)) : Int32 → Option (Int32 × zM)) (fun k46 => if 0 ≤ r_6 then k46 ((-1)) else k46 (g6 493 12)))) zFU 0 g
set_option maxHeartbeats 4000000 in
set_option maxRecDepth 100000 in
theorem fX12_post_L2_ok {X : zX} (hX : zCX X cX12_post RX12) (hT : zNT X) (hR : X.2.2.2.1 = zrm 64 0) (hr : X.2.2.2.2.2.2.2.2.1.sig.returnType = (some .int)) (hn : X.2.2.2.2.2.2.2.2.2.1.maxLocals = 3) {k27 : zM → Option (Int32 × zM)} {r : Int32 × zM} (hk27 : ∀ (g : zM), k27 g = some r → zW X (zQ X (.inl (some (.int r.1), r.2)) 0) 0 0 27 [(0, .ref (zB X + 493))] [] g) : ∀ (n : Nat) (v1 : Int32) (g : zM), fX12_post_L2 k27 n v1 g = some r → zW X (zQ X (.inl (some (.int r.1), r.2)) 0) 0 0 2 [(0, .ref (zB X + 493)), (1, .int v1)] [] g := by
  intro n
  induction n with
  | zero => intro v1 g hf; exact zno hf
  | succ n ih =>
    intro v1 g hf
    rw [fX12_post_L2] at hf
    refine z_iload_n hX dX12_post_2 1 rfl ?_
    refine z_sipush hX dX12_post_3 cs_1309 ?_
    refine z_icmp_ge hX 27 dX12_post_6 (by decide) (fun h1 => ?_) (fun h1 => ?_)
    · replace hf := zif_pos h1 hf
      refine zW.sub [0] rfl ?_
      exact hk27 g hf
    · replace hf := zif_neg h1 hf
      refine z_aload_n hX dX12_post_9 0 rfl ?_
      refine gf_Model_before hX zq_493 q1497 dX12_post_10 ?_
      refine z_iload_n hX dX12_post_13 1 rfl ?_
      refine z_aload_n hX dX12_post_14 0 rfl ?_
      refine gf_Model_world hX zq_493 q1495 dX12_post_15 ?_
      refine z_iload_n hX dX12_post_18 1 rfl ?_
      replace hf := zchk_some hf
      obtain ⟨h2, hf⟩ := hf
      refine z_iald hX zq_494 (by decide) (zc_3158 _ _ _) h2 dX12_post_19 ?_
      replace hf := zchk_some hf
      obtain ⟨h3, hf⟩ := hf
      replace hf := zput_some hf
      obtain ⟨g4, eg4, hf⟩ := hf
      refine z_iast hX zq_496 (by decide) (zc_2309 _ _) h3 dX12_post_20 (zW.eqg eg4 ?_)
      refine z_iincc (lv' := [(1, .int (v1 + 1)), (0, .ref (zB X + 493))]) hX dX12_post_21 hn (by decide) 1 rfl ci_1 rfl ?_
      refine z_goto hX 2 dX12_post_24 (by decide) ?_
      refine zW.sub [1, 0] rfl ?_
      exact ih (v1 + 1) g4 hf
set_option maxHeartbeats 4000000 in
set_option maxRecDepth 100000 in
theorem fX12_post_L92_ok {X : zX} (hX : zCX X cX12_post RX12) (hT : zNT X) (hR : X.2.2.2.1 = zrm 64 0) (hr : X.2.2.2.2.2.2.2.2.1.sig.returnType = (some .int)) (hn : X.2.2.2.2.2.2.2.2.2.1.maxLocals = 3)  {r : Int32 × zM}  : ∀ (n : Nat) (v2 : Int32) (g : zM), fX12_post_L92 n v2 g = some r → zW X (zQ X (.inl (some (.int r.1), r.2)) 0) 0 0 92 [(0, .ref (zB X + 493)), (2, .int v2)] [] g := by
  intro n
  induction n with
  | zero => intro v2 g hf; exact zno hf
  | succ n ih =>
    intro v2 g hf
    rw [fX12_post_L92] at hf
    refine z_iload_n hX dX12_post_92 1 rfl ?_
    refine z_sipush hX dX12_post_93 cs_1309 ?_
    refine z_icmp_ge hX 117 dX12_post_96 (by decide) (fun h12 => ?_) (fun h12 => ?_)
    · replace hf := zif_pos h12 hf
      refine z_iconst hX dX12_post_117 ci_0 ?_
      obtain rfl := Option.some.inj hf
      exact z_iret hX hr rfl (zl rfl) (zl rfl) dX12_post_118
    · replace hf := zif_neg h12 hf
      refine z_aload_n hX dX12_post_99 0 rfl ?_
      refine gf_Model_world hX zq_493 q1495 dX12_post_100 ?_
      refine z_iload_n hX dX12_post_103 1 rfl ?_
      refine z_aload_n hX dX12_post_104 0 rfl ?_
      refine gf_Model_before hX zq_493 q1497 dX12_post_105 ?_
      refine z_iload_n hX dX12_post_108 1 rfl ?_
      replace hf := zchk_some hf
      obtain ⟨h13, hf⟩ := hf
      refine z_iald hX zq_496 (by decide) (zc_2309 _ _ _) h13 dX12_post_109 ?_
      replace hf := zchk_some hf
      obtain ⟨h14, hf⟩ := hf
      replace hf := zput_some hf
      obtain ⟨g15, eg15, hf⟩ := hf
      refine z_iast hX zq_494 (by decide) (zc_3158 _ _) h14 dX12_post_110 (zW.eqg eg15 ?_)
      refine z_iincc (lv' := [(2, .int (v2 + 1)), (0, .ref (zB X + 493))]) hX dX12_post_111 hn (by decide) 1 rfl ci_1 rfl ?_
      refine z_goto hX 92 dX12_post_114 (by decide) ?_
      refine zW.sub [1, 0] rfl ?_
      exact ih (v2 + 1) g15 hf
set_option maxHeartbeats 4000000 in
set_option maxRecDepth 100000 in
theorem fX12_post_ok {X : zX} (hX : zCX X cX12_post RX12) (hT : zNT X) (hR : X.2.2.2.1 = zrm 64 0) (hr : X.2.2.2.2.2.2.2.2.1.sig.returnType = (some .int)) (hn : X.2.2.2.2.2.2.2.2.2.1.maxLocals = 3)  {g : zM} {r : Int32 × zM} (hf : fX12_post g = some r) : zW X (zQ X (.inl (some (.int r.1), r.2)) 0) 0 0 0 [(0, .ref (zB X + 493))] [] g := by
  unfold fX12_post at hf
  refine z_iconst hX dX12_post_0 ci_0 ?_
  refine z_istore_n (lv' := [(1, .int 0), (0, .ref (zB X + 493))]) hX dX12_post_1 hn (by decide) rfl ?_
  refine zW.sub [1, 0] rfl ?_
  refine fX12_post_L2_ok hX hT hR hr hn (fun g5 hf => ?_) zFU 0 g hf
  · refine z_aload_n hX dX12_post_27 0 rfl ?_
    refine z_iconst hX dX12_post_28 ci_1 ?_
    replace hf := zb2_some hf
    obtain ⟨r_6, g6, h6, hf⟩ := hf
    refine z_callV1 hX ok_X12_readAll q1613 q1615 q34 (zrm_ok hR (by decide)) (ct_X12_readAll  h6) (zrec_Model hX zq_493) dX12_post_29 rfl rfl ?_
    refine z_istore_n (lv' := [(1, .int r_6), (0, .ref (zB X + 493))]) hX dX12_post_32 hn (by decide) rfl ?_
    refine z_aload_n hX dX12_post_33 1 rfl ?_
    refine z_iload_n hX dX12_post_34 0 rfl ?_
    refine zjoin_ok (P := fun (k : Int32 → Option (Int32 × zM)) => ∀ (t0_7 : Int32), k t0_7 = some r → zW X (zQ X (.inl (some (.int r.1), r.2)) 0) 0 0 46 [(0, .ref (zB X + 493)), (1, .int r_6)] [.int t0_7, .ref (zB X + 493)] g6) hf (fun t0_7 hf => ?_) (fun k46 hk46 hf => ?_)
    · replace hf := zput_some hf
      obtain ⟨g8, eg8, hf⟩ := hf
      refine gp_Model_faultAt hX zq_493 q1508 dX12_post_46 (zW.eqg eg8 ?_)
      refine z_aload_n hX dX12_post_49 0 rfl ?_
      refine z_iload_n hX dX12_post_50 1 rfl ?_
      refine zjoin_ok (P := fun (k : Int32 → Option (Int32 × zM)) => ∀ (t0_9 : Int32), k t0_9 = some r → zW X (zQ X (.inl (some (.int r.1), r.2)) 0) 0 0 59 [(0, .ref (zB X + 493))] [.int t0_9, .ref (zB X + 493)] g8) hf (fun t0_9 hf => ?_) (fun k59 hk59 hf => ?_)
      · refine z_iconst hX dX12_post_59 ci_1 ?_
        replace hf := zb2_some hf
        obtain ⟨r_10, g10, h10, hf⟩ := hf
        refine z_callV1 hX ok_X12_throwsIf q1775 q1777 q67 (zrm_ok hR (by decide)) (ct_X12_throwsIf  h10) (zrec_Model hX zq_493) dX12_post_60 rfl rfl ?_
        refine z_if_ne hX 90 dX12_post_63 (by decide) (fun h11 => ?_) (fun h11 => ?_)
        · replace hf := zif_neg h11 hf
          refine z_iconst hX dX12_post_90 ci_0 ?_
          refine z_istore_n (lv' := [(2, .int 0), (0, .ref (zB X + 493))]) hX dX12_post_91 hn (by decide) rfl ?_
          refine zW.sub [1, 0] rfl ?_
          exact fX12_post_L92_ok hX hT hR hr hn  zFU 0 g10 hf
        · replace hf := zif_pos h11 hf
          refine z_aload_n hX dX12_post_66 0 rfl ?_
          refine z_aload_n hX dX12_post_67 0 rfl ?_
          refine gf_Model_world hX zq_493 q1495 dX12_post_68 ?_
          refine z_iconst hX dX12_post_71 ci_2 ?_
          replace hf := zchk_some hf
          obtain ⟨h16, hf⟩ := hf
          refine z_iald hX zq_494 (by decide) (zc_3158 _ _ _) h16 dX12_post_72 ?_
          refine z_bipush hX dX12_post_73 cb_12 ?_
          refine zjoin_ok (P := fun (k : Int32 → Option (Int32 × zM)) => ∀ (t0_17 : Int32), k t0_17 = some r → zW X (zQ X (.inl (some (.int r.1), r.2)) 0) 0 0 83 [(0, .ref (zB X + 493))] [.int t0_17, .ref (zB X + 493)] g10) hf (fun t0_17 hf => ?_) (fun k83 hk83 hf => ?_)
          · refine z_iconst hX dX12_post_83 ci_2 ?_
            replace hf := zb2_some hf
            obtain ⟨r_18, g18, h18, hf⟩ := hf
            refine z_callV1 hX ok_X12_throwsIf q1775 q1777 q67 (zrm_ok hR (by decide)) (ct_X12_throwsIf  h18) (zrec_Model hX zq_493) dX12_post_84 rfl rfl ?_
            refine z_if_eq hX 119 dX12_post_87 (by decide) (fun h19 => ?_) (fun h19 => ?_)
            · replace hf := zif_pos h19 hf
              refine z_aload_n hX dX12_post_119 0 rfl ?_
              refine gf_Model_world hX zq_493 q1495 dX12_post_120 ?_
              refine z_iconst hX dX12_post_123 ci_2 ?_
              refine z_dup2 hX dX12_post_124 rfl rfl ?_
              replace hf := zchk_some hf
              obtain ⟨h20, hf⟩ := hf
              refine z_iald hX zq_494 (by decide) (zc_3158 _ _ _) h20 dX12_post_125 ?_
              refine z_iconst hX dX12_post_126 ci_1 ?_
              refine z_iadd hX dX12_post_127 ?_
              replace hf := zchk_some hf
              obtain ⟨h21, hf⟩ := hf
              replace hf := zput_some hf
              obtain ⟨g22, eg22, hf⟩ := hf
              refine z_iast hX zq_494 (by decide) (zc_3158 _ _) h21 dX12_post_128 (zW.eqg eg22 ?_)
              refine z_aload_n hX dX12_post_129 0 rfl ?_
              refine z_iconst hX dX12_post_130 ci_0 ?_
              replace hf := zput_some hf
              obtain ⟨g23, eg23, hf⟩ := hf
              refine gp_Model_remembered hX zq_493 q1501 dX12_post_131 (zW.eqg eg23 ?_)
              refine z_aload_n hX dX12_post_134 0 rfl ?_
              refine gf_Model_world hX zq_493 q1495 dX12_post_135 ?_
              refine z_iconst hX dX12_post_138 ci_2 ?_
              replace hf := zchk_some hf
              obtain ⟨h24, hf⟩ := hf
              refine z_iald hX zq_494 (by decide) (zc_3158 _ _ _) h24 dX12_post_139 ?_
              obtain rfl := Option.some.inj hf
              exact z_iret hX hr rfl (zl rfl) (zl rfl) dX12_post_140
            · replace hf := zif_neg h19 hf
              refine z_iconst hX dX12_post_90 ci_0 ?_
              refine z_istore_n (lv' := [(2, .int 0), (0, .ref (zB X + 493))]) hX dX12_post_91 hn (by decide) rfl ?_
              refine zW.sub [1, 0] rfl ?_
              exact fX12_post_L92_ok hX hT hR hr hn  zFU 0 g18 hf
          · refine z_icmp_ne hX 82 dX12_post_75 (by decide) (fun h25 => ?_) (fun h25 => ?_)
            · replace hf := zif_neg h25 hf
              refine z_iconst hX dX12_post_82 ci_0 ?_
              exact hk83 0 hf
            · replace hf := zif_pos h25 hf
              refine z_iconst hX dX12_post_78 ci_1 ?_
              refine z_goto hX 83 dX12_post_79 (by decide) ?_
              exact hk83 1 hf
      · refine z_if_ge hX 58 dX12_post_51 (by decide) (fun h26 => ?_) (fun h26 => ?_)
        · replace hf := zif_pos h26 hf
          refine z_iconst hX dX12_post_58 ci_0 ?_
          refine zW.sub [0] rfl ?_
          exact hk59 0 hf
        · replace hf := zif_neg h26 hf
          refine z_iconst hX dX12_post_54 ci_1 ?_
          refine z_goto hX 59 dX12_post_55 (by decide) ?_
          refine zW.sub [0] rfl ?_
          exact hk59 1 hf
    · refine z_if_ge hX 45 dX12_post_35 (by decide) (fun h27 => ?_) (fun h27 => ?_)
      · replace hf := zif_pos h27 hf
        refine z_iconst hX dX12_post_45 ci_m1 ?_
        refine zW.sub [1, 0] rfl ?_
        exact hk46 ((-1)) hf
      · replace hf := zif_neg h27 hf
        refine z_aload_n hX dX12_post_38 1 rfl ?_
        refine gf_Model_begin hX zq_493 q1506 dX12_post_39 ?_
        refine z_goto hX 46 dX12_post_42 (by decide) ?_
        refine zW.sub [1, 0] rfl ?_
        exact hk46 (g6 493 12) hf
set_option maxHeartbeats 4000000 in
set_option maxRecDepth 100000 in
theorem ct_X12_post {E : zE} {g : zM} {r : Int32 × zM} (hf : fX12_post g = some r) : zCt yX12_post cX12_post 3 (some .int) 64 0 E [.ref (E.1 + 493)] g (.inl (some (.int r.1), r.2)) := by
  refine zmet (by decide) (zl rfl) (fun X hE hX hT hR hr hn => ?_)
  subst hE
  exact fX12_post_ok hX hT hR hr hn  hf
def fX12_law_L52 (v1 : Int32) (k85 : zM → Option (Int32 × zM)) : Nat → Int32 → zM → Option (Int32 × zM)
  | 0, _, _ => none
  | n + 1, v2, g => if 849 ≤ v2 then k85 g else zchk (1309 + v2) 2158 (zchk (460 + v2) 2158 (zput g 494 (460 + v2).toNatClampNeg (g 494 (1309 + v2).toNatClampNeg) (fun g12 => fX12_law_L52 v1 k85 n (v2 + 1) g12)))
def fX12_law (g : zM) : Option (Int32 × zM) := zb2 (fX12_readAll 0 g) (fun r_1 g1 => zjoin (fun t0_2 => zput g1 493 14 t0_2 (fun g3 => zjoin (fun t0_4 => zb2 (fX12_throwsIf t0_4 1 g3) (fun r_5 g5 => if r_5 = 0 then zchk 1309 2158 (zput g5 494 (1309 : Int32).toNatClampNeg r_1 (fun g8 => fX12_law_L52 r_1 (fun g13 => zchk 3 2158 (zput g13 494 (3 : Int32).toNatClampNeg 1 (fun g15 => zput g15 493 7 0 (fun g16 => some (r_1, g16))))) zFU 0 g8)) else some (0, g5)) : Int32 → Option (Int32 × zM)) (fun k32 => if 0 ≤ r_1 then k32 0 else k32 1)) : Int32 → Option (Int32 × zM)) (fun k19 => if 0 ≤ r_1 then k19 ((-1)) else k19 (g1 493 12)))
set_option maxHeartbeats 4000000 in
set_option maxRecDepth 100000 in
theorem fX12_law_L52_ok {X : zX} (hX : zCX X cX12_law RX12) (hT : zNT X) (hR : X.2.2.2.1 = zrm 64 0) (hr : X.2.2.2.2.2.2.2.2.1.sig.returnType = (some .int)) (hn : X.2.2.2.2.2.2.2.2.2.1.maxLocals = 3) {v1 : Int32} {k85 : zM → Option (Int32 × zM)} {r : Int32 × zM} (hk85 : ∀ (g : zM), k85 g = some r → zW X (zQ X (.inl (some (.int r.1), r.2)) 0) 0 0 85 [(0, .ref (zB X + 493)), (1, .int v1)] [] g) : ∀ (n : Nat) (v2 : Int32) (g : zM), fX12_law_L52 v1 k85 n v2 g = some r → zW X (zQ X (.inl (some (.int r.1), r.2)) 0) 0 0 52 [(0, .ref (zB X + 493)), (1, .int v1), (2, .int v2)] [] g := by
  intro n
  induction n with
  | zero => intro v2 g hf; exact zno hf
  | succ n ih =>
    intro v2 g hf
    rw [fX12_law_L52] at hf
    refine z_iload_n hX dX12_law_52 2 rfl ?_
    refine z_sipush hX dX12_law_53 cs_849 ?_
    refine z_icmp_ge hX 85 dX12_law_56 (by decide) (fun h9 => ?_) (fun h9 => ?_)
    · replace hf := zif_pos h9 hf
      refine zW.sub [0, 1] rfl ?_
      exact hk85 g hf
    · replace hf := zif_neg h9 hf
      refine z_aload_n hX dX12_law_59 0 rfl ?_
      refine gf_Model_world hX zq_493 q1495 dX12_law_60 ?_
      refine z_sipush hX dX12_law_63 cs_460 ?_
      refine z_iload_n hX dX12_law_66 2 rfl ?_
      refine z_iadd hX dX12_law_67 ?_
      refine z_aload_n hX dX12_law_68 0 rfl ?_
      refine gf_Model_world hX zq_493 q1495 dX12_law_69 ?_
      refine z_sipush hX dX12_law_72 cs_1309 ?_
      refine z_iload_n hX dX12_law_75 2 rfl ?_
      refine z_iadd hX dX12_law_76 ?_
      replace hf := zchk_some hf
      obtain ⟨h10, hf⟩ := hf
      refine z_iald hX zq_494 (by decide) (zc_3158 _ _ _) h10 dX12_law_77 ?_
      replace hf := zchk_some hf
      obtain ⟨h11, hf⟩ := hf
      replace hf := zput_some hf
      obtain ⟨g12, eg12, hf⟩ := hf
      refine z_iast hX zq_494 (by decide) (zc_3158 _ _) h11 dX12_law_78 (zW.eqg eg12 ?_)
      refine z_iincc (lv' := [(2, .int (v2 + 1)), (0, .ref (zB X + 493)), (1, .int v1)]) hX dX12_law_79 hn (by decide) 2 rfl ci_1 rfl ?_
      refine z_goto hX 52 dX12_law_82 (by decide) ?_
      refine zW.sub [1, 2, 0] rfl ?_
      exact ih (v2 + 1) g12 hf
set_option maxHeartbeats 4000000 in
set_option maxRecDepth 100000 in
theorem fX12_law_ok {X : zX} (hX : zCX X cX12_law RX12) (hT : zNT X) (hR : X.2.2.2.1 = zrm 64 0) (hr : X.2.2.2.2.2.2.2.2.1.sig.returnType = (some .int)) (hn : X.2.2.2.2.2.2.2.2.2.1.maxLocals = 3)  {g : zM} {r : Int32 × zM} (hf : fX12_law g = some r) : zW X (zQ X (.inl (some (.int r.1), r.2)) 0) 0 0 0 [(0, .ref (zB X + 493))] [] g := by
  unfold fX12_law at hf
  refine z_aload_n hX dX12_law_0 0 rfl ?_
  refine z_iconst hX dX12_law_1 ci_0 ?_
  replace hf := zb2_some hf
  obtain ⟨r_1, g1, h1, hf⟩ := hf
  refine z_callV1 hX ok_X12_readAll q1613 q1615 q34 (zrm_ok hR (by decide)) (ct_X12_readAll  h1) (zrec_Model hX zq_493) dX12_law_2 rfl rfl ?_
  refine z_istore_n (lv' := [(1, .int r_1), (0, .ref (zB X + 493))]) hX dX12_law_5 hn (by decide) rfl ?_
  refine z_aload_n hX dX12_law_6 1 rfl ?_
  refine z_iload_n hX dX12_law_7 0 rfl ?_
  refine zjoin_ok (P := fun (k : Int32 → Option (Int32 × zM)) => ∀ (t0_2 : Int32), k t0_2 = some r → zW X (zQ X (.inl (some (.int r.1), r.2)) 0) 0 0 19 [(0, .ref (zB X + 493)), (1, .int r_1)] [.int t0_2, .ref (zB X + 493)] g1) hf (fun t0_2 hf => ?_) (fun k19 hk19 hf => ?_)
  · replace hf := zput_some hf
    obtain ⟨g3, eg3, hf⟩ := hf
    refine gp_Model_faultAt hX zq_493 q1508 dX12_law_19 (zW.eqg eg3 ?_)
    refine z_aload_n hX dX12_law_22 0 rfl ?_
    refine z_iload_n hX dX12_law_23 1 rfl ?_
    refine zjoin_ok (P := fun (k : Int32 → Option (Int32 × zM)) => ∀ (t0_4 : Int32), k t0_4 = some r → zW X (zQ X (.inl (some (.int r.1), r.2)) 0) 0 0 32 [(0, .ref (zB X + 493)), (1, .int r_1)] [.int t0_4, .ref (zB X + 493)] g3) hf (fun t0_4 hf => ?_) (fun k32 hk32 hf => ?_)
    · refine z_iconst hX dX12_law_32 ci_1 ?_
      replace hf := zb2_some hf
      obtain ⟨r_5, g5, h5, hf⟩ := hf
      refine z_callV1 hX ok_X12_throwsIf q1775 q1777 q67 (zrm_ok hR (by decide)) (ct_X12_throwsIf  h5) (zrec_Model hX zq_493) dX12_law_33 rfl rfl ?_
      refine z_if_eq hX 41 dX12_law_36 (by decide) (fun h6 => ?_) (fun h6 => ?_)
      · replace hf := zif_pos h6 hf
        refine z_aload_n hX dX12_law_41 0 rfl ?_
        refine gf_Model_world hX zq_493 q1495 dX12_law_42 ?_
        refine z_sipush hX dX12_law_45 cs_1309 ?_
        refine z_iload_n hX dX12_law_48 1 rfl ?_
        replace hf := zchk_some hf
        obtain ⟨h7, hf⟩ := hf
        replace hf := zput_some hf
        obtain ⟨g8, eg8, hf⟩ := hf
        refine z_iast hX zq_494 (by decide) (zc_3158 _ _) h7 dX12_law_49 (zW.eqg eg8 ?_)
        refine z_iconst hX dX12_law_50 ci_0 ?_
        refine z_istore_n (lv' := [(2, .int 0), (0, .ref (zB X + 493)), (1, .int r_1)]) hX dX12_law_51 hn (by decide) rfl ?_
        refine zW.sub [1, 2, 0] rfl ?_
        refine fX12_law_L52_ok hX hT hR hr hn (fun g13 hf => ?_) zFU 0 g8 hf
        · refine z_aload_n hX dX12_law_85 0 rfl ?_
          refine gf_Model_world hX zq_493 q1495 dX12_law_86 ?_
          refine z_iconst hX dX12_law_89 ci_3 ?_
          refine z_iconst hX dX12_law_90 ci_1 ?_
          replace hf := zchk_some hf
          obtain ⟨h14, hf⟩ := hf
          replace hf := zput_some hf
          obtain ⟨g15, eg15, hf⟩ := hf
          refine z_iast hX zq_494 (by decide) (zc_3158 _ _) h14 dX12_law_91 (zW.eqg eg15 ?_)
          refine z_aload_n hX dX12_law_92 0 rfl ?_
          refine z_iconst hX dX12_law_93 ci_0 ?_
          replace hf := zput_some hf
          obtain ⟨g16, eg16, hf⟩ := hf
          refine gp_Model_remembered hX zq_493 q1501 dX12_law_94 (zW.eqg eg16 ?_)
          refine z_iload_n hX dX12_law_97 1 rfl ?_
          obtain rfl := Option.some.inj hf
          exact z_iret hX hr rfl (zl rfl) (zl rfl) dX12_law_98
      · replace hf := zif_neg h6 hf
        refine z_iconst hX dX12_law_39 ci_0 ?_
        obtain rfl := Option.some.inj hf
        exact z_iret hX hr rfl (zl rfl) (zl rfl) dX12_law_40
    · refine z_if_ge hX 31 dX12_law_24 (by decide) (fun h17 => ?_) (fun h17 => ?_)
      · replace hf := zif_pos h17 hf
        refine z_iconst hX dX12_law_31 ci_0 ?_
        exact hk32 0 hf
      · replace hf := zif_neg h17 hf
        refine z_iconst hX dX12_law_27 ci_1 ?_
        refine z_goto hX 32 dX12_law_28 (by decide) ?_
        exact hk32 1 hf
  · refine z_if_ge hX 18 dX12_law_8 (by decide) (fun h18 => ?_) (fun h18 => ?_)
    · replace hf := zif_pos h18 hf
      refine z_iconst hX dX12_law_18 ci_m1 ?_
      refine zW.sub [1, 0] rfl ?_
      exact hk19 ((-1)) hf
    · replace hf := zif_neg h18 hf
      refine z_aload_n hX dX12_law_11 1 rfl ?_
      refine gf_Model_begin hX zq_493 q1506 dX12_law_12 ?_
      refine z_goto hX 19 dX12_law_15 (by decide) ?_
      refine zW.sub [1, 0] rfl ?_
      exact hk19 (g1 493 12) hf
set_option maxHeartbeats 4000000 in
set_option maxRecDepth 100000 in
theorem ct_X12_law {E : zE} {g : zM} {r : Int32 × zM} (hf : fX12_law g = some r) : zCt yX12_law cX12_law 3 (some .int) 64 0 E [.ref (E.1 + 493)] g (.inl (some (.int r.1), r.2)) := by
  refine zmet (by decide) (zl rfl) (fun X hE hX hT hR hr hn => ?_)
  subst hE
  exact fX12_law_ok hX hT hR hr hn  hf
def fX12_seasonOf (v0 : Int32) (g : zM) : Option Int32 := some ((v0 / 13) - (v0 / 13) / 4 * 4)
set_option maxHeartbeats 4000000 in
set_option maxRecDepth 100000 in
theorem fX12_seasonOf_ok {X : zX} (hX : zCX X cX12_seasonOf RX12) (hT : zNT X) (hR : X.2.2.2.1 = zrm 0 0) (hr : X.2.2.2.2.2.2.2.2.1.sig.returnType = (some .int)) (hn : X.2.2.2.2.2.2.2.2.2.1.maxLocals = 1) {v0 : Int32} {g : zM} {r : Int32} (hf : fX12_seasonOf v0 g = some r) : zW X (zQ X (.inl (some (.int r), g)) 0) 0 0 0 [(0, .int v0)] [] g := by
  unfold fX12_seasonOf at hf
  refine z_iload_n hX dX12_seasonOf_0 0 rfl ?_
  refine z_bipush hX dX12_seasonOf_1 cb_13 ?_
  refine z_idiv hX dX12_seasonOf_3 (by decide) ?_
  refine z_iconst hX dX12_seasonOf_4 ci_4 ?_
  refine z_irem hX dX12_seasonOf_5 (by decide) ?_
  obtain rfl := Option.some.inj hf
  exact z_iret hX hr rfl (zl rfl) (zl rfl) dX12_seasonOf_6
set_option maxHeartbeats 4000000 in
set_option maxRecDepth 100000 in
theorem ct_X12_seasonOf {E : zE} {v0 : Int32} {g : zM} {r : Int32} (hf : fX12_seasonOf v0 g = some r) : zCt yX12_seasonOf cX12_seasonOf 1 (some .int) 0 0 E [.int v0] g (.inl (some (.int r), g)) := by
  refine zmet (by decide) (zl rfl) (fun X hE hX hT hR hr hn => ?_)
  subst hE
  exact fX12_seasonOf_ok hX hT hR hr hn  hf
def fX12_factOf (v1 : Int32) (v2 : Int32) (g : zM) : Option Int32 := if v1 = 0 then some (g 493 19) else if v1 = 1 then some (g 493 20) else if v1 = 2 then if 2 ≤ (g 493 19) then zchk ((g 493 19) - 2) 24 (some (g 502 ((g 493 19) - 2).toNatClampNeg)) else some 12 else if v1 = 3 then some (g 493 22) else if v1 = 4 then zb (fX12_seasonOf (g 493 22) g) (fun r_9 => some r_9) else if v1 = 5 then some (g 493 21) else if v1 = 6 then if (g 493 24) = 0 then some 0 else some 1 else if v1 = 7 then zb (fX12_seasonOf (g 493 22) g) (fun r_14 => if r_14 = 3 then some 1 else some 0) else some v2
set_option maxHeartbeats 4000000 in
set_option maxRecDepth 100000 in
theorem fX12_factOf_ok {X : zX} (hX : zCX X cX12_factOf RX12) (hT : zNT X) (hR : X.2.2.2.1 = zrm 1 0) (hr : X.2.2.2.2.2.2.2.2.1.sig.returnType = (some .int)) (hn : X.2.2.2.2.2.2.2.2.2.1.maxLocals = 3) {v1 : Int32} {v2 : Int32} {g : zM} {r : Int32} (hf : fX12_factOf v1 v2 g = some r) : zW X (zQ X (.inl (some (.int r), g)) 0) 0 0 0 [(0, .ref (zB X + 493)), (1, .int v1), (2, .int v2)] [] g := by
  unfold fX12_factOf at hf
  refine z_iload_n hX dX12_factOf_0 1 rfl ?_
  by_cases h2 : v1 = 0
  · replace hf := zif_pos h2 hf
    refine z_tin hX 48 dX12_factOf_1 (by rw [h2]; decide) (by rw [h2]; decide) (by rw [h2]; rfl) (by decide) ?_
    refine z_aload_n hX dX12_factOf_48 0 rfl ?_
    refine gf_Model_many hX zq_493 q1513 dX12_factOf_49 ?_
    obtain rfl := Option.some.inj hf
    exact z_iret hX hr rfl (zl rfl) (zl rfl) dX12_factOf_52
  replace hf := zif_neg h2 hf
  by_cases h3 : v1 = 1
  · replace hf := zif_pos h3 hf
    refine z_tin hX 53 dX12_factOf_1 (by rw [h3]; decide) (by rw [h3]; decide) (by rw [h3]; rfl) (by decide) ?_
    refine z_aload_n hX dX12_factOf_53 0 rfl ?_
    refine gf_Model_temper hX zq_493 q1514 dX12_factOf_54 ?_
    obtain rfl := Option.some.inj hf
    exact z_iret hX hr rfl (zl rfl) (zl rfl) dX12_factOf_57
  replace hf := zif_neg h3 hf
  by_cases h4 : v1 = 2
  · replace hf := zif_pos h4 hf
    refine z_tin hX 58 dX12_factOf_1 (by rw [h4]; decide) (by rw [h4]; decide) (by rw [h4]; rfl) (by decide) ?_
    refine z_aload_n hX dX12_factOf_58 0 rfl ?_
    refine gf_Model_many hX zq_493 q1513 dX12_factOf_59 ?_
    refine z_iconst hX dX12_factOf_62 ci_2 ?_
    refine z_icmp_ge hX 71 dX12_factOf_63 (by decide) (fun h5 => ?_) (fun h5 => ?_)
    · replace hf := zif_pos h5 hf
      refine z_aload_n hX dX12_factOf_71 0 rfl ?_
      refine gf_Model_row hX zq_493 q1512 dX12_factOf_72 ?_
      refine z_aload_n hX dX12_factOf_75 0 rfl ?_
      refine gf_Model_many hX zq_493 q1513 dX12_factOf_76 ?_
      refine z_iconst hX dX12_factOf_79 ci_2 ?_
      refine z_isub hX dX12_factOf_80 ?_
      replace hf := zchk_some hf
      obtain ⟨h6, hf⟩ := hf
      refine z_iald hX zq_502 (by decide) (zc_1024 _ _ _) h6 dX12_factOf_81 ?_
      obtain rfl := Option.some.inj hf
      exact z_iret hX hr rfl (zl rfl) (zl rfl) dX12_factOf_82
    · replace hf := zif_neg h5 hf
      refine z_bipush hX dX12_factOf_66 cb_12 ?_
      refine z_goto hX 82 dX12_factOf_68 (by decide) ?_
      obtain rfl := Option.some.inj hf
      exact z_iret hX hr rfl (zl rfl) (zl rfl) dX12_factOf_82
  replace hf := zif_neg h4 hf
  by_cases h7 : v1 = 3
  · replace hf := zif_pos h7 hf
    refine z_tin hX 83 dX12_factOf_1 (by rw [h7]; decide) (by rw [h7]; decide) (by rw [h7]; rfl) (by decide) ?_
    refine z_aload_n hX dX12_factOf_83 0 rfl ?_
    refine gf_Model_week hX zq_493 q1516 dX12_factOf_84 ?_
    obtain rfl := Option.some.inj hf
    exact z_iret hX hr rfl (zl rfl) (zl rfl) dX12_factOf_87
  replace hf := zif_neg h7 hf
  by_cases h8 : v1 = 4
  · replace hf := zif_pos h8 hf
    refine z_tin hX 88 dX12_factOf_1 (by rw [h8]; decide) (by rw [h8]; decide) (by rw [h8]; rfl) (by decide) ?_
    refine z_aload_n hX dX12_factOf_88 0 rfl ?_
    refine gf_Model_week hX zq_493 q1516 dX12_factOf_89 ?_
    replace hf := zb_some hf
    obtain ⟨r_9, h9, hf⟩ := hf
    refine z_callS1 hX ok_X12_seasonOf rfl q1835 q1836 (zrm_ok hR (by decide)) (ct_X12_seasonOf  h9) dX12_factOf_92 rfl rfl ?_
    obtain rfl := Option.some.inj hf
    exact z_iret hX hr rfl (zl rfl) (zl rfl) dX12_factOf_95
  replace hf := zif_neg h8 hf
  by_cases h10 : v1 = 5
  · replace hf := zif_pos h10 hf
    refine z_tin hX 96 dX12_factOf_1 (by rw [h10]; decide) (by rw [h10]; decide) (by rw [h10]; rfl) (by decide) ?_
    refine z_aload_n hX dX12_factOf_96 0 rfl ?_
    refine gf_Model_sender hX zq_493 q1515 dX12_factOf_97 ?_
    obtain rfl := Option.some.inj hf
    exact z_iret hX hr rfl (zl rfl) (zl rfl) dX12_factOf_100
  replace hf := zif_neg h10 hf
  by_cases h11 : v1 = 6
  · replace hf := zif_pos h11 hf
    refine z_tin hX 101 dX12_factOf_1 (by rw [h11]; decide) (by rw [h11]; decide) (by rw [h11]; rfl) (by decide) ?_
    refine z_aload_n hX dX12_factOf_101 0 rfl ?_
    refine gf_Model_hot hX zq_493 q1518 dX12_factOf_102 ?_
    refine z_if_eq hX 112 dX12_factOf_105 (by decide) (fun h12 => ?_) (fun h12 => ?_)
    · replace hf := zif_pos h12 hf
      refine z_iconst hX dX12_factOf_112 ci_0 ?_
      obtain rfl := Option.some.inj hf
      exact z_iret hX hr rfl (zl rfl) (zl rfl) dX12_factOf_113
    · replace hf := zif_neg h12 hf
      refine z_iconst hX dX12_factOf_108 ci_1 ?_
      refine z_goto hX 113 dX12_factOf_109 (by decide) ?_
      obtain rfl := Option.some.inj hf
      exact z_iret hX hr rfl (zl rfl) (zl rfl) dX12_factOf_113
  replace hf := zif_neg h11 hf
  by_cases h13 : v1 = 7
  · replace hf := zif_pos h13 hf
    refine z_tin hX 114 dX12_factOf_1 (by rw [h13]; decide) (by rw [h13]; decide) (by rw [h13]; rfl) (by decide) ?_
    refine z_aload_n hX dX12_factOf_114 0 rfl ?_
    refine gf_Model_week hX zq_493 q1516 dX12_factOf_115 ?_
    replace hf := zb_some hf
    obtain ⟨r_14, h14, hf⟩ := hf
    refine z_callS1 hX ok_X12_seasonOf rfl q1835 q1836 (zrm_ok hR (by decide)) (ct_X12_seasonOf  h14) dX12_factOf_118 rfl rfl ?_
    refine z_iconst hX dX12_factOf_121 ci_3 ?_
    refine z_icmp_ne hX 129 dX12_factOf_122 (by decide) (fun h15 => ?_) (fun h15 => ?_)
    · replace hf := zif_neg h15 hf
      refine z_iconst hX dX12_factOf_129 ci_0 ?_
      obtain rfl := Option.some.inj hf
      exact z_iret hX hr rfl (zl rfl) (zl rfl) dX12_factOf_130
    · replace hf := zif_pos h15 hf
      refine z_iconst hX dX12_factOf_125 ci_1 ?_
      refine z_goto hX 130 dX12_factOf_126 (by decide) ?_
      obtain rfl := Option.some.inj hf
      exact z_iret hX hr rfl (zl rfl) (zl rfl) dX12_factOf_130
  replace hf := zif_neg h13 hf
  refine z_tout hX 131 dX12_factOf_1 (zsw_out (fun v hlo hhi e => ?_)) (by decide) ?_
  · have hv : v = 0 ∨ v = 1 ∨ v = 2 ∨ v = 3 ∨ v = 4 ∨ v = 5 ∨ v = 6 ∨ v = 7 := by omega
    rcases hv with rfl | rfl | rfl | rfl | rfl | rfl | rfl | rfl
    · exact h2 (e.trans (by decide))
    · exact h3 (e.trans (by decide))
    · exact h4 (e.trans (by decide))
    · exact h7 (e.trans (by decide))
    · exact h8 (e.trans (by decide))
    · exact h10 (e.trans (by decide))
    · exact h11 (e.trans (by decide))
    · exact h13 (e.trans (by decide))
  refine z_iload_n hX dX12_factOf_131 2 rfl ?_
  obtain rfl := Option.some.inj hf
  exact z_iret hX hr rfl (zl rfl) (zl rfl) dX12_factOf_132
set_option maxHeartbeats 4000000 in
set_option maxRecDepth 100000 in
theorem ct_X12_factOf {E : zE} {v1 : Int32} {v2 : Int32} {g : zM} {r : Int32} (hf : fX12_factOf v1 v2 g = some r) : zCt yX12_factOf cX12_factOf 3 (some .int) 1 0 E [.ref (E.1 + 493), .int v1, .int v2] g (.inl (some (.int r), g)) := by
  refine zmet (by decide) (zl rfl) (fun X hE hX hT hR hr hn => ?_)
  subst hE
  exact fX12_factOf_ok hX hT hR hr hn  hf
def fX12_holdsLine_L20 (v3 : Int32) (k259 : Int32 → zM → Option (Int32 × zM)) : Nat → Int32 → Int32 → zM → Option (Int32 × zM)
  | 0, _, _, _ => none
  | n + 1, v2, v4, g => zchk (v3 + 3) 2158 (if (g 494 (v3 + 3).toNatClampNeg) ≤ v4 then k259 v2 g else zchk (509 + (2 * v4)) 2158 (if 8 < (g 494 (509 + (2 * v4)).toNatClampNeg) then if (g 494 (509 + (2 * v4)).toNatClampNeg) = 12 then zchk (v2 - 1) 400 (zchk (v2 - 1) 400 (zput g 501 (v2 - 1).toNatClampNeg (1 - (g 501 (v2 - 1).toNatClampNeg)) (fun g27 => fX12_holdsLine_L20 v3 k259 n v2 (v4 + 1) g27))) else zchk ((v2 + (-1)) - 1) 400 (zchk (v2 + (-1)) 400 (zjoin (fun t0_9 => if (g 494 (509 + (2 * v4)).toNatClampNeg) = 9 then zchk ((v2 + (-1)) - 1) 400 (zput g 501 ((v2 + (-1)) - 1).toNatClampNeg ((g 501 ((v2 + (-1)) - 1).toNatClampNeg) + (g 501 (v2 + (-1)).toNatClampNeg)) (fun g17 => fX12_holdsLine_L20 v3 k259 n (v2 + (-1)) (v4 + 1) g17)) else if t0_9 = 0 then zchk ((v2 + (-1)) - 1) 400 (zput g 501 ((v2 + (-1)) - 1).toNatClampNeg 0 (fun g13 => fX12_holdsLine_L20 v3 k259 n (v2 + (-1)) (v4 + 1) g13)) else zchk ((v2 + (-1)) - 1) 400 (zput g 501 ((v2 + (-1)) - 1).toNatClampNeg 1 (fun g15 => fX12_holdsLine_L20 v3 k259 n (v2 + (-1)) (v4 + 1) g15)) : Int32 → Option (Int32 × zM)) (fun k218 => if (g 494 (509 + (2 * v4)).toNatClampNeg) = 10 then if (g 501 (v2 + (-1)).toNatClampNeg) ≤ (g 501 ((v2 + (-1)) - 1).toNatClampNeg) then k218 0 else k218 1 else if (g 494 (509 + (2 * v4)).toNatClampNeg) = 11 then if (g 501 ((v2 + (-1)) - 1).toNatClampNeg) ≤ (g 501 (v2 + (-1)).toNatClampNeg) then k218 0 else k218 1 else if (g 494 (509 + (2 * v4)).toNatClampNeg) = 13 then if ((g 501 ((v2 + (-1)) - 1).toNatClampNeg) + (g 501 (v2 + (-1)).toNatClampNeg)) = 2 then k218 1 else k218 0 else if ((g 501 ((v2 + (-1)) - 1).toNatClampNeg) + (g 501 (v2 + (-1)).toNatClampNeg)) ≤ 0 then k218 0 else k218 1))) else zchk ((509 + (2 * v4)) + 1) 2158 (zb (fX12_factOf (g 494 (509 + (2 * v4)).toNatClampNeg) (g 494 ((509 + (2 * v4)) + 1).toNatClampNeg) g) (fun r_29 => zchk v2 400 (zput g 501 v2.toNatClampNeg r_29 (fun g31 => fX12_holdsLine_L20 v3 k259 n (v2 + 1) (v4 + 1) g31))))))
def fX12_holdsLine (v1 : Int32) (g : zM) : Option (Int32 × zM) := zchk ((461 + (4 * v1)) + 2) 2158 (fX12_holdsLine_L20 (461 + (4 * v1)) (fun v2_32 g32 => if v2_32 = 0 then some (1, g32) else zchk 0 400 (if (g32 501 (0 : Int32).toNatClampNeg) = 1 then some (1, g32) else some (0, g32))) zFU 0 (g 494 ((461 + (4 * v1)) + 2).toNatClampNeg) g)
set_option maxHeartbeats 4000000 in
set_option maxRecDepth 100000 in
theorem fX12_holdsLine_L20_ok {X : zX} (hX : zCX X cX12_holdsLine RX12) (hT : zNT X) (hR : X.2.2.2.1 = zrm 2 0) (hr : X.2.2.2.2.2.2.2.2.1.sig.returnType = (some .boolean)) (hn : X.2.2.2.2.2.2.2.2.2.1.maxLocals = 9) {v3 : Int32} {k259 : Int32 → zM → Option (Int32 × zM)} {r : Int32 × zM} (hk259 : ∀ (v2 : Int32) (g : zM), k259 v2 g = some r → zW X (zQ X (.inl (some (.int r.1), r.2)) 0) 0 0 259 [(0, .ref (zB X + 493)), (2, .int v2)] [] g) : ∀ (n : Nat) (v2 : Int32) (v4 : Int32) (g : zM), fX12_holdsLine_L20 v3 k259 n v2 v4 g = some r → zW X (zQ X (.inl (some (.int r.1), r.2)) 0) 0 0 20 [(0, .ref (zB X + 493)), (2, .int v2), (3, .int v3), (4, .int v4)] [] g := by
  intro n
  induction n with
  | zero => intro v2 v4 g hf; exact zno hf
  | succ n ih =>
    intro v2 v4 g hf
    rw [fX12_holdsLine_L20] at hf
    refine z_iload hX dX12_holdsLine_20 3 rfl ?_
    refine z_aload_n hX dX12_holdsLine_22 0 rfl ?_
    refine gf_Model_world hX zq_493 q1495 dX12_holdsLine_23 ?_
    refine z_iload_n hX dX12_holdsLine_26 2 rfl ?_
    refine z_iconst hX dX12_holdsLine_27 ci_3 ?_
    refine z_iadd hX dX12_holdsLine_28 ?_
    replace hf := zchk_some hf
    obtain ⟨h2, hf⟩ := hf
    refine z_iald hX zq_494 (by decide) (zc_3158 _ _ _) h2 dX12_holdsLine_29 ?_
    refine z_icmp_ge hX 259 dX12_holdsLine_30 (by decide) (fun h3 => ?_) (fun h3 => ?_)
    · replace hf := zif_pos h3 hf
      refine zW.sub [0, 1] rfl ?_
      exact hk259 v2 g hf
    · replace hf := zif_neg h3 hf
      refine z_aload_n hX dX12_holdsLine_33 0 rfl ?_
      refine gf_Model_world hX zq_493 q1495 dX12_holdsLine_34 ?_
      refine z_sipush hX dX12_holdsLine_37 cs_509 ?_
      refine z_iconst hX dX12_holdsLine_40 ci_2 ?_
      refine z_iload hX dX12_holdsLine_41 3 rfl ?_
      refine z_imul hX dX12_holdsLine_43 ?_
      refine z_iadd hX dX12_holdsLine_44 ?_
      replace hf := zchk_some hf
      obtain ⟨h4, hf⟩ := hf
      refine z_iald hX zq_494 (by decide) (zc_3158 _ _ _) h4 dX12_holdsLine_45 ?_
      refine z_istore (lv' := [(5, .int (g 494 (509 + (2 * v4)).toNatClampNeg)), (0, .ref (zB X + 493)), (2, .int v2), (3, .int v3), (4, .int v4)]) hX dX12_holdsLine_46 hn (by decide) rfl ?_
      refine z_iload hX dX12_holdsLine_48 0 rfl ?_
      refine z_bipush hX dX12_holdsLine_50 cb_8 ?_
      refine z_icmp_gt hX 88 dX12_holdsLine_52 (by decide) (fun h5 => ?_) (fun h5 => ?_)
      · replace hf := zif_pos h5 hf
        refine z_iload hX dX12_holdsLine_88 0 rfl ?_
        refine z_bipush hX dX12_holdsLine_90 cb_12 ?_
        refine z_icmp_ne hX 116 dX12_holdsLine_92 (by decide) (fun h6 => ?_) (fun h6 => ?_)
        · replace hf := zif_neg h6 hf
          refine z_iincc (lv' := [(2, .int (v2 + (-1))), (5, .int (g 494 (509 + (2 * v4)).toNatClampNeg)), (0, .ref (zB X + 493)), (3, .int v3), (4, .int v4)]) hX dX12_holdsLine_116 hn (by decide) 2 rfl ci_m1 rfl ?_
          refine z_aload_n hX dX12_holdsLine_119 2 rfl ?_
          refine gf_Model_value hX zq_493 q1511 dX12_holdsLine_120 ?_
          refine z_iload_n hX dX12_holdsLine_123 0 rfl ?_
          refine z_iconst hX dX12_holdsLine_124 ci_1 ?_
          refine z_isub hX dX12_holdsLine_125 ?_
          replace hf := zchk_some hf
          obtain ⟨h7, hf⟩ := hf
          refine z_iald hX zq_501 (by decide) (zc_1400 _ _ _) h7 dX12_holdsLine_126 ?_
          refine z_istore (lv' := [(6, .int (g 501 ((v2 + (-1)) - 1).toNatClampNeg)), (2, .int (v2 + (-1))), (5, .int (g 494 (509 + (2 * v4)).toNatClampNeg)), (0, .ref (zB X + 493)), (3, .int v3), (4, .int v4)]) hX dX12_holdsLine_127 hn (by decide) rfl ?_
          refine z_aload_n hX dX12_holdsLine_129 3 rfl ?_
          refine gf_Model_value hX zq_493 q1511 dX12_holdsLine_130 ?_
          refine z_iload_n hX dX12_holdsLine_133 1 rfl ?_
          replace hf := zchk_some hf
          obtain ⟨h8, hf⟩ := hf
          refine z_iald hX zq_501 (by decide) (zc_1400 _ _ _) h8 dX12_holdsLine_134 ?_
          refine z_istore (lv' := [(7, .int (g 501 (v2 + (-1)).toNatClampNeg)), (6, .int (g 501 ((v2 + (-1)) - 1).toNatClampNeg)), (2, .int (v2 + (-1))), (5, .int (g 494 (509 + (2 * v4)).toNatClampNeg)), (0, .ref (zB X + 493)), (3, .int v3), (4, .int v4)]) hX dX12_holdsLine_135 hn (by decide) rfl ?_
          refine z_iload hX dX12_holdsLine_137 3 rfl ?_
          refine z_bipush hX dX12_holdsLine_139 cb_10 ?_
          refine zjoin_ok (P := fun (k : Int32 → Option (Int32 × zM)) => ∀ (t0_9 : Int32), k t0_9 = some r → zW X (zQ X (.inl (some (.int r.1), r.2)) 0) 0 0 218 [(0, .ref (zB X + 493)), (2, .int (v2 + (-1))), (3, .int v3), (4, .int v4), (5, .int (g 494 (509 + (2 * v4)).toNatClampNeg)), (6, .int (g 501 ((v2 + (-1)) - 1).toNatClampNeg)), (7, .int (g 501 (v2 + (-1)).toNatClampNeg))] [.int t0_9] g) hf (fun t0_9 hf => ?_) (fun k218 hk218 hf => ?_)
          · refine z_istore (lv' := [(8, .int t0_9), (0, .ref (zB X + 493)), (2, .int (v2 + (-1))), (3, .int v3), (4, .int v4), (5, .int (g 494 (509 + (2 * v4)).toNatClampNeg)), (6, .int (g 501 ((v2 + (-1)) - 1).toNatClampNeg)), (7, .int (g 501 (v2 + (-1)).toNatClampNeg))]) hX dX12_holdsLine_218 hn (by decide) rfl ?_
            refine z_aload_n hX dX12_holdsLine_220 1 rfl ?_
            refine gf_Model_value hX zq_493 q1511 dX12_holdsLine_221 ?_
            refine z_iload_n hX dX12_holdsLine_224 2 rfl ?_
            refine z_iconst hX dX12_holdsLine_225 ci_1 ?_
            refine z_isub hX dX12_holdsLine_226 ?_
            refine z_iload hX dX12_holdsLine_227 5 rfl ?_
            refine z_bipush hX dX12_holdsLine_229 cb_9 ?_
            refine z_icmp_ne hX 242 dX12_holdsLine_231 (by decide) (fun h10 => ?_) (fun h10 => ?_)
            · replace hf := zif_neg h10 hf
              refine z_iload hX dX12_holdsLine_242 0 rfl ?_
              refine z_if_eq hX 251 dX12_holdsLine_244 (by decide) (fun h11 => ?_) (fun h11 => ?_)
              · replace hf := zif_pos h11 hf
                refine z_iconst hX dX12_holdsLine_251 ci_0 ?_
                replace hf := zchk_some hf
                obtain ⟨h12, hf⟩ := hf
                replace hf := zput_some hf
                obtain ⟨g13, eg13, hf⟩ := hf
                refine z_iast hX zq_501 (by decide) (zc_1400 _ _) h12 dX12_holdsLine_252 (zW.eqg eg13 ?_)
                refine z_iincc (lv' := [(4, .int (v4 + 1)), (8, .int t0_9), (0, .ref (zB X + 493)), (2, .int (v2 + (-1))), (3, .int v3), (5, .int (g 494 (509 + (2 * v4)).toNatClampNeg)), (6, .int (g 501 ((v2 + (-1)) - 1).toNatClampNeg)), (7, .int (g 501 (v2 + (-1)).toNatClampNeg))]) hX dX12_holdsLine_253 hn (by decide) 4 rfl ci_1 rfl ?_
                refine z_goto hX 20 dX12_holdsLine_256 (by decide) ?_
                refine zW.sub [2, 3, 4, 0] rfl ?_
                exact ih (v2 + (-1)) (v4 + 1) g13 hf
              · replace hf := zif_neg h11 hf
                refine z_iconst hX dX12_holdsLine_247 ci_1 ?_
                refine z_goto hX 252 dX12_holdsLine_248 (by decide) ?_
                replace hf := zchk_some hf
                obtain ⟨h14, hf⟩ := hf
                replace hf := zput_some hf
                obtain ⟨g15, eg15, hf⟩ := hf
                refine z_iast hX zq_501 (by decide) (zc_1400 _ _) h14 dX12_holdsLine_252 (zW.eqg eg15 ?_)
                refine z_iincc (lv' := [(4, .int (v4 + 1)), (8, .int t0_9), (0, .ref (zB X + 493)), (2, .int (v2 + (-1))), (3, .int v3), (5, .int (g 494 (509 + (2 * v4)).toNatClampNeg)), (6, .int (g 501 ((v2 + (-1)) - 1).toNatClampNeg)), (7, .int (g 501 (v2 + (-1)).toNatClampNeg))]) hX dX12_holdsLine_253 hn (by decide) 4 rfl ci_1 rfl ?_
                refine z_goto hX 20 dX12_holdsLine_256 (by decide) ?_
                refine zW.sub [2, 3, 4, 0] rfl ?_
                exact ih (v2 + (-1)) (v4 + 1) g15 hf
            · replace hf := zif_pos h10 hf
              refine z_iload hX dX12_holdsLine_234 6 rfl ?_
              refine z_iload hX dX12_holdsLine_236 7 rfl ?_
              refine z_iadd hX dX12_holdsLine_238 ?_
              refine z_goto hX 252 dX12_holdsLine_239 (by decide) ?_
              replace hf := zchk_some hf
              obtain ⟨h16, hf⟩ := hf
              replace hf := zput_some hf
              obtain ⟨g17, eg17, hf⟩ := hf
              refine z_iast hX zq_501 (by decide) (zc_1400 _ _) h16 dX12_holdsLine_252 (zW.eqg eg17 ?_)
              refine z_iincc (lv' := [(4, .int (v4 + 1)), (8, .int t0_9), (0, .ref (zB X + 493)), (2, .int (v2 + (-1))), (3, .int v3), (5, .int (g 494 (509 + (2 * v4)).toNatClampNeg)), (6, .int (g 501 ((v2 + (-1)) - 1).toNatClampNeg)), (7, .int (g 501 (v2 + (-1)).toNatClampNeg))]) hX dX12_holdsLine_253 hn (by decide) 4 rfl ci_1 rfl ?_
              refine z_goto hX 20 dX12_holdsLine_256 (by decide) ?_
              refine zW.sub [2, 3, 4, 0] rfl ?_
              exact ih (v2 + (-1)) (v4 + 1) g17 hf
          · refine z_icmp_ne hX 159 dX12_holdsLine_141 (by decide) (fun h18 => ?_) (fun h18 => ?_)
            · replace hf := zif_neg h18 hf
              refine z_iload hX dX12_holdsLine_159 3 rfl ?_
              refine z_bipush hX dX12_holdsLine_161 cb_11 ?_
              refine z_icmp_ne hX 181 dX12_holdsLine_163 (by decide) (fun h19 => ?_) (fun h19 => ?_)
              · replace hf := zif_neg h19 hf
                refine z_iload hX dX12_holdsLine_181 3 rfl ?_
                refine z_bipush hX dX12_holdsLine_183 cb_13 ?_
                refine z_icmp_ne hX 205 dX12_holdsLine_185 (by decide) (fun h20 => ?_) (fun h20 => ?_)
                · replace hf := zif_neg h20 hf
                  refine z_iload hX dX12_holdsLine_205 1 rfl ?_
                  refine z_iload hX dX12_holdsLine_207 0 rfl ?_
                  refine z_iadd hX dX12_holdsLine_209 ?_
                  refine z_if_le hX 217 dX12_holdsLine_210 (by decide) (fun h21 => ?_) (fun h21 => ?_)
                  · replace hf := zif_pos h21 hf
                    refine z_iconst hX dX12_holdsLine_217 ci_0 ?_
                    refine zW.sub [4, 2, 5, 6, 3, 1, 0] rfl ?_
                    exact hk218 0 hf
                  · replace hf := zif_neg h21 hf
                    refine z_iconst hX dX12_holdsLine_213 ci_1 ?_
                    refine z_goto hX 218 dX12_holdsLine_214 (by decide) ?_
                    refine zW.sub [4, 2, 5, 6, 3, 1, 0] rfl ?_
                    exact hk218 1 hf
                · replace hf := zif_pos h20 hf
                  refine z_iload hX dX12_holdsLine_188 1 rfl ?_
                  refine z_iload hX dX12_holdsLine_190 0 rfl ?_
                  refine z_iadd hX dX12_holdsLine_192 ?_
                  refine z_iconst hX dX12_holdsLine_193 ci_2 ?_
                  refine z_icmp_ne hX 201 dX12_holdsLine_194 (by decide) (fun h22 => ?_) (fun h22 => ?_)
                  · replace hf := zif_neg h22 hf
                    refine z_iconst hX dX12_holdsLine_201 ci_0 ?_
                    refine z_goto hX 218 dX12_holdsLine_202 (by decide) ?_
                    refine zW.sub [4, 2, 5, 6, 3, 1, 0] rfl ?_
                    exact hk218 0 hf
                  · replace hf := zif_pos h22 hf
                    refine z_iconst hX dX12_holdsLine_197 ci_1 ?_
                    refine z_goto hX 218 dX12_holdsLine_198 (by decide) ?_
                    refine zW.sub [4, 2, 5, 6, 3, 1, 0] rfl ?_
                    exact hk218 1 hf
              · replace hf := zif_pos h19 hf
                refine z_iload hX dX12_holdsLine_166 1 rfl ?_
                refine z_iload hX dX12_holdsLine_168 0 rfl ?_
                refine z_icmp_le hX 177 dX12_holdsLine_170 (by decide) (fun h23 => ?_) (fun h23 => ?_)
                · replace hf := zif_pos h23 hf
                  refine z_iconst hX dX12_holdsLine_177 ci_0 ?_
                  refine z_goto hX 218 dX12_holdsLine_178 (by decide) ?_
                  refine zW.sub [4, 2, 5, 6, 3, 1, 0] rfl ?_
                  exact hk218 0 hf
                · replace hf := zif_neg h23 hf
                  refine z_iconst hX dX12_holdsLine_173 ci_1 ?_
                  refine z_goto hX 218 dX12_holdsLine_174 (by decide) ?_
                  refine zW.sub [4, 2, 5, 6, 3, 1, 0] rfl ?_
                  exact hk218 1 hf
            · replace hf := zif_pos h18 hf
              refine z_iload hX dX12_holdsLine_144 1 rfl ?_
              refine z_iload hX dX12_holdsLine_146 0 rfl ?_
              refine z_icmp_ge hX 155 dX12_holdsLine_148 (by decide) (fun h24 => ?_) (fun h24 => ?_)
              · replace hf := zif_pos h24 hf
                refine z_iconst hX dX12_holdsLine_155 ci_0 ?_
                refine z_goto hX 218 dX12_holdsLine_156 (by decide) ?_
                refine zW.sub [4, 2, 5, 6, 3, 1, 0] rfl ?_
                exact hk218 0 hf
              · replace hf := zif_neg h24 hf
                refine z_iconst hX dX12_holdsLine_151 ci_1 ?_
                refine z_goto hX 218 dX12_holdsLine_152 (by decide) ?_
                refine zW.sub [4, 2, 5, 6, 3, 1, 0] rfl ?_
                exact hk218 1 hf
        · replace hf := zif_pos h6 hf
          refine z_aload_n hX dX12_holdsLine_95 1 rfl ?_
          refine gf_Model_value hX zq_493 q1511 dX12_holdsLine_96 ?_
          refine z_iload_n hX dX12_holdsLine_99 2 rfl ?_
          refine z_iconst hX dX12_holdsLine_100 ci_1 ?_
          refine z_isub hX dX12_holdsLine_101 ?_
          refine z_iconst hX dX12_holdsLine_102 ci_1 ?_
          refine z_aload_n hX dX12_holdsLine_103 1 rfl ?_
          refine gf_Model_value hX zq_493 q1511 dX12_holdsLine_104 ?_
          refine z_iload_n hX dX12_holdsLine_107 2 rfl ?_
          refine z_iconst hX dX12_holdsLine_108 ci_1 ?_
          refine z_isub hX dX12_holdsLine_109 ?_
          replace hf := zchk_some hf
          obtain ⟨h25, hf⟩ := hf
          refine z_iald hX zq_501 (by decide) (zc_1400 _ _ _) h25 dX12_holdsLine_110 ?_
          refine z_isub hX dX12_holdsLine_111 ?_
          replace hf := zchk_some hf
          obtain ⟨h26, hf⟩ := hf
          replace hf := zput_some hf
          obtain ⟨g27, eg27, hf⟩ := hf
          refine z_iast hX zq_501 (by decide) (zc_1400 _ _) h26 dX12_holdsLine_112 (zW.eqg eg27 ?_)
          refine z_goto hX 253 dX12_holdsLine_113 (by decide) ?_
          refine z_iincc (lv' := [(4, .int (v4 + 1)), (5, .int (g 494 (509 + (2 * v4)).toNatClampNeg)), (0, .ref (zB X + 493)), (2, .int v2), (3, .int v3)]) hX dX12_holdsLine_253 hn (by decide) 4 rfl ci_1 rfl ?_
          refine z_goto hX 20 dX12_holdsLine_256 (by decide) ?_
          refine zW.sub [2, 3, 4, 0] rfl ?_
          exact ih v2 (v4 + 1) g27 hf
      · replace hf := zif_neg h5 hf
        refine z_aload_n hX dX12_holdsLine_55 1 rfl ?_
        refine gf_Model_value hX zq_493 q1511 dX12_holdsLine_56 ?_
        refine z_iload_n hX dX12_holdsLine_59 2 rfl ?_
        refine z_aload_n hX dX12_holdsLine_60 1 rfl ?_
        refine z_iload hX dX12_holdsLine_61 0 rfl ?_
        refine z_aload_n hX dX12_holdsLine_63 1 rfl ?_
        refine gf_Model_world hX zq_493 q1495 dX12_holdsLine_64 ?_
        refine z_sipush hX dX12_holdsLine_67 cs_509 ?_
        refine z_iconst hX dX12_holdsLine_70 ci_2 ?_
        refine z_iload hX dX12_holdsLine_71 4 rfl ?_
        refine z_imul hX dX12_holdsLine_73 ?_
        refine z_iadd hX dX12_holdsLine_74 ?_
        refine z_iconst hX dX12_holdsLine_75 ci_1 ?_
        refine z_iadd hX dX12_holdsLine_76 ?_
        replace hf := zchk_some hf
        obtain ⟨h28, hf⟩ := hf
        refine z_iald hX zq_494 (by decide) (zc_3158 _ _ _) h28 dX12_holdsLine_77 ?_
        replace hf := zb_some hf
        obtain ⟨r_29, h29, hf⟩ := hf
        refine z_callV1 hX ok_X12_factOf q1831 q1833 q79 (zrm_ok hR (by decide)) (ct_X12_factOf  h29) (zrec_Model hX zq_493) dX12_holdsLine_78 rfl rfl ?_
        replace hf := zchk_some hf
        obtain ⟨h30, hf⟩ := hf
        replace hf := zput_some hf
        obtain ⟨g31, eg31, hf⟩ := hf
        refine z_iast hX zq_501 (by decide) (zc_1400 _ _) h30 dX12_holdsLine_81 (zW.eqg eg31 ?_)
        refine z_iincc (lv' := [(2, .int (v2 + 1)), (5, .int (g 494 (509 + (2 * v4)).toNatClampNeg)), (0, .ref (zB X + 493)), (3, .int v3), (4, .int v4)]) hX dX12_holdsLine_82 hn (by decide) 2 rfl ci_1 rfl ?_
        refine z_goto hX 253 dX12_holdsLine_85 (by decide) ?_
        refine z_iincc (lv' := [(4, .int (v4 + 1)), (2, .int (v2 + 1)), (5, .int (g 494 (509 + (2 * v4)).toNatClampNeg)), (0, .ref (zB X + 493)), (3, .int v3)]) hX dX12_holdsLine_253 hn (by decide) 4 rfl ci_1 rfl ?_
        refine z_goto hX 20 dX12_holdsLine_256 (by decide) ?_
        refine zW.sub [3, 1, 4, 0] rfl ?_
        exact ih (v2 + 1) (v4 + 1) g31 hf
set_option maxHeartbeats 4000000 in
set_option maxRecDepth 100000 in
theorem fX12_holdsLine_ok {X : zX} (hX : zCX X cX12_holdsLine RX12) (hT : zNT X) (hR : X.2.2.2.1 = zrm 2 0) (hr : X.2.2.2.2.2.2.2.2.1.sig.returnType = (some .boolean)) (hn : X.2.2.2.2.2.2.2.2.2.1.maxLocals = 9) {v1 : Int32} {g : zM} {r : Int32 × zM} (hf : fX12_holdsLine v1 g = some r) : zW X (zQ X (.inl (some (.int r.1), r.2)) 0) 0 0 0 [(0, .ref (zB X + 493)), (1, .int v1)] [] g := by
  unfold fX12_holdsLine at hf
  refine z_iconst hX dX12_holdsLine_0 ci_0 ?_
  refine z_istore_n (lv' := [(2, .int 0), (0, .ref (zB X + 493)), (1, .int v1)]) hX dX12_holdsLine_1 hn (by decide) rfl ?_
  refine z_sipush hX dX12_holdsLine_2 cs_461 ?_
  refine z_iconst hX dX12_holdsLine_5 ci_4 ?_
  refine z_iload_n hX dX12_holdsLine_6 2 rfl ?_
  refine z_imul hX dX12_holdsLine_7 ?_
  refine z_iadd hX dX12_holdsLine_8 ?_
  refine z_istore_n (lv' := [(3, .int (461 + (4 * v1))), (2, .int 0), (0, .ref (zB X + 493)), (1, .int v1)]) hX dX12_holdsLine_9 hn (by decide) rfl ?_
  refine z_aload_n hX dX12_holdsLine_10 2 rfl ?_
  refine gf_Model_world hX zq_493 q1495 dX12_holdsLine_11 ?_
  refine z_iload_n hX dX12_holdsLine_14 0 rfl ?_
  refine z_iconst hX dX12_holdsLine_15 ci_2 ?_
  refine z_iadd hX dX12_holdsLine_16 ?_
  replace hf := zchk_some hf
  obtain ⟨h1, hf⟩ := hf
  refine z_iald hX zq_494 (by decide) (zc_3158 _ _ _) h1 dX12_holdsLine_17 ?_
  refine z_istore (lv' := [(4, .int (g 494 ((461 + (4 * v1)) + 2).toNatClampNeg)), (3, .int (461 + (4 * v1))), (2, .int 0), (0, .ref (zB X + 493)), (1, .int v1)]) hX dX12_holdsLine_18 hn (by decide) rfl ?_
  refine zW.sub [3, 2, 1, 0] rfl ?_
  refine fX12_holdsLine_L20_ok hX hT hR hr hn (fun v2_32 g32 hf => ?_) zFU 0 (g 494 ((461 + (4 * v1)) + 2).toNatClampNeg) g hf
  · refine z_iload_n hX dX12_holdsLine_259 1 rfl ?_
    refine z_if_eq hX 273 dX12_holdsLine_260 (by decide) (fun h33 => ?_) (fun h33 => ?_)
    · replace hf := zif_pos h33 hf
      refine z_iconst hX dX12_holdsLine_273 ci_1 ?_
      refine z_goto hX 278 dX12_holdsLine_274 (by decide) ?_
      obtain rfl := Option.some.inj hf
      exact z_iret hX hr (zbn (Or.inr rfl)) (zl rfl) (zl rfl) dX12_holdsLine_278
    · replace hf := zif_neg h33 hf
      refine z_aload_n hX dX12_holdsLine_263 0 rfl ?_
      refine gf_Model_value hX zq_493 q1511 dX12_holdsLine_264 ?_
      refine z_iconst hX dX12_holdsLine_267 ci_0 ?_
      replace hf := zchk_some hf
      obtain ⟨h34, hf⟩ := hf
      refine z_iald hX zq_501 (by decide) (zc_1400 _ _ _) h34 dX12_holdsLine_268 ?_
      refine z_iconst hX dX12_holdsLine_269 ci_1 ?_
      refine z_icmp_ne hX 277 dX12_holdsLine_270 (by decide) (fun h35 => ?_) (fun h35 => ?_)
      · replace hf := zif_neg h35 hf
        refine z_iconst hX dX12_holdsLine_277 ci_0 ?_
        obtain rfl := Option.some.inj hf
        exact z_iret hX hr (zbn (Or.inl rfl)) (zl rfl) (zl rfl) dX12_holdsLine_278
      · replace hf := zif_pos h35 hf
        refine z_iconst hX dX12_holdsLine_273 ci_1 ?_
        refine z_goto hX 278 dX12_holdsLine_274 (by decide) ?_
        obtain rfl := Option.some.inj hf
        exact z_iret hX hr (zbn (Or.inr rfl)) (zl rfl) (zl rfl) dX12_holdsLine_278
set_option maxHeartbeats 4000000 in
set_option maxRecDepth 100000 in
theorem ct_X12_holdsLine {E : zE} {v1 : Int32} {g : zM} {r : Int32 × zM} (hf : fX12_holdsLine v1 g = some r) : zCt yX12_holdsLine cX12_holdsLine 9 (some .boolean) 2 0 E [.ref (E.1 + 493), .int v1] g (.inl (some (.int r.1), r.2)) := by
  refine zmet (by decide) (zl rfl) (fun X hE hX hT hR hr hn => ?_)
  subst hE
  exact fX12_holdsLine_ok hX hT hR hr hn  hf
def fX12_lawLines (g : zM) : Option Int32 := zchk 3 2158 (if (g 494 (3 : Int32).toNatClampNeg) = 1 then zchk 460 2158 (some (g 494 (460 : Int32).toNatClampNeg)) else some 0)
set_option maxHeartbeats 4000000 in
set_option maxRecDepth 100000 in
theorem fX12_lawLines_ok {X : zX} (hX : zCX X cX12_lawLines RX12) (hT : zNT X) (hR : X.2.2.2.1 = zrm 0 0) (hr : X.2.2.2.2.2.2.2.2.1.sig.returnType = (some .int)) (hn : X.2.2.2.2.2.2.2.2.2.1.maxLocals = 1)  {g : zM} {r : Int32} (hf : fX12_lawLines g = some r) : zW X (zQ X (.inl (some (.int r), g)) 0) 0 0 0 [(0, .ref (zB X + 493))] [] g := by
  unfold fX12_lawLines at hf
  refine z_aload_n hX dX12_lawLines_0 0 rfl ?_
  refine gf_Model_world hX zq_493 q1495 dX12_lawLines_1 ?_
  refine z_iconst hX dX12_lawLines_4 ci_3 ?_
  replace hf := zchk_some hf
  obtain ⟨h1, hf⟩ := hf
  refine z_iald hX zq_494 (by decide) (zc_3158 _ _ _) h1 dX12_lawLines_5 ?_
  refine z_iconst hX dX12_lawLines_6 ci_1 ?_
  refine z_icmp_ne hX 21 dX12_lawLines_7 (by decide) (fun h2 => ?_) (fun h2 => ?_)
  · replace hf := zif_neg h2 hf
    refine z_iconst hX dX12_lawLines_21 ci_0 ?_
    obtain rfl := Option.some.inj hf
    exact z_iret hX hr rfl (zl rfl) (zl rfl) dX12_lawLines_22
  · replace hf := zif_pos h2 hf
    refine z_aload_n hX dX12_lawLines_10 0 rfl ?_
    refine gf_Model_world hX zq_493 q1495 dX12_lawLines_11 ?_
    refine z_sipush hX dX12_lawLines_14 cs_460 ?_
    replace hf := zchk_some hf
    obtain ⟨h3, hf⟩ := hf
    refine z_iald hX zq_494 (by decide) (zc_3158 _ _ _) h3 dX12_lawLines_17 ?_
    refine z_goto hX 22 dX12_lawLines_18 (by decide) ?_
    obtain rfl := Option.some.inj hf
    exact z_iret hX hr rfl (zl rfl) (zl rfl) dX12_lawLines_22
set_option maxHeartbeats 4000000 in
set_option maxRecDepth 100000 in
theorem ct_X12_lawLines {E : zE} {g : zM} {r : Int32} (hf : fX12_lawLines g = some r) : zCt yX12_lawLines cX12_lawLines 1 (some .int) 0 0 E [.ref (E.1 + 493)] g (.inl (some (.int r), g)) := by
  refine zmet (by decide) (zl rfl) (fun X hE hX hT hR hr hn => ?_)
  subst hE
  exact fX12_lawLines_ok hX hT hR hr hn  hf
def fX12_lawFrom (v1 : Int32) (g : zM) : Option Int32 := zchk (461 + (4 * v1)) 2158 (some (g 494 (461 + (4 * v1)).toNatClampNeg))
set_option maxHeartbeats 4000000 in
set_option maxRecDepth 100000 in
theorem fX12_lawFrom_ok {X : zX} (hX : zCX X cX12_lawFrom RX12) (hT : zNT X) (hR : X.2.2.2.1 = zrm 0 0) (hr : X.2.2.2.2.2.2.2.2.1.sig.returnType = (some .int)) (hn : X.2.2.2.2.2.2.2.2.2.1.maxLocals = 2) {v1 : Int32} {g : zM} {r : Int32} (hf : fX12_lawFrom v1 g = some r) : zW X (zQ X (.inl (some (.int r), g)) 0) 0 0 0 [(0, .ref (zB X + 493)), (1, .int v1)] [] g := by
  unfold fX12_lawFrom at hf
  refine z_aload_n hX dX12_lawFrom_0 0 rfl ?_
  refine gf_Model_world hX zq_493 q1495 dX12_lawFrom_1 ?_
  refine z_sipush hX dX12_lawFrom_4 cs_461 ?_
  refine z_iconst hX dX12_lawFrom_7 ci_4 ?_
  refine z_iload_n hX dX12_lawFrom_8 1 rfl ?_
  refine z_imul hX dX12_lawFrom_9 ?_
  refine z_iadd hX dX12_lawFrom_10 ?_
  replace hf := zchk_some hf
  obtain ⟨h1, hf⟩ := hf
  refine z_iald hX zq_494 (by decide) (zc_3158 _ _ _) h1 dX12_lawFrom_11 ?_
  obtain rfl := Option.some.inj hf
  exact z_iret hX hr rfl (zl rfl) (zl rfl) dX12_lawFrom_12
set_option maxHeartbeats 4000000 in
set_option maxRecDepth 100000 in
theorem ct_X12_lawFrom {E : zE} {v1 : Int32} {g : zM} {r : Int32} (hf : fX12_lawFrom v1 g = some r) : zCt yX12_lawFrom cX12_lawFrom 2 (some .int) 0 0 E [.ref (E.1 + 493), .int v1] g (.inl (some (.int r), g)) := by
  refine zmet (by decide) (zl rfl) (fun X hE hX hT hR hr hn => ?_)
  subst hE
  exact fX12_lawFrom_ok hX hT hR hr hn  hf
def fX12_lawTo (v1 : Int32) (g : zM) : Option Int32 := zchk ((461 + (4 * v1)) + 1) 2158 (some (g 494 ((461 + (4 * v1)) + 1).toNatClampNeg))
set_option maxHeartbeats 4000000 in
set_option maxRecDepth 100000 in
theorem fX12_lawTo_ok {X : zX} (hX : zCX X cX12_lawTo RX12) (hT : zNT X) (hR : X.2.2.2.1 = zrm 0 0) (hr : X.2.2.2.2.2.2.2.2.1.sig.returnType = (some .int)) (hn : X.2.2.2.2.2.2.2.2.2.1.maxLocals = 2) {v1 : Int32} {g : zM} {r : Int32} (hf : fX12_lawTo v1 g = some r) : zW X (zQ X (.inl (some (.int r), g)) 0) 0 0 0 [(0, .ref (zB X + 493)), (1, .int v1)] [] g := by
  unfold fX12_lawTo at hf
  refine z_aload_n hX dX12_lawTo_0 0 rfl ?_
  refine gf_Model_world hX zq_493 q1495 dX12_lawTo_1 ?_
  refine z_sipush hX dX12_lawTo_4 cs_461 ?_
  refine z_iconst hX dX12_lawTo_7 ci_4 ?_
  refine z_iload_n hX dX12_lawTo_8 1 rfl ?_
  refine z_imul hX dX12_lawTo_9 ?_
  refine z_iadd hX dX12_lawTo_10 ?_
  refine z_iconst hX dX12_lawTo_11 ci_1 ?_
  refine z_iadd hX dX12_lawTo_12 ?_
  replace hf := zchk_some hf
  obtain ⟨h1, hf⟩ := hf
  refine z_iald hX zq_494 (by decide) (zc_3158 _ _ _) h1 dX12_lawTo_13 ?_
  obtain rfl := Option.some.inj hf
  exact z_iret hX hr rfl (zl rfl) (zl rfl) dX12_lawTo_14
set_option maxHeartbeats 4000000 in
set_option maxRecDepth 100000 in
theorem ct_X12_lawTo {E : zE} {v1 : Int32} {g : zM} {r : Int32} (hf : fX12_lawTo v1 g = some r) : zCt yX12_lawTo cX12_lawTo 2 (some .int) 0 0 E [.ref (E.1 + 493), .int v1] g (.inl (some (.int r), g)) := by
  refine zmet (by decide) (zl rfl) (fun X hE hX hT hR hr hn => ?_)
  subst hE
  exact fX12_lawTo_ok hX hT hR hr hn  hf
def fX12_follows_L2 (k37 : Int32 → zM → Option (Int32 × zM)) : Nat → Int32 → zM → Option (Int32 × zM)
  | 0, _, _ => none
  | n + 1, v1, g => zb (fX12_lawLines g) (fun r_1 => if r_1 ≤ v1 then some ((-1), g) else zb (fX12_lawFrom v1 g) (fun r_3 => zchk ((g 493 19) - 1) 24 (if r_3 = (g 502 ((g 493 19) - 1).toNatClampNeg) then zb2 (fX12_holdsLine v1 g) (fun r_6 g6 => if r_6 = 0 then fX12_follows_L2 k37 n (v1 + 1) g6 else k37 v1 g6) else fX12_follows_L2 k37 n (v1 + 1) g)))
def fX12_follows (g : zM) : Option (Int32 × zM) := fX12_follows_L2 (fun v1_8 g8 => zb (fX12_lawTo v1_8 g8) (fun r_9 => some (r_9, g8))) zFU 0 g
set_option maxHeartbeats 4000000 in
set_option maxRecDepth 100000 in
theorem fX12_follows_L2_ok {X : zX} (hX : zCX X cX12_follows RX12) (hT : zNT X) (hR : X.2.2.2.1 = zrm 3 0) (hr : X.2.2.2.2.2.2.2.2.1.sig.returnType = (some .int)) (hn : X.2.2.2.2.2.2.2.2.2.1.maxLocals = 2) {k37 : Int32 → zM → Option (Int32 × zM)} {r : Int32 × zM} (hk37 : ∀ (v1 : Int32) (g : zM), k37 v1 g = some r → zW X (zQ X (.inl (some (.int r.1), r.2)) 0) 0 0 37 [(0, .ref (zB X + 493)), (1, .int v1)] [] g) : ∀ (n : Nat) (v1 : Int32) (g : zM), fX12_follows_L2 k37 n v1 g = some r → zW X (zQ X (.inl (some (.int r.1), r.2)) 0) 0 0 2 [(0, .ref (zB X + 493)), (1, .int v1)] [] g := by
  intro n
  induction n with
  | zero => intro v1 g hf; exact zno hf
  | succ n ih =>
    intro v1 g hf
    rw [fX12_follows_L2] at hf
    refine z_iload_n hX dX12_follows_2 1 rfl ?_
    refine z_aload_n hX dX12_follows_3 0 rfl ?_
    replace hf := zb_some hf
    obtain ⟨r_1, h1, hf⟩ := hf
    refine z_callV1 hX ok_X12_lawLines q1819 q1821 q76 (zrm_ok hR (by decide)) (ct_X12_lawLines  h1) (zrec_Model hX zq_493) dX12_follows_4 rfl rfl ?_
    refine z_icmp_ge hX 49 dX12_follows_7 (by decide) (fun h2 => ?_) (fun h2 => ?_)
    · replace hf := zif_pos h2 hf
      refine z_iconst hX dX12_follows_49 ci_m1 ?_
      obtain rfl := Option.some.inj hf
      exact z_iret hX hr rfl (zl rfl) (zl rfl) dX12_follows_50
    · replace hf := zif_neg h2 hf
      refine z_aload_n hX dX12_follows_10 0 rfl ?_
      refine z_iload_n hX dX12_follows_11 1 rfl ?_
      replace hf := zb_some hf
      obtain ⟨r_3, h3, hf⟩ := hf
      refine z_callV1 hX ok_X12_lawFrom q1823 q1825 q77 (zrm_ok hR (by decide)) (ct_X12_lawFrom  h3) (zrec_Model hX zq_493) dX12_follows_12 rfl rfl ?_
      refine z_aload_n hX dX12_follows_15 0 rfl ?_
      refine gf_Model_row hX zq_493 q1512 dX12_follows_16 ?_
      refine z_aload_n hX dX12_follows_19 0 rfl ?_
      refine gf_Model_many hX zq_493 q1513 dX12_follows_20 ?_
      refine z_iconst hX dX12_follows_23 ci_1 ?_
      refine z_isub hX dX12_follows_24 ?_
      replace hf := zchk_some hf
      obtain ⟨h4, hf⟩ := hf
      refine z_iald hX zq_502 (by decide) (zc_1024 _ _ _) h4 dX12_follows_25 ?_
      refine z_icmp_ne hX 43 dX12_follows_26 (by decide) (fun h5 => ?_) (fun h5 => ?_)
      · replace hf := zif_neg h5 hf
        refine z_iincc (lv' := [(1, .int (v1 + 1)), (0, .ref (zB X + 493))]) hX dX12_follows_43 hn (by decide) 1 rfl ci_1 rfl ?_
        refine z_goto hX 2 dX12_follows_46 (by decide) ?_
        refine zW.sub [1, 0] rfl ?_
        exact ih (v1 + 1) g hf
      · replace hf := zif_pos h5 hf
        refine z_aload_n hX dX12_follows_29 0 rfl ?_
        refine z_iload_n hX dX12_follows_30 1 rfl ?_
        replace hf := zb2_some hf
        obtain ⟨r_6, g6, h6, hf⟩ := hf
        refine z_callV1 hX ok_X12_holdsLine q1827 q1829 q78 (zrm_ok hR (by decide)) (ct_X12_holdsLine  h6) (zrec_Model hX zq_493) dX12_follows_31 rfl rfl ?_
        refine z_if_eq hX 43 dX12_follows_34 (by decide) (fun h7 => ?_) (fun h7 => ?_)
        · replace hf := zif_pos h7 hf
          refine z_iincc (lv' := [(1, .int (v1 + 1)), (0, .ref (zB X + 493))]) hX dX12_follows_43 hn (by decide) 1 rfl ci_1 rfl ?_
          refine z_goto hX 2 dX12_follows_46 (by decide) ?_
          refine zW.sub [1, 0] rfl ?_
          exact ih (v1 + 1) g6 hf
        · replace hf := zif_neg h7 hf
          exact hk37 v1 g6 hf
set_option maxHeartbeats 4000000 in
set_option maxRecDepth 100000 in
theorem fX12_follows_ok {X : zX} (hX : zCX X cX12_follows RX12) (hT : zNT X) (hR : X.2.2.2.1 = zrm 3 0) (hr : X.2.2.2.2.2.2.2.2.1.sig.returnType = (some .int)) (hn : X.2.2.2.2.2.2.2.2.2.1.maxLocals = 2)  {g : zM} {r : Int32 × zM} (hf : fX12_follows g = some r) : zW X (zQ X (.inl (some (.int r.1), r.2)) 0) 0 0 0 [(0, .ref (zB X + 493))] [] g := by
  unfold fX12_follows at hf
  refine z_iconst hX dX12_follows_0 ci_0 ?_
  refine z_istore_n (lv' := [(1, .int 0), (0, .ref (zB X + 493))]) hX dX12_follows_1 hn (by decide) rfl ?_
  refine zW.sub [1, 0] rfl ?_
  refine fX12_follows_L2_ok hX hT hR hr hn (fun v1_8 g8 hf => ?_) zFU 0 g hf
  · refine z_aload_n hX dX12_follows_37 0 rfl ?_
    refine z_iload_n hX dX12_follows_38 1 rfl ?_
    replace hf := zb_some hf
    obtain ⟨r_9, h9, hf⟩ := hf
    refine z_callV1 hX ok_X12_lawTo q1838 q1840 q80 (zrm_ok hR (by decide)) (ct_X12_lawTo  h9) (zrec_Model hX zq_493) dX12_follows_39 rfl rfl ?_
    obtain rfl := Option.some.inj hf
    exact z_iret hX hr rfl (zl rfl) (zl rfl) dX12_follows_42
set_option maxHeartbeats 4000000 in
set_option maxRecDepth 100000 in
theorem ct_X12_follows {E : zE} {g : zM} {r : Int32 × zM} (hf : fX12_follows g = some r) : zCt yX12_follows cX12_follows 2 (some .int) 3 0 E [.ref (E.1 + 493)] g (.inl (some (.int r.1), r.2)) := by
  refine zmet (by decide) (zl rfl) (fun X hE hX hT hR hr hn => ?_)
  subst hE
  exact fX12_follows_ok hX hT hR hr hn  hf
def fX12_looksAt_L11 (v1 : Int32) (k37 : zM → Option zM) : Nat → Int32 → zM → Option zM
  | 0, _, _ => none
  | n + 1, v2, g => if (g 493 19) ≤ v2 then k37 g else zb (fX12_kindOf v1 v2 g) (fun r_4 => zchk v2 24 (zput g 502 v2.toNatClampNeg r_4 (fun g6 => fX12_looksAt_L11 v1 k37 n (v2 + 1) g6)))
def fX12_looksAt (v1 : Int32) (g : zM) : Option zM := zb (fX12_lines v1 g) (fun r_1 => zput g 493 19 r_1 (fun g2 => fX12_looksAt_L11 v1 (fun g7 => zb (fX12_of v1 1 g7) (fun r_8 => zput g7 493 20 r_8 (fun g9 => zb (fX12_of v1 2 g9) (fun r_10 => zput g9 493 21 r_10 (fun g11 => zb (fX12_isOpen v1 g11) (fun r_12 => zbo r_12 (zput g11 493 23 r_12 (fun g14 => zb (fX12_of v1 4 g14) (fun r_15 => if r_15 = 1 then zput g14 493 24 1 (fun g20 => zchk 4 2158 (zput g20 493 22 (g20 494 (4 : Int32).toNatClampNeg) (fun g22 => some g22))) else zput g14 493 24 0 (fun g17 => zchk 4 2158 (zput g17 493 22 (g17 494 (4 : Int32).toNatClampNeg) (fun g19 => some g19)))))))))))) zFU 0 g2))
set_option maxHeartbeats 4000000 in
set_option maxRecDepth 100000 in
theorem fX12_looksAt_L11_ok {X : zX} (hX : zCX X cX12_looksAt RX12) (hT : zNT X) (hR : X.2.2.2.1 = zrm 3 0) (hr : X.2.2.2.2.2.2.2.2.1.sig.returnType = none) (hn : X.2.2.2.2.2.2.2.2.2.1.maxLocals = 3) {v1 : Int32} {k37 : zM → Option zM} {r : zM} (hk37 : ∀ (g : zM), k37 g = some r → zW X (zQ X (.inl (none, r)) 0) 0 0 37 [(0, .ref (zB X + 493)), (1, .int v1)] [] g) : ∀ (n : Nat) (v2 : Int32) (g : zM), fX12_looksAt_L11 v1 k37 n v2 g = some r → zW X (zQ X (.inl (none, r)) 0) 0 0 11 [(0, .ref (zB X + 493)), (1, .int v1), (2, .int v2)] [] g := by
  intro n
  induction n with
  | zero => intro v2 g hf; exact zno hf
  | succ n ih =>
    intro v2 g hf
    rw [fX12_looksAt_L11] at hf
    refine z_iload_n hX dX12_looksAt_11 2 rfl ?_
    refine z_aload_n hX dX12_looksAt_12 0 rfl ?_
    refine gf_Model_many hX zq_493 q1513 dX12_looksAt_13 ?_
    refine z_icmp_ge hX 37 dX12_looksAt_16 (by decide) (fun h3 => ?_) (fun h3 => ?_)
    · replace hf := zif_pos h3 hf
      refine zW.sub [0, 1] rfl ?_
      exact hk37 g hf
    · replace hf := zif_neg h3 hf
      refine z_aload_n hX dX12_looksAt_19 0 rfl ?_
      refine gf_Model_row hX zq_493 q1512 dX12_looksAt_20 ?_
      refine z_iload_n hX dX12_looksAt_23 2 rfl ?_
      refine z_aload_n hX dX12_looksAt_24 0 rfl ?_
      refine z_iload_n hX dX12_looksAt_25 1 rfl ?_
      refine z_iload_n hX dX12_looksAt_26 2 rfl ?_
      replace hf := zb_some hf
      obtain ⟨r_4, h4, hf⟩ := hf
      refine z_callV1 hX ok_X12_kindOf q1795 q1797 q70 (zrm_ok hR (by decide)) (ct_X12_kindOf  h4) (zrec_Model hX zq_493) dX12_looksAt_27 rfl rfl ?_
      replace hf := zchk_some hf
      obtain ⟨h5, hf⟩ := hf
      replace hf := zput_some hf
      obtain ⟨g6, eg6, hf⟩ := hf
      refine z_iast hX zq_502 (by decide) (zc_1024 _ _) h5 dX12_looksAt_30 (zW.eqg eg6 ?_)
      refine z_iincc (lv' := [(2, .int (v2 + 1)), (0, .ref (zB X + 493)), (1, .int v1)]) hX dX12_looksAt_31 hn (by decide) 2 rfl ci_1 rfl ?_
      refine z_goto hX 11 dX12_looksAt_34 (by decide) ?_
      refine zW.sub [1, 2, 0] rfl ?_
      exact ih (v2 + 1) g6 hf
set_option maxHeartbeats 4000000 in
set_option maxRecDepth 100000 in
theorem fX12_looksAt_ok {X : zX} (hX : zCX X cX12_looksAt RX12) (hT : zNT X) (hR : X.2.2.2.1 = zrm 3 0) (hr : X.2.2.2.2.2.2.2.2.1.sig.returnType = none) (hn : X.2.2.2.2.2.2.2.2.2.1.maxLocals = 3) {v1 : Int32} {g : zM} {r : zM} (hf : fX12_looksAt v1 g = some r) : zW X (zQ X (.inl (none, r)) 0) 0 0 0 [(0, .ref (zB X + 493)), (1, .int v1)] [] g := by
  unfold fX12_looksAt at hf
  refine z_aload_n hX dX12_looksAt_0 0 rfl ?_
  refine z_aload_n hX dX12_looksAt_1 0 rfl ?_
  refine z_iload_n hX dX12_looksAt_2 1 rfl ?_
  replace hf := zb_some hf
  obtain ⟨r_1, h1, hf⟩ := hf
  refine z_callV1 hX ok_X12_lines q1683 q1685 q48 (zrm_ok hR (by decide)) (ct_X12_lines  h1) (zrec_Model hX zq_493) dX12_looksAt_3 rfl rfl ?_
  replace hf := zput_some hf
  obtain ⟨g2, eg2, hf⟩ := hf
  refine gp_Model_many hX zq_493 q1513 dX12_looksAt_6 (zW.eqg eg2 ?_)
  refine z_iconst hX dX12_looksAt_9 ci_0 ?_
  refine z_istore_n (lv' := [(2, .int 0), (0, .ref (zB X + 493)), (1, .int v1)]) hX dX12_looksAt_10 hn (by decide) rfl ?_
  refine zW.sub [1, 2, 0] rfl ?_
  refine fX12_looksAt_L11_ok hX hT hR hr hn (fun g7 hf => ?_) zFU 0 g2 hf
  · refine z_aload_n hX dX12_looksAt_37 0 rfl ?_
    refine z_aload_n hX dX12_looksAt_38 0 rfl ?_
    refine z_iload_n hX dX12_looksAt_39 1 rfl ?_
    refine z_iconst hX dX12_looksAt_40 ci_1 ?_
    replace hf := zb_some hf
    obtain ⟨r_8, h8, hf⟩ := hf
    refine z_callV1 hX ok_X12_of q1687 q1689 q49 (zrm_ok hR (by decide)) (ct_X12_of  h8) (zrec_Model hX zq_493) dX12_looksAt_41 rfl rfl ?_
    replace hf := zput_some hf
    obtain ⟨g9, eg9, hf⟩ := hf
    refine gp_Model_temper hX zq_493 q1514 dX12_looksAt_44 (zW.eqg eg9 ?_)
    refine z_aload_n hX dX12_looksAt_47 0 rfl ?_
    refine z_aload_n hX dX12_looksAt_48 0 rfl ?_
    refine z_iload_n hX dX12_looksAt_49 1 rfl ?_
    refine z_iconst hX dX12_looksAt_50 ci_2 ?_
    replace hf := zb_some hf
    obtain ⟨r_10, h10, hf⟩ := hf
    refine z_callV1 hX ok_X12_of q1687 q1689 q49 (zrm_ok hR (by decide)) (ct_X12_of  h10) (zrec_Model hX zq_493) dX12_looksAt_51 rfl rfl ?_
    replace hf := zput_some hf
    obtain ⟨g11, eg11, hf⟩ := hf
    refine gp_Model_sender hX zq_493 q1515 dX12_looksAt_54 (zW.eqg eg11 ?_)
    refine z_aload_n hX dX12_looksAt_57 0 rfl ?_
    refine z_aload_n hX dX12_looksAt_58 0 rfl ?_
    refine z_iload_n hX dX12_looksAt_59 1 rfl ?_
    replace hf := zb_some hf
    obtain ⟨r_12, h12, hf⟩ := hf
    refine z_callV1 hX ok_X12_isOpen q1799 q1801 q71 (zrm_ok hR (by decide)) (ct_X12_isOpen  h12) (zrec_Model hX zq_493) dX12_looksAt_60 rfl rfl ?_
    replace hf := zbo_some hf
    obtain ⟨h13, hf⟩ := hf
    replace hf := zput_some hf
    obtain ⟨g14, eg14, hf⟩ := hf
    refine gp_Model_open hX zq_493 q1517 h13 dX12_looksAt_63 (zW.eqg eg14 ?_)
    refine z_aload_n hX dX12_looksAt_66 0 rfl ?_
    refine z_aload_n hX dX12_looksAt_67 0 rfl ?_
    refine z_iload_n hX dX12_looksAt_68 1 rfl ?_
    refine z_iconst hX dX12_looksAt_69 ci_4 ?_
    replace hf := zb_some hf
    obtain ⟨r_15, h15, hf⟩ := hf
    refine z_callV1 hX ok_X12_of q1687 q1689 q49 (zrm_ok hR (by decide)) (ct_X12_of  h15) (zrec_Model hX zq_493) dX12_looksAt_70 rfl rfl ?_
    refine z_iconst hX dX12_looksAt_73 ci_1 ?_
    refine z_icmp_ne hX 81 dX12_looksAt_74 (by decide) (fun h16 => ?_) (fun h16 => ?_)
    · replace hf := zif_neg h16 hf
      refine z_iconst hX dX12_looksAt_81 ci_0 ?_
      replace hf := zput_some hf
      obtain ⟨g17, eg17, hf⟩ := hf
      refine gp_Model_hot hX zq_493 q1518 (Or.inl rfl) dX12_looksAt_82 (zW.eqg eg17 ?_)
      refine z_aload_n hX dX12_looksAt_85 0 rfl ?_
      refine z_aload_n hX dX12_looksAt_86 0 rfl ?_
      refine gf_Model_world hX zq_493 q1495 dX12_looksAt_87 ?_
      refine z_iconst hX dX12_looksAt_90 ci_4 ?_
      replace hf := zchk_some hf
      obtain ⟨h18, hf⟩ := hf
      refine z_iald hX zq_494 (by decide) (zc_3158 _ _ _) h18 dX12_looksAt_91 ?_
      replace hf := zput_some hf
      obtain ⟨g19, eg19, hf⟩ := hf
      refine gp_Model_week hX zq_493 q1516 dX12_looksAt_92 (zW.eqg eg19 ?_)
      obtain rfl := Option.some.inj hf
      exact z_vret hX hr (zl rfl) (zl rfl) dX12_looksAt_95
    · replace hf := zif_pos h16 hf
      refine z_iconst hX dX12_looksAt_77 ci_1 ?_
      refine z_goto hX 82 dX12_looksAt_78 (by decide) ?_
      replace hf := zput_some hf
      obtain ⟨g20, eg20, hf⟩ := hf
      refine gp_Model_hot hX zq_493 q1518 (Or.inr rfl) dX12_looksAt_82 (zW.eqg eg20 ?_)
      refine z_aload_n hX dX12_looksAt_85 0 rfl ?_
      refine z_aload_n hX dX12_looksAt_86 0 rfl ?_
      refine gf_Model_world hX zq_493 q1495 dX12_looksAt_87 ?_
      refine z_iconst hX dX12_looksAt_90 ci_4 ?_
      replace hf := zchk_some hf
      obtain ⟨h21, hf⟩ := hf
      refine z_iald hX zq_494 (by decide) (zc_3158 _ _ _) h21 dX12_looksAt_91 ?_
      replace hf := zput_some hf
      obtain ⟨g22, eg22, hf⟩ := hf
      refine gp_Model_week hX zq_493 q1516 dX12_looksAt_92 (zW.eqg eg22 ?_)
      obtain rfl := Option.some.inj hf
      exact z_vret hX hr (zl rfl) (zl rfl) dX12_looksAt_95
set_option maxHeartbeats 4000000 in
set_option maxRecDepth 100000 in
theorem ct_X12_looksAt {E : zE} {v1 : Int32} {g : zM} {r : zM} (hf : fX12_looksAt v1 g = some r) : zCt yX12_looksAt cX12_looksAt 3 none 3 0 E [.ref (E.1 + 493), .int v1] g (.inl (none, r)) := by
  refine zmet (by decide) (zl rfl) (fun X hE hX hT hR hr hn => ?_)
  subst hE
  exact fX12_looksAt_ok hX hT hR hr hn  hf
def fX12_canGrow (g : zM) : Option (Int32 × zM) := if (g 493 23) = 0 then if 24 ≤ (g 493 19) then some (0, g) else zb2 (fX12_follows g) (fun r_3 g3 => if r_3 < 0 then some (0, g3) else some (1, g3)) else some (0, g)
set_option maxHeartbeats 4000000 in
set_option maxRecDepth 100000 in
theorem fX12_canGrow_ok {X : zX} (hX : zCX X cX12_canGrow RX12) (hT : zNT X) (hR : X.2.2.2.1 = zrm 4 0) (hr : X.2.2.2.2.2.2.2.2.1.sig.returnType = (some .boolean)) (hn : X.2.2.2.2.2.2.2.2.2.1.maxLocals = 1)  {g : zM} {r : Int32 × zM} (hf : fX12_canGrow g = some r) : zW X (zQ X (.inl (some (.int r.1), r.2)) 0) 0 0 0 [(0, .ref (zB X + 493))] [] g := by
  unfold fX12_canGrow at hf
  refine z_aload_n hX dX12_canGrow_0 0 rfl ?_
  refine gf_Model_open hX zq_493 q1517 dX12_canGrow_1 ?_
  refine z_if_ne hX 27 dX12_canGrow_4 (by decide) (fun h1 => ?_) (fun h1 => ?_)
  · replace hf := zif_neg h1 hf
    refine z_iconst hX dX12_canGrow_27 ci_0 ?_
    obtain rfl := Option.some.inj hf
    exact z_iret hX hr (zbn (Or.inl rfl)) (zl rfl) (zl rfl) dX12_canGrow_28
  · replace hf := zif_pos h1 hf
    refine z_aload_n hX dX12_canGrow_7 0 rfl ?_
    refine gf_Model_many hX zq_493 q1513 dX12_canGrow_8 ?_
    refine z_bipush hX dX12_canGrow_11 cb_24 ?_
    refine z_icmp_ge hX 27 dX12_canGrow_13 (by decide) (fun h2 => ?_) (fun h2 => ?_)
    · replace hf := zif_pos h2 hf
      refine z_iconst hX dX12_canGrow_27 ci_0 ?_
      obtain rfl := Option.some.inj hf
      exact z_iret hX hr (zbn (Or.inl rfl)) (zl rfl) (zl rfl) dX12_canGrow_28
    · replace hf := zif_neg h2 hf
      refine z_aload_n hX dX12_canGrow_16 0 rfl ?_
      replace hf := zb2_some hf
      obtain ⟨r_3, g3, h3, hf⟩ := hf
      refine z_callV1 hX ok_X12_follows q1815 q1817 q75 (zrm_ok hR (by decide)) (ct_X12_follows  h3) (zrec_Model hX zq_493) dX12_canGrow_17 rfl rfl ?_
      refine z_if_lt hX 27 dX12_canGrow_20 (by decide) (fun h4 => ?_) (fun h4 => ?_)
      · replace hf := zif_pos h4 hf
        refine z_iconst hX dX12_canGrow_27 ci_0 ?_
        obtain rfl := Option.some.inj hf
        exact z_iret hX hr (zbn (Or.inl rfl)) (zl rfl) (zl rfl) dX12_canGrow_28
      · replace hf := zif_neg h4 hf
        refine z_iconst hX dX12_canGrow_23 ci_1 ?_
        refine z_goto hX 28 dX12_canGrow_24 (by decide) ?_
        obtain rfl := Option.some.inj hf
        exact z_iret hX hr (zbn (Or.inr rfl)) (zl rfl) (zl rfl) dX12_canGrow_28
set_option maxHeartbeats 4000000 in
set_option maxRecDepth 100000 in
theorem ct_X12_canGrow {E : zE} {g : zM} {r : Int32 × zM} (hf : fX12_canGrow g = some r) : zCt yX12_canGrow cX12_canGrow 1 (some .boolean) 4 0 E [.ref (E.1 + 493)] g (.inl (some (.int r.1), r.2)) := by
  refine zmet (by decide) (zl rfl) (fun X hE hX hT hR hr hn => ?_)
  subst hE
  exact fX12_canGrow_ok hX hT hR hr hn  hf
def fX12_growsOnce (g : zM) : Option zM := zb2 (fX12_canGrow g) (fun r_1 g1 => if r_1 = 0 then some g1 else zb2 (fX12_follows g1) (fun r_3 g3 => zchk (g1 493 19) 24 (zput g3 502 (g1 493 19).toNatClampNeg r_3 (fun g5 => zput g5 493 19 ((g5 493 19) + 1) (fun g6 => some g6)))))
set_option maxHeartbeats 4000000 in
set_option maxRecDepth 100000 in
theorem fX12_growsOnce_ok {X : zX} (hX : zCX X cX12_growsOnce RX12) (hT : zNT X) (hR : X.2.2.2.1 = zrm 5 0) (hr : X.2.2.2.2.2.2.2.2.1.sig.returnType = none) (hn : X.2.2.2.2.2.2.2.2.2.1.maxLocals = 1)  {g : zM} {r : zM} (hf : fX12_growsOnce g = some r) : zW X (zQ X (.inl (none, r)) 0) 0 0 0 [(0, .ref (zB X + 493))] [] g := by
  unfold fX12_growsOnce at hf
  refine z_aload_n hX dX12_growsOnce_0 0 rfl ?_
  replace hf := zb2_some hf
  obtain ⟨r_1, g1, h1, hf⟩ := hf
  refine z_callV1 hX ok_X12_canGrow q1811 q1813 q74 (zrm_ok hR (by decide)) (ct_X12_canGrow  h1) (zrec_Model hX zq_493) dX12_growsOnce_1 rfl rfl ?_
  refine z_if_ne hX 8 dX12_growsOnce_4 (by decide) (fun h2 => ?_) (fun h2 => ?_)
  · replace hf := zif_neg h2 hf
    refine z_aload_n hX dX12_growsOnce_8 0 rfl ?_
    refine gf_Model_row hX zq_493 q1512 dX12_growsOnce_9 ?_
    refine z_aload_n hX dX12_growsOnce_12 0 rfl ?_
    refine gf_Model_many hX zq_493 q1513 dX12_growsOnce_13 ?_
    refine z_aload_n hX dX12_growsOnce_16 0 rfl ?_
    replace hf := zb2_some hf
    obtain ⟨r_3, g3, h3, hf⟩ := hf
    refine z_callV1 hX ok_X12_follows q1815 q1817 q75 (zrm_ok hR (by decide)) (ct_X12_follows  h3) (zrec_Model hX zq_493) dX12_growsOnce_17 rfl rfl ?_
    replace hf := zchk_some hf
    obtain ⟨h4, hf⟩ := hf
    replace hf := zput_some hf
    obtain ⟨g5, eg5, hf⟩ := hf
    refine z_iast hX zq_502 (by decide) (zc_1024 _ _) h4 dX12_growsOnce_20 (zW.eqg eg5 ?_)
    refine z_aload_n hX dX12_growsOnce_21 0 rfl ?_
    refine z_dup hX dX12_growsOnce_22 rfl ?_
    refine gf_Model_many hX zq_493 q1513 dX12_growsOnce_23 ?_
    refine z_iconst hX dX12_growsOnce_26 ci_1 ?_
    refine z_iadd hX dX12_growsOnce_27 ?_
    replace hf := zput_some hf
    obtain ⟨g6, eg6, hf⟩ := hf
    refine gp_Model_many hX zq_493 q1513 dX12_growsOnce_28 (zW.eqg eg6 ?_)
    obtain rfl := Option.some.inj hf
    exact z_vret hX hr (zl rfl) (zl rfl) dX12_growsOnce_31
  · replace hf := zif_pos h2 hf
    obtain rfl := Option.some.inj hf
    exact z_vret hX hr (zl rfl) (zl rfl) dX12_growsOnce_7
set_option maxHeartbeats 4000000 in
set_option maxRecDepth 100000 in
theorem ct_X12_growsOnce {E : zE} {g : zM} {r : zM} (hf : fX12_growsOnce g = some r) : zCt yX12_growsOnce cX12_growsOnce 1 none 5 0 E [.ref (E.1 + 493)] g (.inl (none, r)) := by
  refine zmet (by decide) (zl rfl) (fun X hE hX hT hR hr hn => ?_)
  subst hE
  exact fX12_growsOnce_ok hX hT hR hr hn  hf
def fX12_goesOn (g : zM) : Option zM := zb (fX12_growsOnce g) (fun g1 => if (g1 493 24) = 0 then zput g1 493 22 (if (g1 493 22) + 1 < 9999 then (g1 493 22) + 1 else 9999) (fun g3 => some g3) else zb (fX12_growsOnce g1) (fun g4 => zput g4 493 22 (if (g4 493 22) + 1 < 9999 then (g4 493 22) + 1 else 9999) (fun g5 => some g5)))
set_option maxHeartbeats 4000000 in
set_option maxRecDepth 100000 in
theorem fX12_goesOn_ok {X : zX} (hX : zCX X cX12_goesOn RX12) (hT : zNT X) (hR : X.2.2.2.1 = zrm 6 0) (hr : X.2.2.2.2.2.2.2.2.1.sig.returnType = none) (hn : X.2.2.2.2.2.2.2.2.2.1.maxLocals = 1)  {g : zM} {r : zM} (hf : fX12_goesOn g = some r) : zW X (zQ X (.inl (none, r)) 0) 0 0 0 [(0, .ref (zB X + 493))] [] g := by
  unfold fX12_goesOn at hf
  refine z_aload_n hX dX12_goesOn_0 0 rfl ?_
  replace hf := zb_some hf
  obtain ⟨g1, h1, hf⟩ := hf
  refine z_callV0 hX ok_X12_growsOnce q1949 q1951 q92 (zrm_ok hR (by decide)) (ct_X12_growsOnce  h1) (zrec_Model hX zq_493) dX12_goesOn_1 rfl rfl ?_
  refine z_aload_n hX dX12_goesOn_4 0 rfl ?_
  refine gf_Model_hot hX zq_493 q1518 dX12_goesOn_5 ?_
  refine z_if_eq hX 15 dX12_goesOn_8 (by decide) (fun h2 => ?_) (fun h2 => ?_)
  · replace hf := zif_pos h2 hf
    refine z_aload_n hX dX12_goesOn_15 0 rfl ?_
    refine z_sipush hX dX12_goesOn_16 cs_9999 ?_
    refine z_aload_n hX dX12_goesOn_19 0 rfl ?_
    refine gf_Model_week hX zq_493 q1516 dX12_goesOn_20 ?_
    refine z_iconst hX dX12_goesOn_23 ci_1 ?_
    refine z_iadd hX dX12_goesOn_24 ?_
    refine z_min hX hR ⟨zl rfl, zl rfl⟩ q1929 dX12_goesOn_25 (zl rfl) ?_
    replace hf := zput_some hf
    obtain ⟨g3, eg3, hf⟩ := hf
    refine gp_Model_week hX zq_493 q1516 dX12_goesOn_28 (zW.eqg eg3 ?_)
    obtain rfl := Option.some.inj hf
    exact z_vret hX hr (zl rfl) (zl rfl) dX12_goesOn_31
  · replace hf := zif_neg h2 hf
    refine z_aload_n hX dX12_goesOn_11 0 rfl ?_
    replace hf := zb_some hf
    obtain ⟨g4, h4, hf⟩ := hf
    refine z_callV0 hX ok_X12_growsOnce q1949 q1951 q92 (zrm_ok hR (by decide)) (ct_X12_growsOnce  h4) (zrec_Model hX zq_493) dX12_goesOn_12 rfl rfl ?_
    refine z_aload_n hX dX12_goesOn_15 0 rfl ?_
    refine z_sipush hX dX12_goesOn_16 cs_9999 ?_
    refine z_aload_n hX dX12_goesOn_19 0 rfl ?_
    refine gf_Model_week hX zq_493 q1516 dX12_goesOn_20 ?_
    refine z_iconst hX dX12_goesOn_23 ci_1 ?_
    refine z_iadd hX dX12_goesOn_24 ?_
    refine z_min hX hR ⟨zl rfl, zl rfl⟩ q1929 dX12_goesOn_25 (zl rfl) ?_
    replace hf := zput_some hf
    obtain ⟨g5, eg5, hf⟩ := hf
    refine gp_Model_week hX zq_493 q1516 dX12_goesOn_28 (zW.eqg eg5 ?_)
    obtain rfl := Option.some.inj hf
    exact z_vret hX hr (zl rfl) (zl rfl) dX12_goesOn_31
set_option maxHeartbeats 4000000 in
set_option maxRecDepth 100000 in
theorem ct_X12_goesOn {E : zE} {g : zM} {r : zM} (hf : fX12_goesOn g = some r) : zCt yX12_goesOn cX12_goesOn 1 none 6 0 E [.ref (E.1 + 493)] g (.inl (none, r)) := by
  refine zmet (by decide) (zl rfl) (fun X hE hX hT hR hr hn => ?_)
  subst hE
  exact fX12_goesOn_ok hX hT hR hr hn  hf
def fX12_goesFor_L2 (v1 : Int32) : Nat → Int32 → zM → Option zM
  | 0, _, _ => none
  | n + 1, v2, g => if v1 ≤ v2 then some g else zb (fX12_goesOn g) (fun g2 => fX12_goesFor_L2 v1 n (v2 + 1) g2)
def fX12_goesFor (v1 : Int32) (g : zM) : Option zM := fX12_goesFor_L2 v1 zFU 0 g
set_option maxHeartbeats 4000000 in
set_option maxRecDepth 100000 in
theorem fX12_goesFor_L2_ok {X : zX} (hX : zCX X cX12_goesFor RX12) (hT : zNT X) (hR : X.2.2.2.1 = zrm 7 0) (hr : X.2.2.2.2.2.2.2.2.1.sig.returnType = none) (hn : X.2.2.2.2.2.2.2.2.2.1.maxLocals = 3) {v1 : Int32} {r : zM}  : ∀ (n : Nat) (v2 : Int32) (g : zM), fX12_goesFor_L2 v1 n v2 g = some r → zW X (zQ X (.inl (none, r)) 0) 0 0 2 [(0, .ref (zB X + 493)), (1, .int v1), (2, .int v2)] [] g := by
  intro n
  induction n with
  | zero => intro v2 g hf; exact zno hf
  | succ n ih =>
    intro v2 g hf
    rw [fX12_goesFor_L2] at hf
    refine z_iload_n hX dX12_goesFor_2 2 rfl ?_
    refine z_iload_n hX dX12_goesFor_3 1 rfl ?_
    refine z_icmp_ge hX 17 dX12_goesFor_4 (by decide) (fun h1 => ?_) (fun h1 => ?_)
    · replace hf := zif_pos h1 hf
      obtain rfl := Option.some.inj hf
      exact z_vret hX hr (zl rfl) (zl rfl) dX12_goesFor_17
    · replace hf := zif_neg h1 hf
      refine z_aload_n hX dX12_goesFor_7 0 rfl ?_
      replace hf := zb_some hf
      obtain ⟨g2, h2, hf⟩ := hf
      refine z_callV0 hX ok_X12_goesOn q1945 q1947 q91 (zrm_ok hR (by decide)) (ct_X12_goesOn  h2) (zrec_Model hX zq_493) dX12_goesFor_8 rfl rfl ?_
      refine z_iincc (lv' := [(2, .int (v2 + 1)), (0, .ref (zB X + 493)), (1, .int v1)]) hX dX12_goesFor_11 hn (by decide) 2 rfl ci_1 rfl ?_
      refine z_goto hX 2 dX12_goesFor_14 (by decide) ?_
      refine zW.sub [1, 2, 0] rfl ?_
      exact ih (v2 + 1) g2 hf
set_option maxHeartbeats 4000000 in
set_option maxRecDepth 100000 in
theorem fX12_goesFor_ok {X : zX} (hX : zCX X cX12_goesFor RX12) (hT : zNT X) (hR : X.2.2.2.1 = zrm 7 0) (hr : X.2.2.2.2.2.2.2.2.1.sig.returnType = none) (hn : X.2.2.2.2.2.2.2.2.2.1.maxLocals = 3) {v1 : Int32} {g : zM} {r : zM} (hf : fX12_goesFor v1 g = some r) : zW X (zQ X (.inl (none, r)) 0) 0 0 0 [(0, .ref (zB X + 493)), (1, .int v1)] [] g := by
  unfold fX12_goesFor at hf
  refine z_iconst hX dX12_goesFor_0 ci_0 ?_
  refine z_istore_n (lv' := [(2, .int 0), (0, .ref (zB X + 493)), (1, .int v1)]) hX dX12_goesFor_1 hn (by decide) rfl ?_
  refine zW.sub [1, 2, 0] rfl ?_
  exact fX12_goesFor_L2_ok hX hT hR hr hn  zFU 0 g hf
set_option maxHeartbeats 4000000 in
set_option maxRecDepth 100000 in
theorem ct_X12_goesFor {E : zE} {v1 : Int32} {g : zM} {r : zM} (hf : fX12_goesFor v1 g = some r) : zCt yX12_goesFor cX12_goesFor 3 none 7 0 E [.ref (E.1 + 493), .int v1] g (.inl (none, r)) := by
  refine zmet (by decide) (zl rfl) (fun X hE hX hT hR hr hn => ?_)
  subst hE
  exact fX12_goesFor_ok hX hT hR hr hn  hf
def fX12_looksAhead (v1 : Int32) (v2 : Int32) (g : zM) : Option zM := zb (fX12_looksAt v1 g) (fun g1 => zb (fX12_goesFor v2 g1) (fun g2 => some g2))
set_option maxHeartbeats 4000000 in
set_option maxRecDepth 100000 in
theorem fX12_looksAhead_ok {X : zX} (hX : zCX X cX12_looksAhead RX12) (hT : zNT X) (hR : X.2.2.2.1 = zrm 8 0) (hr : X.2.2.2.2.2.2.2.2.1.sig.returnType = none) (hn : X.2.2.2.2.2.2.2.2.2.1.maxLocals = 3) {v1 : Int32} {v2 : Int32} {g : zM} {r : zM} (hf : fX12_looksAhead v1 v2 g = some r) : zW X (zQ X (.inl (none, r)) 0) 0 0 0 [(0, .ref (zB X + 493)), (1, .int v1), (2, .int v2)] [] g := by
  unfold fX12_looksAhead at hf
  refine z_aload_n hX dX12_looksAhead_0 0 rfl ?_
  refine z_iload_n hX dX12_looksAhead_1 1 rfl ?_
  replace hf := zb_some hf
  obtain ⟨g1, h1, hf⟩ := hf
  refine z_callV0 hX ok_X12_looksAt q1791 q1793 q69 (zrm_ok hR (by decide)) (ct_X12_looksAt  h1) (zrec_Model hX zq_493) dX12_looksAhead_2 rfl rfl ?_
  refine z_aload_n hX dX12_looksAhead_5 0 rfl ?_
  refine z_iload_n hX dX12_looksAhead_6 2 rfl ?_
  replace hf := zb_some hf
  obtain ⟨g2, h2, hf⟩ := hf
  refine z_callV0 hX ok_X12_goesFor q1941 q1943 q90 (zrm_ok hR (by decide)) (ct_X12_goesFor  h2) (zrec_Model hX zq_493) dX12_looksAhead_7 rfl rfl ?_
  obtain rfl := Option.some.inj hf
  exact z_vret hX hr (zl rfl) (zl rfl) dX12_looksAhead_10
set_option maxHeartbeats 4000000 in
set_option maxRecDepth 100000 in
theorem ct_X12_looksAhead {E : zE} {v1 : Int32} {v2 : Int32} {g : zM} {r : zM} (hf : fX12_looksAhead v1 v2 g = some r) : zCt yX12_looksAhead cX12_looksAhead 3 none 8 0 E [.ref (E.1 + 493), .int v1, .int v2] g (.inl (none, r)) := by
  refine zmet (by decide) (zl rfl) (fun X hE hX hT hR hr hn => ?_)
  subst hE
  exact fX12_looksAhead_ok hX hT hR hr hn  hf
def fX12_last (g : zM) : Option Int32 := zchk ((g 493 19) - 1) 24 (some (g 502 ((g 493 19) - 1).toNatClampNeg))
set_option maxHeartbeats 4000000 in
set_option maxRecDepth 100000 in
theorem fX12_last_ok {X : zX} (hX : zCX X cX12_last RX12) (hT : zNT X) (hR : X.2.2.2.1 = zrm 0 0) (hr : X.2.2.2.2.2.2.2.2.1.sig.returnType = (some .int)) (hn : X.2.2.2.2.2.2.2.2.2.1.maxLocals = 1)  {g : zM} {r : Int32} (hf : fX12_last g = some r) : zW X (zQ X (.inl (some (.int r), g)) 0) 0 0 0 [(0, .ref (zB X + 493))] [] g := by
  unfold fX12_last at hf
  refine z_aload_n hX dX12_last_0 0 rfl ?_
  refine gf_Model_row hX zq_493 q1512 dX12_last_1 ?_
  refine z_aload_n hX dX12_last_4 0 rfl ?_
  refine gf_Model_many hX zq_493 q1513 dX12_last_5 ?_
  refine z_iconst hX dX12_last_8 ci_1 ?_
  refine z_isub hX dX12_last_9 ?_
  replace hf := zchk_some hf
  obtain ⟨h1, hf⟩ := hf
  refine z_iald hX zq_502 (by decide) (zc_1024 _ _ _) h1 dX12_last_10 ?_
  obtain rfl := Option.some.inj hf
  exact z_iret hX hr rfl (zl rfl) (zl rfl) dX12_last_11
set_option maxHeartbeats 4000000 in
set_option maxRecDepth 100000 in
theorem ct_X12_last {E : zE} {g : zM} {r : Int32} (hf : fX12_last g = some r) : zCt yX12_last cX12_last 1 (some .int) 0 0 E [.ref (E.1 + 493)] g (.inl (some (.int r), g)) := by
  refine zmet (by decide) (zl rfl) (fun X hE hX hT hR hr hn => ?_)
  subst hE
  exact fX12_last_ok hX hT hR hr hn  hf
def fX12_wordsNow_L4 (g : zM) : Nat → Int32 → Int32 → Option Int32
  | 0, _, _ => none
  | n + 1, v1, v2 => if (g 493 19) ≤ v2 then some v1 else zchk v2 24 (zchk (8 + (g 502 v2.toNatClampNeg)) 2158 (fX12_wordsNow_L4 g n (v1 + (g 494 (8 + (g 502 v2.toNatClampNeg)).toNatClampNeg)) (v2 + 1)))
def fX12_wordsNow (g : zM) : Option Int32 := fX12_wordsNow_L4 g zFU 0 0
set_option maxHeartbeats 4000000 in
set_option maxRecDepth 100000 in
theorem fX12_wordsNow_L4_ok {X : zX} (hX : zCX X cX12_wordsNow RX12) (hT : zNT X) (hR : X.2.2.2.1 = zrm 0 0) (hr : X.2.2.2.2.2.2.2.2.1.sig.returnType = (some .int)) (hn : X.2.2.2.2.2.2.2.2.2.1.maxLocals = 3) {g : zM} {r : Int32}  : ∀ (n : Nat) (v1 : Int32) (v2 : Int32), fX12_wordsNow_L4 g n v1 v2 = some r → zW X (zQ X (.inl (some (.int r), g)) 0) 0 0 4 [(0, .ref (zB X + 493)), (1, .int v1), (2, .int v2)] [] g := by
  intro n
  induction n with
  | zero => intro v1 v2 hf; exact zno hf
  | succ n ih =>
    intro v1 v2 hf
    rw [fX12_wordsNow_L4] at hf
    refine z_iload_n hX dX12_wordsNow_4 2 rfl ?_
    refine z_aload_n hX dX12_wordsNow_5 0 rfl ?_
    refine gf_Model_many hX zq_493 q1513 dX12_wordsNow_6 ?_
    refine z_icmp_ge hX 35 dX12_wordsNow_9 (by decide) (fun h1 => ?_) (fun h1 => ?_)
    · replace hf := zif_pos h1 hf
      refine z_iload_n hX dX12_wordsNow_35 1 rfl ?_
      obtain rfl := Option.some.inj hf
      exact z_iret hX hr rfl (zl rfl) (zl rfl) dX12_wordsNow_36
    · replace hf := zif_neg h1 hf
      refine z_iload_n hX dX12_wordsNow_12 1 rfl ?_
      refine z_aload_n hX dX12_wordsNow_13 0 rfl ?_
      refine gf_Model_world hX zq_493 q1495 dX12_wordsNow_14 ?_
      refine z_bipush hX dX12_wordsNow_17 cb_8 ?_
      refine z_aload_n hX dX12_wordsNow_19 0 rfl ?_
      refine gf_Model_row hX zq_493 q1512 dX12_wordsNow_20 ?_
      refine z_iload_n hX dX12_wordsNow_23 2 rfl ?_
      replace hf := zchk_some hf
      obtain ⟨h2, hf⟩ := hf
      refine z_iald hX zq_502 (by decide) (zc_1024 _ _ _) h2 dX12_wordsNow_24 ?_
      refine z_iadd hX dX12_wordsNow_25 ?_
      replace hf := zchk_some hf
      obtain ⟨h3, hf⟩ := hf
      refine z_iald hX zq_494 (by decide) (zc_3158 _ _ _) h3 dX12_wordsNow_26 ?_
      refine z_iadd hX dX12_wordsNow_27 ?_
      refine z_istore_n (lv' := [(1, .int (v1 + (g 494 (8 + (g 502 v2.toNatClampNeg)).toNatClampNeg))), (0, .ref (zB X + 493)), (2, .int v2)]) hX dX12_wordsNow_28 hn (by decide) rfl ?_
      refine z_iincc (lv' := [(2, .int (v2 + 1)), (1, .int (v1 + (g 494 (8 + (g 502 v2.toNatClampNeg)).toNatClampNeg))), (0, .ref (zB X + 493))]) hX dX12_wordsNow_29 hn (by decide) 2 rfl ci_1 rfl ?_
      refine z_goto hX 4 dX12_wordsNow_32 (by decide) ?_
      refine zW.sub [2, 1, 0] rfl ?_
      exact ih (v1 + (g 494 (8 + (g 502 v2.toNatClampNeg)).toNatClampNeg)) (v2 + 1) hf
set_option maxHeartbeats 4000000 in
set_option maxRecDepth 100000 in
theorem fX12_wordsNow_ok {X : zX} (hX : zCX X cX12_wordsNow RX12) (hT : zNT X) (hR : X.2.2.2.1 = zrm 0 0) (hr : X.2.2.2.2.2.2.2.2.1.sig.returnType = (some .int)) (hn : X.2.2.2.2.2.2.2.2.2.1.maxLocals = 3)  {g : zM} {r : Int32} (hf : fX12_wordsNow g = some r) : zW X (zQ X (.inl (some (.int r), g)) 0) 0 0 0 [(0, .ref (zB X + 493))] [] g := by
  unfold fX12_wordsNow at hf
  refine z_iconst hX dX12_wordsNow_0 ci_0 ?_
  refine z_istore_n (lv' := [(1, .int 0), (0, .ref (zB X + 493))]) hX dX12_wordsNow_1 hn (by decide) rfl ?_
  refine z_iconst hX dX12_wordsNow_2 ci_0 ?_
  refine z_istore_n (lv' := [(2, .int 0), (1, .int 0), (0, .ref (zB X + 493))]) hX dX12_wordsNow_3 hn (by decide) rfl ?_
  refine zW.sub [2, 1, 0] rfl ?_
  exact fX12_wordsNow_L4_ok hX hT hR hr hn  zFU 0 0 hf
set_option maxHeartbeats 4000000 in
set_option maxRecDepth 100000 in
theorem ct_X12_wordsNow {E : zE} {g : zM} {r : Int32} (hf : fX12_wordsNow g = some r) : zCt yX12_wordsNow cX12_wordsNow 3 (some .int) 0 0 E [.ref (E.1 + 493)] g (.inl (some (.int r), g)) := by
  refine zmet (by decide) (zl rfl) (fun X hE hX hT hR hr hn => ?_)
  subst hE
  exact fX12_wordsNow_ok hX hT hR hr hn  hf
def fX12_letter (v1 : Int32) (v2 : Int32) (g : zM) : Option (Int32 × zM) := zput g 493 0 0 (fun g1 => zb (fX12_noLetter v1 g1) (fun r_2 => zb2 (fX12_throwsIf r_2 1 g1) (fun r_3 g3 => if r_3 = 0 then zb (fX12_in v2 0 7 g3) (fun r_5 => zjoin (fun t0_6 => zb2 (fX12_throwsIf t0_6 2 g3) (fun r_7 g7 => if r_7 = 0 then zb (fX12_looksAt v1 g7) (fun g9 => if v2 = 5 then zb (fX12_wordsNow g9) (fun r_12 => some (r_12, g9)) else if v2 = 6 then zb (fX12_last g9) (fun r_14 => some (r_14, g9)) else if v2 = 7 then zb2 (fX12_canGrow g9) (fun r_16 g16 => if r_16 = 0 then some ((-1), g16) else zb2 (fX12_follows g16) (fun r_18 g18 => some (r_18, g18))) else zb (fX12_of v1 v2 g9) (fun r_19 => some (r_19, g9))) else some (0, g7)) : Int32 → Option (Int32 × zM)) (fun k34 => if r_5 = 0 then k34 1 else k34 0)) else some (0, g3))))
set_option maxHeartbeats 4000000 in
set_option maxRecDepth 100000 in
theorem fX12_letter_ok {X : zX} (hX : zCX X cX12_letter RX12) (hT : zNT X) (hR : X.2.2.2.1 = zrm 5 0) (hr : X.2.2.2.2.2.2.2.2.1.sig.returnType = (some .int)) (hn : X.2.2.2.2.2.2.2.2.2.1.maxLocals = 3) {v1 : Int32} {v2 : Int32} {g : zM} {r : Int32 × zM} (hf : fX12_letter v1 v2 g = some r) : zW X (zQ X (.inl (some (.int r.1), r.2)) 0) 0 0 0 [(0, .ref (zB X + 493)), (1, .int v1), (2, .int v2)] [] g := by
  unfold fX12_letter at hf
  refine z_aload_n hX dX12_letter_0 0 rfl ?_
  refine z_iconst hX dX12_letter_1 ci_0 ?_
  replace hf := zput_some hf
  obtain ⟨g1, eg1, hf⟩ := hf
  refine gp_Model_thrown hX zq_493 q1494 dX12_letter_2 (zW.eqg eg1 ?_)
  refine z_aload_n hX dX12_letter_5 0 rfl ?_
  refine z_aload_n hX dX12_letter_6 0 rfl ?_
  refine z_iload_n hX dX12_letter_7 1 rfl ?_
  replace hf := zb_some hf
  obtain ⟨r_2, h2, hf⟩ := hf
  refine z_callV1 hX ok_X12_noLetter q1787 q1789 q68 (zrm_ok hR (by decide)) (ct_X12_noLetter  h2) (zrec_Model hX zq_493) dX12_letter_8 rfl rfl ?_
  refine z_iconst hX dX12_letter_11 ci_1 ?_
  replace hf := zb2_some hf
  obtain ⟨r_3, g3, h3, hf⟩ := hf
  refine z_callV1 hX ok_X12_throwsIf q1775 q1777 q67 (zrm_ok hR (by decide)) (ct_X12_throwsIf  h3) (zrec_Model hX zq_493) dX12_letter_12 rfl rfl ?_
  refine z_if_ne hX 41 dX12_letter_15 (by decide) (fun h4 => ?_) (fun h4 => ?_)
  · replace hf := zif_neg h4 hf
    refine z_iconst hX dX12_letter_41 ci_0 ?_
    obtain rfl := Option.some.inj hf
    exact z_iret hX hr rfl (zl rfl) (zl rfl) dX12_letter_42
  · replace hf := zif_pos h4 hf
    refine z_aload_n hX dX12_letter_18 0 rfl ?_
    refine z_iload_n hX dX12_letter_19 2 rfl ?_
    refine z_iconst hX dX12_letter_20 ci_0 ?_
    refine z_bipush hX dX12_letter_21 cb_7 ?_
    replace hf := zb_some hf
    obtain ⟨r_5, h5, hf⟩ := hf
    refine z_callS1 hX ok_X12_in rfl q1666 q1667 (zrm_ok hR (by decide)) (ct_X12_in  h5) dX12_letter_23 rfl rfl ?_
    refine zjoin_ok (P := fun (k : Int32 → Option (Int32 × zM)) => ∀ (t0_6 : Int32), k t0_6 = some r → zW X (zQ X (.inl (some (.int r.1), r.2)) 0) 0 0 34 [(0, .ref (zB X + 493)), (1, .int v1), (2, .int v2)] [.int t0_6, .ref (zB X + 493)] g3) hf (fun t0_6 hf => ?_) (fun k34 hk34 hf => ?_)
    · refine z_iconst hX dX12_letter_34 ci_2 ?_
      replace hf := zb2_some hf
      obtain ⟨r_7, g7, h7, hf⟩ := hf
      refine z_callV1 hX ok_X12_throwsIf q1775 q1777 q67 (zrm_ok hR (by decide)) (ct_X12_throwsIf  h7) (zrec_Model hX zq_493) dX12_letter_35 rfl rfl ?_
      refine z_if_eq hX 43 dX12_letter_38 (by decide) (fun h8 => ?_) (fun h8 => ?_)
      · replace hf := zif_pos h8 hf
        refine z_aload_n hX dX12_letter_43 0 rfl ?_
        refine z_iload_n hX dX12_letter_44 1 rfl ?_
        replace hf := zb_some hf
        obtain ⟨g9, h9, hf⟩ := hf
        refine z_callV0 hX ok_X12_looksAt q1791 q1793 q69 (zrm_ok hR (by decide)) (ct_X12_looksAt  h9) (zrec_Model hX zq_493) dX12_letter_45 rfl rfl ?_
        refine z_iload_n hX dX12_letter_48 2 rfl ?_
        by_cases h11 : v2 = 5
        · replace hf := zif_pos h11 hf
          refine z_tin hX 76 dX12_letter_49 (by rw [h11]; decide) (by rw [h11]; decide) (by rw [h11]; rfl) (by decide) ?_
          refine z_aload_n hX dX12_letter_76 0 rfl ?_
          replace hf := zb_some hf
          obtain ⟨r_12, h12, hf⟩ := hf
          refine z_callV1 hX ok_X12_wordsNow q1803 q1805 q72 (zrm_ok hR (by decide)) (ct_X12_wordsNow  h12) (zrec_Model hX zq_493) dX12_letter_77 rfl rfl ?_
          obtain rfl := Option.some.inj hf
          exact z_iret hX hr rfl (zl rfl) (zl rfl) dX12_letter_80
        replace hf := zif_neg h11 hf
        by_cases h13 : v2 = 6
        · replace hf := zif_pos h13 hf
          refine z_tin hX 81 dX12_letter_49 (by rw [h13]; decide) (by rw [h13]; decide) (by rw [h13]; rfl) (by decide) ?_
          refine z_aload_n hX dX12_letter_81 0 rfl ?_
          replace hf := zb_some hf
          obtain ⟨r_14, h14, hf⟩ := hf
          refine z_callV1 hX ok_X12_last q1807 q1809 q73 (zrm_ok hR (by decide)) (ct_X12_last  h14) (zrec_Model hX zq_493) dX12_letter_82 rfl rfl ?_
          obtain rfl := Option.some.inj hf
          exact z_iret hX hr rfl (zl rfl) (zl rfl) dX12_letter_85
        replace hf := zif_neg h13 hf
        by_cases h15 : v2 = 7
        · replace hf := zif_pos h15 hf
          refine z_tin hX 86 dX12_letter_49 (by rw [h15]; decide) (by rw [h15]; decide) (by rw [h15]; rfl) (by decide) ?_
          refine z_aload_n hX dX12_letter_86 0 rfl ?_
          replace hf := zb2_some hf
          obtain ⟨r_16, g16, h16, hf⟩ := hf
          refine z_callV1 hX ok_X12_canGrow q1811 q1813 q74 (zrm_ok hR (by decide)) (ct_X12_canGrow  h16) (zrec_Model hX zq_493) dX12_letter_87 rfl rfl ?_
          refine z_if_eq hX 100 dX12_letter_90 (by decide) (fun h17 => ?_) (fun h17 => ?_)
          · replace hf := zif_pos h17 hf
            refine z_iconst hX dX12_letter_100 ci_m1 ?_
            obtain rfl := Option.some.inj hf
            exact z_iret hX hr rfl (zl rfl) (zl rfl) dX12_letter_101
          · replace hf := zif_neg h17 hf
            refine z_aload_n hX dX12_letter_93 0 rfl ?_
            replace hf := zb2_some hf
            obtain ⟨r_18, g18, h18, hf⟩ := hf
            refine z_callV1 hX ok_X12_follows q1815 q1817 q75 (zrm_ok hR (by decide)) (ct_X12_follows  h18) (zrec_Model hX zq_493) dX12_letter_94 rfl rfl ?_
            refine z_goto hX 101 dX12_letter_97 (by decide) ?_
            obtain rfl := Option.some.inj hf
            exact z_iret hX hr rfl (zl rfl) (zl rfl) dX12_letter_101
        replace hf := zif_neg h15 hf
        refine z_tout hX 102 dX12_letter_49 (zsw_out (fun v hlo hhi e => ?_)) (by decide) ?_
        · have hv : v = 5 ∨ v = 6 ∨ v = 7 := by omega
          rcases hv with rfl | rfl | rfl
          · exact h11 (e.trans (by decide))
          · exact h13 (e.trans (by decide))
          · exact h15 (e.trans (by decide))
        refine z_aload_n hX dX12_letter_102 0 rfl ?_
        refine z_iload_n hX dX12_letter_103 1 rfl ?_
        refine z_iload_n hX dX12_letter_104 2 rfl ?_
        replace hf := zb_some hf
        obtain ⟨r_19, h19, hf⟩ := hf
        refine z_callV1 hX ok_X12_of q1687 q1689 q49 (zrm_ok hR (by decide)) (ct_X12_of  h19) (zrec_Model hX zq_493) dX12_letter_105 rfl rfl ?_
        obtain rfl := Option.some.inj hf
        exact z_iret hX hr rfl (zl rfl) (zl rfl) dX12_letter_108
      · replace hf := zif_neg h8 hf
        refine z_iconst hX dX12_letter_41 ci_0 ?_
        obtain rfl := Option.some.inj hf
        exact z_iret hX hr rfl (zl rfl) (zl rfl) dX12_letter_42
    · refine z_if_ne hX 33 dX12_letter_26 (by decide) (fun h20 => ?_) (fun h20 => ?_)
      · replace hf := zif_neg h20 hf
        refine z_iconst hX dX12_letter_33 ci_0 ?_
        exact hk34 0 hf
      · replace hf := zif_pos h20 hf
        refine z_iconst hX dX12_letter_29 ci_1 ?_
        refine z_goto hX 34 dX12_letter_30 (by decide) ?_
        exact hk34 1 hf
set_option maxHeartbeats 4000000 in
set_option maxRecDepth 100000 in
theorem ct_X12_letter {E : zE} {v1 : Int32} {v2 : Int32} {g : zM} {r : Int32 × zM} (hf : fX12_letter v1 v2 g = some r) : zCt yX12_letter cX12_letter 3 (some .int) 5 0 E [.ref (E.1 + 493), .int v1, .int v2] g (.inl (some (.int r.1), r.2)) := by
  refine zmet (by decide) (zl rfl) (fun X hE hX hT hR hr hn => ?_)
  subst hE
  exact fX12_letter_ok hX hT hR hr hn  hf
def fX12_line (v1 : Int32) (v2 : Int32) (v3 : Int32) (g : zM) : Option (Int32 × zM) := zput g 493 0 0 (fun g1 => zb (fX12_noLine v1 v2 g1) (fun r_2 => zb2 (fX12_throwsIf r_2 1 g1) (fun r_3 g3 => if r_3 = 0 then if v3 = 0 then zb (fX12_of v1 (5 + v2) g3) (fun r_6 => some (r_6, g3)) else zb (fX12_of v1 (29 + v2) g3) (fun r_7 => some (r_7, g3)) else some (0, g3))))
set_option maxHeartbeats 4000000 in
set_option maxRecDepth 100000 in
theorem fX12_line_ok {X : zX} (hX : zCX X cX12_line RX12) (hT : zNT X) (hR : X.2.2.2.1 = zrm 4 0) (hr : X.2.2.2.2.2.2.2.2.1.sig.returnType = (some .int)) (hn : X.2.2.2.2.2.2.2.2.2.1.maxLocals = 4) {v1 : Int32} {v2 : Int32} {v3 : Int32} {g : zM} {r : Int32 × zM} (hf : fX12_line v1 v2 v3 g = some r) : zW X (zQ X (.inl (some (.int r.1), r.2)) 0) 0 0 0 [(0, .ref (zB X + 493)), (1, .int v1), (2, .int v2), (3, .int v3)] [] g := by
  unfold fX12_line at hf
  refine z_aload_n hX dX12_line_0 0 rfl ?_
  refine z_iconst hX dX12_line_1 ci_0 ?_
  replace hf := zput_some hf
  obtain ⟨g1, eg1, hf⟩ := hf
  refine gp_Model_thrown hX zq_493 q1494 dX12_line_2 (zW.eqg eg1 ?_)
  refine z_aload_n hX dX12_line_5 0 rfl ?_
  refine z_aload_n hX dX12_line_6 0 rfl ?_
  refine z_iload_n hX dX12_line_7 1 rfl ?_
  refine z_iload_n hX dX12_line_8 2 rfl ?_
  replace hf := zb_some hf
  obtain ⟨r_2, h2, hf⟩ := hf
  refine z_callV1 hX ok_X12_noLine q1846 q1848 q81 (zrm_ok hR (by decide)) (ct_X12_noLine  h2) (zrec_Model hX zq_493) dX12_line_9 rfl rfl ?_
  refine z_iconst hX dX12_line_12 ci_1 ?_
  replace hf := zb2_some hf
  obtain ⟨r_3, g3, h3, hf⟩ := hf
  refine z_callV1 hX ok_X12_throwsIf q1775 q1777 q67 (zrm_ok hR (by decide)) (ct_X12_throwsIf  h3) (zrec_Model hX zq_493) dX12_line_13 rfl rfl ?_
  refine z_if_eq hX 23 dX12_line_16 (by decide) (fun h4 => ?_) (fun h4 => ?_)
  · replace hf := zif_pos h4 hf
    refine z_aload_n hX dX12_line_23 0 rfl ?_
    refine z_iload_n hX dX12_line_24 1 rfl ?_
    refine z_iload_n hX dX12_line_25 3 rfl ?_
    refine z_if_eq hX 34 dX12_line_26 (by decide) (fun h5 => ?_) (fun h5 => ?_)
    · replace hf := zif_pos h5 hf
      refine z_iconst hX dX12_line_34 ci_5 ?_
      refine z_iload_n hX dX12_line_35 2 rfl ?_
      refine z_iadd hX dX12_line_36 ?_
      replace hf := zb_some hf
      obtain ⟨r_6, h6, hf⟩ := hf
      refine z_callV1 hX ok_X12_of q1687 q1689 q49 (zrm_ok hR (by decide)) (ct_X12_of  h6) (zrec_Model hX zq_493) dX12_line_37 rfl rfl ?_
      obtain rfl := Option.some.inj hf
      exact z_iret hX hr rfl (zl rfl) (zl rfl) dX12_line_40
    · replace hf := zif_neg h5 hf
      refine z_bipush hX dX12_line_29 cb_29 ?_
      refine z_goto hX 35 dX12_line_31 (by decide) ?_
      refine z_iload_n hX dX12_line_35 2 rfl ?_
      refine z_iadd hX dX12_line_36 ?_
      replace hf := zb_some hf
      obtain ⟨r_7, h7, hf⟩ := hf
      refine z_callV1 hX ok_X12_of q1687 q1689 q49 (zrm_ok hR (by decide)) (ct_X12_of  h7) (zrec_Model hX zq_493) dX12_line_37 rfl rfl ?_
      obtain rfl := Option.some.inj hf
      exact z_iret hX hr rfl (zl rfl) (zl rfl) dX12_line_40
  · replace hf := zif_neg h4 hf
    refine z_iconst hX dX12_line_19 ci_0 ?_
    refine z_goto hX 40 dX12_line_20 (by decide) ?_
    obtain rfl := Option.some.inj hf
    exact z_iret hX hr rfl (zl rfl) (zl rfl) dX12_line_40
set_option maxHeartbeats 4000000 in
set_option maxRecDepth 100000 in
theorem ct_X12_line {E : zE} {v1 : Int32} {v2 : Int32} {v3 : Int32} {g : zM} {r : Int32 × zM} (hf : fX12_line v1 v2 v3 g = some r) : zCt yX12_line cX12_line 4 (some .int) 4 0 E [.ref (E.1 + 493), .int v1, .int v2, .int v3] g (.inl (some (.int r.1), r.2)) := by
  refine zmet (by decide) (zl rfl) (fun X hE hX hT hR hr hn => ?_)
  subst hE
  exact fX12_line_ok hX hT hR hr hn  hf
def fX12_words (v1 : Int32) (g : zM) : Option (Int32 × zM) := zput g 493 0 0 (fun g1 => zb (fX12_noKind v1 g1) (fun r_2 => zb2 (fX12_throwsIf r_2 1 g1) (fun r_3 g3 => if r_3 = 0 then zchk (8 + v1) 2158 (some (g3 494 (8 + v1).toNatClampNeg, g3)) else some (0, g3))))
set_option maxHeartbeats 4000000 in
set_option maxRecDepth 100000 in
theorem fX12_words_ok {X : zX} (hX : zCX X cX12_words RX12) (hT : zNT X) (hR : X.2.2.2.1 = zrm 2 0) (hr : X.2.2.2.2.2.2.2.2.1.sig.returnType = (some .int)) (hn : X.2.2.2.2.2.2.2.2.2.1.maxLocals = 2) {v1 : Int32} {g : zM} {r : Int32 × zM} (hf : fX12_words v1 g = some r) : zW X (zQ X (.inl (some (.int r.1), r.2)) 0) 0 0 0 [(0, .ref (zB X + 493)), (1, .int v1)] [] g := by
  unfold fX12_words at hf
  refine z_aload_n hX dX12_words_0 0 rfl ?_
  refine z_iconst hX dX12_words_1 ci_0 ?_
  replace hf := zput_some hf
  obtain ⟨g1, eg1, hf⟩ := hf
  refine gp_Model_thrown hX zq_493 q1494 dX12_words_2 (zW.eqg eg1 ?_)
  refine z_aload_n hX dX12_words_5 0 rfl ?_
  refine z_iload_n hX dX12_words_6 1 rfl ?_
  replace hf := zb_some hf
  obtain ⟨r_2, h2, hf⟩ := hf
  refine z_callS1 hX ok_X12_noKind rfl q1854 q1855 (zrm_ok hR (by decide)) (ct_X12_noKind  h2) dX12_words_7 rfl rfl ?_
  refine z_iconst hX dX12_words_10 ci_1 ?_
  replace hf := zb2_some hf
  obtain ⟨r_3, g3, h3, hf⟩ := hf
  refine z_callV1 hX ok_X12_throwsIf q1775 q1777 q67 (zrm_ok hR (by decide)) (ct_X12_throwsIf  h3) (zrec_Model hX zq_493) dX12_words_11 rfl rfl ?_
  refine z_if_eq hX 21 dX12_words_14 (by decide) (fun h4 => ?_) (fun h4 => ?_)
  · replace hf := zif_pos h4 hf
    refine z_aload_n hX dX12_words_21 0 rfl ?_
    refine gf_Model_world hX zq_493 q1495 dX12_words_22 ?_
    refine z_bipush hX dX12_words_25 cb_8 ?_
    refine z_iload_n hX dX12_words_27 1 rfl ?_
    refine z_iadd hX dX12_words_28 ?_
    replace hf := zchk_some hf
    obtain ⟨h5, hf⟩ := hf
    refine z_iald hX zq_494 (by decide) (zc_3158 _ _ _) h5 dX12_words_29 ?_
    obtain rfl := Option.some.inj hf
    exact z_iret hX hr rfl (zl rfl) (zl rfl) dX12_words_30
  · replace hf := zif_neg h4 hf
    refine z_iconst hX dX12_words_17 ci_0 ?_
    refine z_goto hX 30 dX12_words_18 (by decide) ?_
    obtain rfl := Option.some.inj hf
    exact z_iret hX hr rfl (zl rfl) (zl rfl) dX12_words_30
set_option maxHeartbeats 4000000 in
set_option maxRecDepth 100000 in
theorem ct_X12_words {E : zE} {v1 : Int32} {g : zM} {r : Int32 × zM} (hf : fX12_words v1 g = some r) : zCt yX12_words cX12_words 2 (some .int) 2 0 E [.ref (E.1 + 493), .int v1] g (.inl (some (.int r.1), r.2)) := by
  refine zmet (by decide) (zl rfl) (fun X hE hX hT hR hr hn => ?_)
  subst hE
  exact fX12_words_ok hX hT hR hr hn  hf
