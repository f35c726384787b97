def fX12_out_L81 (v1 : Int32) (v2 : Int32) (v3 : Int32) (v4 : Int32) (v5 : Int32) (v6 : Int32) (k114 : zM → Option (Int32 × zM)) : Nat → Int32 → zM → Option (Int32 × zM)
  | 0, _, _ => none
  | n + 1, v7, g => if (g 493 19) ≤ (v7 + 1) then k114 g else zchk (v7 + 1) 24 (zchk v7 24 (zput g 502 v7.toNatClampNeg (g 502 (v7 + 1).toNatClampNeg) (fun g17 => fX12_out_L81 v1 v2 v3 v4 v5 v6 k114 n (v7 + 1) g17)))
def fX12_out_L53 (v1 : Int32) (v2 : Int32) (v3 : Int32) (v4 : Int32) : Nat → Int32 → Int32 → zM → Option (Int32 × zM)
  | 0, _, _, _ => none
  | n + 1, v5, v6, g => zb (fX12_lines v1 g) (fun r_9 => if r_9 ≤ v6 then some (v5, g) else zb (fX12_lines v1 g) (fun r_11 => if r_11 ≤ 1 then some (v5, g) else zb (fX12_looksAt v1 g) (fun g13 => fX12_out_L81 v1 v2 v3 v4 v5 v6 (fun g18 => zput g18 493 19 ((g18 493 19) - 1) (fun g19 => zb (fX12_goesFor v3 g19) (fun g20 => zb (fX12_last g20) (fun r_21 => zjoin (fun t0_22 => if t0_22 = v4 then fX12_out_L53 v1 v2 v3 v4 n (v5 ||| 0) (v6 + 1) g20 else fX12_out_L53 v1 v2 v3 v4 n (v5 ||| ((1 : Int32) <<< (v6 &&& 31))) (v6 + 1) g20 : Int32 → Option (Int32 × zM)) (fun k144 => if r_21 = v2 then k144 1 else k144 0))))) zFU v6 g13)))
def fX12_out (v1 : Int32) (v2 : Int32) (v3 : Int32) (v4 : Int32) (g : zM) : Option (Int32 × zM) := zput g 493 0 0 (fun g1 => zb (fX12_noLetter v1 g1) (fun r_2 => zjoin (fun t0_3 => zb2 (fX12_throwsIf t0_3 1 g1) (fun r_4 g4 => if r_4 = 0 then zb (fX12_noAhead v3 g4) (fun r_6 => zb2 (fX12_throwsIf r_6 2 g4) (fun r_7 g7 => if r_7 = 0 then fX12_out_L53 v1 v2 v3 v4 zFU 0 0 g7 else some (0, g7))) else some (0, g4)) : Int32 → Option (Int32 × zM)) (fun k26 => if r_2 = 0 then zb (fX12_noKind v2 g1) (fun r_26 => if r_26 = 0 then k26 0 else k26 1) else k26 1)))
set_option maxHeartbeats 4000000 in
set_option maxRecDepth 100000 in
theorem fX12_out_L81_ok {X : zX} (hX : zCX X cX12_out RX12) (hT : zNT X) (hR : X.2.2.2.1 = zrm 8 0) (hr : X.2.2.2.2.2.2.2.2.1.sig.returnType = (some .int)) (hn : X.2.2.2.2.2.2.2.2.2.1.maxLocals = 8) {v1 : Int32} {v2 : Int32} {v3 : Int32} {v4 : Int32} {v5 : Int32} {v6 : Int32} {k114 : zM → Option (Int32 × zM)} {r : Int32 × zM} (hk114 : ∀ (g : zM), k114 g = some r → zW X (zQ X (.inl (some (.int r.1), r.2)) 0) 0 0 114 [(0, .ref (zB X + 493)), (1, .int v1), (2, .int v2), (3, .int v3), (4, .int v4), (5, .int v5), (6, .int v6)] [] g) : ∀ (n : Nat) (v7 : Int32) (g : zM), fX12_out_L81 v1 v2 v3 v4 v5 v6 k114 n v7 g = some r → zW X (zQ X (.inl (some (.int r.1), r.2)) 0) 0 0 81 [(0, .ref (zB X + 493)), (1, .int v1), (2, .int v2), (3, .int v3), (4, .int v4), (5, .int v5), (6, .int v6), (7, .int v7)] [] g := by
  intro n
  induction n with
  | zero => intro v7 g hf; exact zno hf
  | succ n ih =>
    intro v7 g hf
    rw [fX12_out_L81] at hf
    refine z_iload hX dX12_out_81 7 rfl ?_
    refine z_iconst hX dX12_out_83 ci_1 ?_
    refine z_iadd hX dX12_out_84 ?_
    refine z_aload_n hX dX12_out_85 0 rfl ?_
    refine gf_Model_many hX zq_493 q1513 dX12_out_86 ?_
    refine z_icmp_ge hX 114 dX12_out_89 (by decide) (fun h14 => ?_) (fun h14 => ?_)
    · replace hf := zif_pos h14 hf
      refine zW.sub [0, 1, 2, 3, 4, 5, 6] rfl ?_
      exact hk114 g hf
    · replace hf := zif_neg h14 hf
      refine z_aload_n hX dX12_out_92 0 rfl ?_
      refine gf_Model_row hX zq_493 q1512 dX12_out_93 ?_
      refine z_iload hX dX12_out_96 7 rfl ?_
      refine z_aload_n hX dX12_out_98 0 rfl ?_
      refine gf_Model_row hX zq_493 q1512 dX12_out_99 ?_
      refine z_iload hX dX12_out_102 7 rfl ?_
      refine z_iconst hX dX12_out_104 ci_1 ?_
      refine z_iadd hX dX12_out_105 ?_
      replace hf := zchk_some hf
      obtain ⟨h15, hf⟩ := hf
      refine z_iald hX zq_502 (by decide) (zc_1024 _ _ _) h15 dX12_out_106 ?_
      replace hf := zchk_some hf
      obtain ⟨h16, hf⟩ := hf
      replace hf := zput_some hf
      obtain ⟨g17, eg17, hf⟩ := hf
      refine z_iast hX zq_502 (by decide) (zc_1024 _ _) h16 dX12_out_107 (zW.eqg eg17 ?_)
      refine z_iincc (lv' := [(7, .int (v7 + 1)), (0, .ref (zB X + 493)), (1, .int v1), (2, .int v2), (3, .int v3), (4, .int v4), (5, .int v5), (6, .int v6)]) hX dX12_out_108 hn (by decide) 7 rfl ci_1 rfl ?_
      refine z_goto hX 81 dX12_out_111 (by decide) ?_
      refine zW.sub [1, 2, 3, 4, 5, 6, 7, 0] rfl ?_
      exact ih (v7 + 1) g17 hf
set_option maxHeartbeats 4000000 in
set_option maxRecDepth 100000 in
theorem fX12_out_L53_ok {X : zX} (hX : zCX X cX12_out RX12) (hT : zNT X) (hR : X.2.2.2.1 = zrm 8 0) (hr : X.2.2.2.2.2.2.2.2.1.sig.returnType = (some .int)) (hn : X.2.2.2.2.2.2.2.2.2.1.maxLocals = 8) {v1 : Int32} {v2 : Int32} {v3 : Int32} {v4 : Int32} {r : Int32 × zM}  : ∀ (n : Nat) (v5 : Int32) (v6 : Int32) (g : zM), fX12_out_L53 v1 v2 v3 v4 n v5 v6 g = some r → zW X (zQ X (.inl (some (.int r.1), r.2)) 0) 0 0 53 [(0, .ref (zB X + 493)), (1, .int v1), (2, .int v2), (3, .int v3), (4, .int v4), (5, .int v5), (6, .int v6)] [] g := by
  intro n
  induction n with
  | zero => intro v5 v6 g hf; exact zno hf
  | succ n ih =>
    intro v5 v6 g hf
    rw [fX12_out_L53] at hf
    refine z_iload hX dX12_out_53 6 rfl ?_
    refine z_aload_n hX dX12_out_55 0 rfl ?_
    refine z_iload_n hX dX12_out_56 1 rfl ?_
    replace hf := zb_some hf
    obtain ⟨r_9, h9, hf⟩ := hf
    refine z_callV1 hX ok_X12_lines q1683 q1685 q48 (zrm_ok hR (by decide)) (ct_X12_lines  h9) (zrec_Model hX zq_493) dX12_out_57 rfl rfl ?_
    refine z_icmp_ge hX 166 dX12_out_60 (by decide) (fun h10 => ?_) (fun h10 => ?_)
    · replace hf := zif_pos h10 hf
      refine z_iload hX dX12_out_166 5 rfl ?_
      obtain rfl := Option.some.inj hf
      exact z_iret hX hr rfl (zl rfl) (zl rfl) dX12_out_168
    · replace hf := zif_neg h10 hf
      refine z_aload_n hX dX12_out_63 0 rfl ?_
      refine z_iload_n hX dX12_out_64 1 rfl ?_
      replace hf := zb_some hf
      obtain ⟨r_11, h11, hf⟩ := hf
      refine z_callV1 hX ok_X12_lines q1683 q1685 q48 (zrm_ok hR (by decide)) (ct_X12_lines  h11) (zrec_Model hX zq_493) dX12_out_65 rfl rfl ?_
      refine z_iconst hX dX12_out_68 ci_1 ?_
      refine z_icmp_le hX 166 dX12_out_69 (by decide) (fun h12 => ?_) (fun h12 => ?_)
      · replace hf := zif_pos h12 hf
        refine z_iload hX dX12_out_166 5 rfl ?_
        obtain rfl := Option.some.inj hf
        exact z_iret hX hr rfl (zl rfl) (zl rfl) dX12_out_168
      · replace hf := zif_neg h12 hf
        refine z_aload_n hX dX12_out_72 0 rfl ?_
        refine z_iload_n hX dX12_out_73 1 rfl ?_
        replace hf := zb_some hf
        obtain ⟨g13, h13, hf⟩ := hf
        refine z_callV0 hX ok_X12_looksAt q1791 q1793 q69 (zrm_ok hR (by decide)) (ct_X12_looksAt  h13) (zrec_Model hX zq_493) dX12_out_74 rfl rfl ?_
        refine z_iload hX dX12_out_77 6 rfl ?_
        refine z_istore (lv' := [(7, .int v6), (0, .ref (zB X + 493)), (1, .int v1), (2, .int v2), (3, .int v3), (4, .int v4), (5, .int v5), (6, .int v6)]) hX dX12_out_79 hn (by decide) rfl ?_
        refine zW.sub [1, 2, 3, 4, 5, 6, 7, 0] rfl ?_
        refine fX12_out_L81_ok hX hT hR hr hn (fun g18 hf => ?_) zFU v6 g13 hf
        · refine z_aload_n hX dX12_out_114 0 rfl ?_
          refine z_dup hX dX12_out_115 rfl ?_
          refine gf_Model_many hX zq_493 q1513 dX12_out_116 ?_
          refine z_iconst hX dX12_out_119 ci_1 ?_
          refine z_isub hX dX12_out_120 ?_
          replace hf := zput_some hf
          obtain ⟨g19, eg19, hf⟩ := hf
          refine gp_Model_many hX zq_493 q1513 dX12_out_121 (zW.eqg eg19 ?_)
          refine z_aload_n hX dX12_out_124 0 rfl ?_
          refine z_iload_n hX dX12_out_125 3 rfl ?_
          replace hf := zb_some hf
          obtain ⟨g20, h20, hf⟩ := hf
          refine z_callV0 hX ok_X12_goesFor q1941 q1943 q90 (zrm_ok hR (by decide)) (ct_X12_goesFor  h20) (zrec_Model hX zq_493) dX12_out_126 rfl rfl ?_
          refine z_iload hX dX12_out_129 5 rfl ?_
          refine z_aload_n hX dX12_out_131 0 rfl ?_
          replace hf := zb_some hf
          obtain ⟨r_21, h21, hf⟩ := hf
          refine z_callV1 hX ok_X12_last q1807 q1809 q73 (zrm_ok hR (by decide)) (ct_X12_last  h21) (zrec_Model hX zq_493) dX12_out_132 rfl rfl ?_
          refine z_iload_n hX dX12_out_135 2 rfl ?_
          refine zjoin_ok (P := fun (k : Int32 → Option (Int32 × zM)) => ∀ (t0_22 : Int32), k t0_22 = some r → zW X (zQ X (.inl (some (.int r.1), r.2)) 0) 0 0 144 [(0, .ref (zB X + 493)), (1, .int v1), (2, .int v2), (3, .int v3), (4, .int v4), (6, .int v6)] [.int t0_22, .int v5] g20) hf (fun t0_22 hf => ?_) (fun k144 hk144 hf => ?_)
          · refine z_iload hX dX12_out_144 4 rfl ?_
            refine z_icmp_eq hX 156 dX12_out_146 (by decide) (fun h23 => ?_) (fun h23 => ?_)
            · replace hf := zif_pos h23 hf
              refine z_iconst hX dX12_out_156 ci_0 ?_
              refine z_ior hX dX12_out_157 ?_
              refine z_istore (lv' := [(5, .int (v5 ||| 0)), (0, .ref (zB X + 493)), (1, .int v1), (2, .int v2), (3, .int v3), (4, .int v4), (6, .int v6)]) hX dX12_out_158 hn (by decide) rfl ?_
              refine z_iincc (lv' := [(6, .int (v6 + 1)), (5, .int (v5 ||| 0)), (0, .ref (zB X + 493)), (1, .int v1), (2, .int v2), (3, .int v3), (4, .int v4)]) hX dX12_out_160 hn (by decide) 6 rfl ci_1 rfl ?_
              refine z_goto hX 53 dX12_out_163 (by decide) ?_
              refine zW.sub [2, 3, 4, 5, 6, 1, 0] rfl ?_
              exact ih (v5 ||| 0) (v6 + 1) g20 hf
            · replace hf := zif_neg h23 hf
              refine z_iconst hX dX12_out_149 ci_1 ?_
              refine z_iload hX dX12_out_150 5 rfl ?_
              refine z_ishl hX dX12_out_152 ?_
              refine z_goto hX 157 dX12_out_153 (by decide) ?_
              refine z_ior hX dX12_out_157 ?_
              refine z_istore (lv' := [(5, .int (v5 ||| ((1 : Int32) <<< (v6 &&& 31)))), (0, .ref (zB X + 493)), (1, .int v1), (2, .int v2), (3, .int v3), (4, .int v4), (6, .int v6)]) hX dX12_out_158 hn (by decide) rfl ?_
              refine z_iincc (lv' := [(6, .int (v6 + 1)), (5, .int (v5 ||| ((1 : Int32) <<< (v6 &&& 31)))), (0, .ref (zB X + 493)), (1, .int v1), (2, .int v2), (3, .int v3), (4, .int v4)]) hX dX12_out_160 hn (by decide) 6 rfl ci_1 rfl ?_
              refine z_goto hX 53 dX12_out_163 (by decide) ?_
              refine zW.sub [2, 3, 4, 5, 6, 1, 0] rfl ?_
              exact ih (v5 ||| ((1 : Int32) <<< (v6 &&& 31))) (v6 + 1) g20 hf
          · refine z_icmp_ne hX 143 dX12_out_136 (by decide) (fun h24 => ?_) (fun h24 => ?_)
            · replace hf := zif_neg h24 hf
              refine z_iconst hX dX12_out_143 ci_0 ?_
              refine zW.sub [0, 1, 2, 3, 4, 6] rfl ?_
              exact hk144 0 hf
            · replace hf := zif_pos h24 hf
              refine z_iconst hX dX12_out_139 ci_1 ?_
              refine z_goto hX 144 dX12_out_140 (by decide) ?_
              refine zW.sub [0, 1, 2, 3, 4, 6] rfl ?_
              exact hk144 1 hf
set_option maxHeartbeats 4000000 in
set_option maxRecDepth 100000 in
theorem fX12_out_ok {X : zX} (hX : zCX X cX12_out RX12) (hT : zNT X) (hR : X.2.2.2.1 = zrm 8 0) (hr : X.2.2.2.2.2.2.2.2.1.sig.returnType = (some .int)) (hn : X.2.2.2.2.2.2.2.2.2.1.maxLocals = 8) {v1 : Int32} {v2 : Int32} {v3 : Int32} {v4 : Int32} {g : zM} {r : Int32 × zM} (hf : fX12_out v1 v2 v3 v4 g = some r) : zW X (zQ X (.inl (some (.int r.1), r.2)) 0) 0 0 0 [(0, .ref (zB X + 493)), (1, .int v1), (2, .int v2), (3, .int v3), (4, .int v4)] [] g := by
  unfold fX12_out at hf
  refine z_aload_n hX dX12_out_0 0 rfl ?_
  refine z_iconst hX dX12_out_1 ci_0 ?_
  replace hf := zput_some hf
  obtain ⟨g1, eg1, hf⟩ := hf
  refine gp_Model_thrown hX zq_493 q1494 dX12_out_2 (zW.eqg eg1 ?_)
  refine z_aload_n hX dX12_out_5 0 rfl ?_
  refine z_aload_n hX dX12_out_6 0 rfl ?_
  refine z_iload_n hX dX12_out_7 1 rfl ?_
  replace hf := zb_some hf
  obtain ⟨r_2, h2, hf⟩ := hf
  refine z_callV1 hX ok_X12_noLetter q1787 q1789 q68 (zrm_ok hR (by decide)) (ct_X12_noLetter  h2) (zrec_Model hX zq_493) dX12_out_8 rfl rfl ?_
  refine zjoin_ok (P := fun (k : Int32 → Option (Int32 × zM)) => ∀ (t0_3 : Int32), k t0_3 = some r → zW X (zQ X (.inl (some (.int r.1), r.2)) 0) 0 0 26 [(0, .ref (zB X + 493)), (1, .int v1), (2, .int v2), (3, .int v3), (4, .int v4)] [.int t0_3, .ref (zB X + 493)] g1) hf (fun t0_3 hf => ?_) (fun k26 hk26 hf => ?_)
  · refine z_iconst hX dX12_out_26 ci_1 ?_
    replace hf := zb2_some hf
    obtain ⟨r_4, g4, h4, hf⟩ := hf
    refine z_callV1 hX ok_X12_throwsIf q1775 q1777 q67 (zrm_ok hR (by decide)) (ct_X12_throwsIf  h4) (zrec_Model hX zq_493) dX12_out_27 rfl rfl ?_
    refine z_if_ne hX 45 dX12_out_30 (by decide) (fun h5 => ?_) (fun h5 => ?_)
    · replace hf := zif_neg h5 hf
      refine z_iconst hX dX12_out_45 ci_0 ?_
      obtain rfl := Option.some.inj hf
      exact z_iret hX hr rfl (zl rfl) (zl rfl) dX12_out_46
    · replace hf := zif_pos h5 hf
      refine z_aload_n hX dX12_out_33 0 rfl ?_
      refine z_iload_n hX dX12_out_34 3 rfl ?_
      replace hf := zb_some hf
      obtain ⟨r_6, h6, hf⟩ := hf
      refine z_callS1 hX ok_X12_noAhead rfl q1934 q1935 (zrm_ok hR (by decide)) (ct_X12_noAhead  h6) dX12_out_35 rfl rfl ?_
      refine z_iconst hX dX12_out_38 ci_2 ?_
      replace hf := zb2_some hf
      obtain ⟨r_7, g7, h7, hf⟩ := hf
      refine z_callV1 hX ok_X12_throwsIf q1775 q1777 q67 (zrm_ok hR (by decide)) (ct_X12_throwsIf  h7) (zrec_Model hX zq_493) dX12_out_39 rfl rfl ?_
      refine z_if_eq hX 47 dX12_out_42 (by decide) (fun h8 => ?_) (fun h8 => ?_)
      · replace hf := zif_pos h8 hf
        refine z_iconst hX dX12_out_47 ci_0 ?_
        refine z_istore (lv' := [(5, .int 0), (0, .ref (zB X + 493)), (1, .int v1), (2, .int v2), (3, .int v3), (4, .int v4)]) hX dX12_out_48 hn (by decide) rfl ?_
        refine z_iconst hX dX12_out_50 ci_0 ?_
        refine z_istore (lv' := [(6, .int 0), (5, .int 0), (0, .ref (zB X + 493)), (1, .int v1), (2, .int v2), (3, .int v3), (4, .int v4)]) hX dX12_out_51 hn (by decide) rfl ?_
        refine zW.sub [2, 3, 4, 5, 6, 1, 0] rfl ?_
        exact fX12_out_L53_ok hX hT hR hr hn  zFU 0 0 g7 hf
      · replace hf := zif_neg h8 hf
        refine z_iconst hX dX12_out_45 ci_0 ?_
        obtain rfl := Option.some.inj hf
        exact z_iret hX hr rfl (zl rfl) (zl rfl) dX12_out_46
  · refine z_if_ne hX 21 dX12_out_11 (by decide) (fun h25 => ?_) (fun h25 => ?_)
    · replace hf := zif_neg h25 hf
      refine z_iconst hX dX12_out_21 ci_1 ?_
      refine z_goto hX 26 dX12_out_22 (by decide) ?_
      exact hk26 1 hf
    · replace hf := zif_pos h25 hf
      refine z_iload_n hX dX12_out_14 2 rfl ?_
      replace hf := zb_some hf
      obtain ⟨r_26, h26, hf⟩ := hf
      refine z_callS1 hX ok_X12_noKind rfl q1854 q1855 (zrm_ok hR (by decide)) (ct_X12_noKind  h26) dX12_out_15 rfl rfl ?_
      refine z_if_eq hX 25 dX12_out_18 (by decide) (fun h27 => ?_) (fun h27 => ?_)
      · replace hf := zif_pos h27 hf
        refine z_iconst hX dX12_out_25 ci_0 ?_
        exact hk26 0 hf
      · replace hf := zif_neg h27 hf
        refine z_iconst hX dX12_out_21 ci_1 ?_
        refine z_goto hX 26 dX12_out_22 (by decide) ?_
        exact hk26 1 hf
set_option maxHeartbeats 4000000 in
set_option maxRecDepth 100000 in
theorem ct_X12_out {E : zE} {v1 : Int32} {v2 : Int32} {v3 : Int32} {v4 : Int32} {g : zM} {r : Int32 × zM} (hf : fX12_out v1 v2 v3 v4 g = some r) : zCt yX12_out cX12_out 8 (some .int) 8 0 E [.ref (E.1 + 493), .int v1, .int v2, .int v3, .int v4] g (.inl (some (.int r.1), r.2)) := by
  refine zmet (by decide) (zl rfl) (fun X hE hX hT hR hr hn => ?_)
  subst hE
  exact fX12_out_ok hX hT hR hr hn  hf
def fX12_astrayOf_L11 (v1 : Int32) (v3 : Int32) : Nat → Int32 → Int32 → zM → Option (Int32 × zM)
  | 0, _, _, _ => none
  | n + 1, v2, v4, g => if v3 ≤ v4 then some (v2, g) else zput g 493 19 v4 (fun g3 => zb (fX12_of v1 (29 + v4) g3) (fun r_4 => zput g3 493 22 r_4 (fun g5 => zb2 (fX12_follows g5) (fun r_6 g6 => zb (fX12_kindOf v1 v4 g6) (fun r_7 => if r_6 = r_7 then fX12_astrayOf_L11 v1 v3 n (v2 ||| 0) (v4 + 1) g6 else fX12_astrayOf_L11 v1 v3 n (v2 ||| ((1 : Int32) <<< (v4 &&& 31))) (v4 + 1) g6)))))
def fX12_astrayOf (v1 : Int32) (g : zM) : Option (Int32 × zM) := zb (fX12_lines v1 g) (fun r_1 => fX12_astrayOf_L11 v1 r_1 zFU 0 1 g)
set_option maxHeartbeats 4000000 in
set_option maxRecDepth 100000 in
theorem fX12_astrayOf_L11_ok {X : zX} (hX : zCX X cX12_astrayOf RX12) (hT : zNT X) (hR : X.2.2.2.1 = zrm 4 0) (hr : X.2.2.2.2.2.2.2.2.1.sig.returnType = (some .int)) (hn : X.2.2.2.2.2.2.2.2.2.1.maxLocals = 5) {v1 : Int32} {v3 : Int32} {r : Int32 × zM}  : ∀ (n : Nat) (v2 : Int32) (v4 : Int32) (g : zM), fX12_astrayOf_L11 v1 v3 n v2 v4 g = some r → zW X (zQ X (.inl (some (.int r.1), r.2)) 0) 0 0 11 [(0, .ref (zB X + 493)), (1, .int v1), (2, .int v2), (3, .int v3), (4, .int v4)] [] g := by
  intro n
  induction n with
  | zero => intro v2 v4 g hf; exact zno hf
  | succ n ih =>
    intro v2 v4 g hf
    rw [fX12_astrayOf_L11] at hf
    refine z_iload hX dX12_astrayOf_11 4 rfl ?_
    refine z_iload_n hX dX12_astrayOf_13 3 rfl ?_
    refine z_icmp_ge hX 68 dX12_astrayOf_14 (by decide) (fun h2 => ?_) (fun h2 => ?_)
    · replace hf := zif_pos h2 hf
      refine z_iload_n hX dX12_astrayOf_68 2 rfl ?_
      obtain rfl := Option.some.inj hf
      exact z_iret hX hr rfl (zl rfl) (zl rfl) dX12_astrayOf_69
    · replace hf := zif_neg h2 hf
      refine z_aload_n hX dX12_astrayOf_17 0 rfl ?_
      refine z_iload hX dX12_astrayOf_18 4 rfl ?_
      replace hf := zput_some hf
      obtain ⟨g3, eg3, hf⟩ := hf
      refine gp_Model_many hX zq_493 q1513 dX12_astrayOf_20 (zW.eqg eg3 ?_)
      refine z_aload_n hX dX12_astrayOf_23 0 rfl ?_
      refine z_aload_n hX dX12_astrayOf_24 0 rfl ?_
      refine z_iload_n hX dX12_astrayOf_25 1 rfl ?_
      refine z_bipush hX dX12_astrayOf_26 cb_29 ?_
      refine z_iload hX dX12_astrayOf_28 4 rfl ?_
      refine z_iadd hX dX12_astrayOf_30 ?_
      replace hf := zb_some hf
      obtain ⟨r_4, h4, hf⟩ := hf
      refine z_callV1 hX ok_X12_of q1687 q1689 q49 (zrm_ok hR (by decide)) (ct_X12_of  h4) (zrec_Model hX zq_493) dX12_astrayOf_31 rfl rfl ?_
      replace hf := zput_some hf
      obtain ⟨g5, eg5, hf⟩ := hf
      refine gp_Model_week hX zq_493 q1516 dX12_astrayOf_34 (zW.eqg eg5 ?_)
      refine z_iload_n hX dX12_astrayOf_37 2 rfl ?_
      refine z_aload_n hX dX12_astrayOf_38 0 rfl ?_
      replace hf := zb2_some hf
      obtain ⟨r_6, g6, h6, hf⟩ := hf
      refine z_callV1 hX ok_X12_follows q1815 q1817 q75 (zrm_ok hR (by decide)) (ct_X12_follows  h6) (zrec_Model hX zq_493) dX12_astrayOf_39 rfl rfl ?_
      refine z_aload_n hX dX12_astrayOf_42 0 rfl ?_
      refine z_iload_n hX dX12_astrayOf_43 1 rfl ?_
      refine z_iload hX dX12_astrayOf_44 4 rfl ?_
      replace hf := zb_some hf
      obtain ⟨r_7, h7, hf⟩ := hf
      refine z_callV1 hX ok_X12_kindOf q1795 q1797 q70 (zrm_ok hR (by decide)) (ct_X12_kindOf  h7) (zrec_Model hX zq_493) dX12_astrayOf_46 rfl rfl ?_
      refine z_icmp_eq hX 59 dX12_astrayOf_49 (by decide) (fun h8 => ?_) (fun h8 => ?_)
      · replace hf := zif_pos h8 hf
        refine z_iconst hX dX12_astrayOf_59 ci_0 ?_
        refine z_ior hX dX12_astrayOf_60 ?_
        refine z_istore_n (lv' := [(2, .int (v2 ||| 0)), (0, .ref (zB X + 493)), (1, .int v1), (3, .int v3), (4, .int v4)]) hX dX12_astrayOf_61 hn (by decide) rfl ?_
        refine z_iincc (lv' := [(4, .int (v4 + 1)), (2, .int (v2 ||| 0)), (0, .ref (zB X + 493)), (1, .int v1), (3, .int v3)]) hX dX12_astrayOf_62 hn (by decide) 4 rfl ci_1 rfl ?_
        refine z_goto hX 11 dX12_astrayOf_65 (by decide) ?_
        refine zW.sub [2, 3, 1, 4, 0] rfl ?_
        exact ih (v2 ||| 0) (v4 + 1) g6 hf
      · replace hf := zif_neg h8 hf
        refine z_iconst hX dX12_astrayOf_52 ci_1 ?_
        refine z_iload hX dX12_astrayOf_53 4 rfl ?_
        refine z_ishl hX dX12_astrayOf_55 ?_
        refine z_goto hX 60 dX12_astrayOf_56 (by decide) ?_
        refine z_ior hX dX12_astrayOf_60 ?_
        refine z_istore_n (lv' := [(2, .int (v2 ||| ((1 : Int32) <<< (v4 &&& 31)))), (0, .ref (zB X + 493)), (1, .int v1), (3, .int v3), (4, .int v4)]) hX dX12_astrayOf_61 hn (by decide) rfl ?_
        refine z_iincc (lv' := [(4, .int (v4 + 1)), (2, .int (v2 ||| ((1 : Int32) <<< (v4 &&& 31)))), (0, .ref (zB X + 493)), (1, .int v1), (3, .int v3)]) hX dX12_astrayOf_62 hn (by decide) 4 rfl ci_1 rfl ?_
        refine z_goto hX 11 dX12_astrayOf_65 (by decide) ?_
        refine zW.sub [2, 3, 1, 4, 0] rfl ?_
        exact ih (v2 ||| ((1 : Int32) <<< (v4 &&& 31))) (v4 + 1) g6 hf
set_option maxHeartbeats 4000000 in
set_option maxRecDepth 100000 in
theorem fX12_astrayOf_ok {X : zX} (hX : zCX X cX12_astrayOf RX12) (hT : zNT X) (hR : X.2.2.2.1 = zrm 4 0) (hr : X.2.2.2.2.2.2.2.2.1.sig.returnType = (some .int)) (hn : X.2.2.2.2.2.2.2.2.2.1.maxLocals = 5) {v1 : Int32} {g : zM} {r : Int32 × zM} (hf : fX12_astrayOf v1 g = some r) : zW X (zQ X (.inl (some (.int r.1), r.2)) 0) 0 0 0 [(0, .ref (zB X + 493)), (1, .int v1)] [] g := by
  unfold fX12_astrayOf at hf
  refine z_iconst hX dX12_astrayOf_0 ci_0 ?_
  refine z_istore_n (lv' := [(2, .int 0), (0, .ref (zB X + 493)), (1, .int v1)]) hX dX12_astrayOf_1 hn (by decide) rfl ?_
  refine z_aload_n hX dX12_astrayOf_2 1 rfl ?_
  refine z_iload_n hX dX12_astrayOf_3 2 rfl ?_
  replace hf := zb_some hf
  obtain ⟨r_1, h1, hf⟩ := hf
  refine z_callV1 hX ok_X12_lines q1683 q1685 q48 (zrm_ok hR (by decide)) (ct_X12_lines  h1) (zrec_Model hX zq_493) dX12_astrayOf_4 rfl rfl ?_
  refine z_istore_n (lv' := [(3, .int r_1), (2, .int 0), (0, .ref (zB X + 493)), (1, .int v1)]) hX dX12_astrayOf_7 hn (by decide) rfl ?_
  refine z_iconst hX dX12_astrayOf_8 ci_1 ?_
  refine z_istore (lv' := [(4, .int 1), (3, .int r_1), (2, .int 0), (0, .ref (zB X + 493)), (1, .int v1)]) hX dX12_astrayOf_9 hn (by decide) rfl ?_
  refine zW.sub [3, 4, 2, 1, 0] rfl ?_
  exact fX12_astrayOf_L11_ok hX hT hR hr hn  zFU 0 1 g hf
set_option maxHeartbeats 4000000 in
set_option maxRecDepth 100000 in
theorem ct_X12_astrayOf {E : zE} {v1 : Int32} {g : zM} {r : Int32 × zM} (hf : fX12_astrayOf v1 g = some r) : zCt yX12_astrayOf cX12_astrayOf 5 (some .int) 4 0 E [.ref (E.1 + 493), .int v1] g (.inl (some (.int r.1), r.2)) := by
  refine zmet (by decide) (zl rfl) (fun X hE hX hT hR hr hn => ?_)
  subst hE
  exact fX12_astrayOf_ok hX hT hR hr hn  hf
def fX12_astray (v1 : Int32) (g : zM) : Option (Int32 × zM) := zput g 493 0 0 (fun g1 => zb (fX12_noLetter v1 g1) (fun r_2 => zb2 (fX12_throwsIf r_2 1 g1) (fun r_3 g3 => if r_3 = 0 then zb (fX12_looksAt v1 g3) (fun g5 => zb2 (fX12_astrayOf v1 g5) (fun r_6 g6 => some (r_6, g6))) else some (0, g3))))
set_option maxHeartbeats 4000000 in
set_option maxRecDepth 100000 in
theorem fX12_astray_ok {X : zX} (hX : zCX X cX12_astray RX12) (hT : zNT X) (hR : X.2.2.2.1 = zrm 5 0) (hr : X.2.2.2.2.2.2.2.2.1.sig.returnType = (some .int)) (hn : X.2.2.2.2.2.2.2.2.2.1.maxLocals = 2) {v1 : Int32} {g : zM} {r : Int32 × zM} (hf : fX12_astray v1 g = some r) : zW X (zQ X (.inl (some (.int r.1), r.2)) 0) 0 0 0 [(0, .ref (zB X + 493)), (1, .int v1)] [] g := by
  unfold fX12_astray at hf
  refine z_aload_n hX dX12_astray_0 0 rfl ?_
  refine z_iconst hX dX12_astray_1 ci_0 ?_
  replace hf := zput_some hf
  obtain ⟨g1, eg1, hf⟩ := hf
  refine gp_Model_thrown hX zq_493 q1494 dX12_astray_2 (zW.eqg eg1 ?_)
  refine z_aload_n hX dX12_astray_5 0 rfl ?_
  refine z_aload_n hX dX12_astray_6 0 rfl ?_
  refine z_iload_n hX dX12_astray_7 1 rfl ?_
  replace hf := zb_some hf
  obtain ⟨r_2, h2, hf⟩ := hf
  refine z_callV1 hX ok_X12_noLetter q1787 q1789 q68 (zrm_ok hR (by decide)) (ct_X12_noLetter  h2) (zrec_Model hX zq_493) dX12_astray_8 rfl rfl ?_
  refine z_iconst hX dX12_astray_11 ci_1 ?_
  replace hf := zb2_some hf
  obtain ⟨r_3, g3, h3, hf⟩ := hf
  refine z_callV1 hX ok_X12_throwsIf q1775 q1777 q67 (zrm_ok hR (by decide)) (ct_X12_throwsIf  h3) (zrec_Model hX zq_493) dX12_astray_12 rfl rfl ?_
  refine z_if_eq hX 20 dX12_astray_15 (by decide) (fun h4 => ?_) (fun h4 => ?_)
  · replace hf := zif_pos h4 hf
    refine z_aload_n hX dX12_astray_20 0 rfl ?_
    refine z_iload_n hX dX12_astray_21 1 rfl ?_
    replace hf := zb_some hf
    obtain ⟨g5, h5, hf⟩ := hf
    refine z_callV0 hX ok_X12_looksAt q1791 q1793 q69 (zrm_ok hR (by decide)) (ct_X12_looksAt  h5) (zrec_Model hX zq_493) dX12_astray_22 rfl rfl ?_
    refine z_aload_n hX dX12_astray_25 0 rfl ?_
    refine z_iload_n hX dX12_astray_26 1 rfl ?_
    replace hf := zb2_some hf
    obtain ⟨r_6, g6, h6, hf⟩ := hf
    refine z_callV1 hX ok_X12_astrayOf q1993 q1995 q96 (zrm_ok hR (by decide)) (ct_X12_astrayOf  h6) (zrec_Model hX zq_493) dX12_astray_27 rfl rfl ?_
    obtain rfl := Option.some.inj hf
    exact z_iret hX hr rfl (zl rfl) (zl rfl) dX12_astray_30
  · replace hf := zif_neg h4 hf
    refine z_iconst hX dX12_astray_18 ci_0 ?_
    obtain rfl := Option.some.inj hf
    exact z_iret hX hr rfl (zl rfl) (zl rfl) dX12_astray_19
set_option maxHeartbeats 4000000 in
set_option maxRecDepth 100000 in
theorem ct_X12_astray {E : zE} {v1 : Int32} {g : zM} {r : Int32 × zM} (hf : fX12_astray v1 g = some r) : zCt yX12_astray cX12_astray 2 (some .int) 5 0 E [.ref (E.1 + 493), .int v1] g (.inl (some (.int r.1), r.2)) := by
  refine zmet (by decide) (zl rfl) (fun X hE hX hT hR hr hn => ?_)
  subst hE
  exact fX12_astray_ok hX hT hR hr hn  hf
def fJ6_numberOfLeadingZeros_0f7a4 (v0 : Int32) (g : zM) : Option Int32 := if 0 < v0 then zjoin (fun v0_2 v1_2 => zjoin (fun v0_3 v1_3 => zjoin (fun v0_4 v1_4 => if v0_4 < 4 then some (v1_4 - ((v0_4.toUInt32 >>> ((1 : Int32).toUInt32 &&& Int32.toUInt32 31)).toInt32)) else some ((v1_4 + (-2)) - ((((v0_4.toUInt32 >>> ((2 : Int32).toUInt32 &&& Int32.toUInt32 31)).toInt32).toUInt32 >>> ((1 : Int32).toUInt32 &&& Int32.toUInt32 31)).toInt32)) : Int32 → Int32 → Option Int32) (fun k61 => if v0_3 < 16 then k61 v0_3 v1_3 else k61 ((v0_3.toUInt32 >>> ((4 : Int32).toUInt32 &&& Int32.toUInt32 31)).toInt32) (v1_3 + (-4))) : Int32 → Int32 → Option Int32) (fun k48 => if v0_2 < 256 then k48 v0_2 v1_2 else k48 ((v0_2.toUInt32 >>> ((8 : Int32).toUInt32 &&& Int32.toUInt32 31)).toInt32) (v1_2 + (-8))) : Int32 → Int32 → Option Int32) (fun k33 => if v0 < 65536 then k33 v0 31 else k33 ((v0.toUInt32 >>> ((16 : Int32).toUInt32 &&& Int32.toUInt32 31)).toInt32) (31 + (-16))) else if v0 = 0 then some 32 else some 0
set_option maxHeartbeats 4000000 in
set_option maxRecDepth 100000 in
theorem fJ6_numberOfLeadingZeros_0f7a4_ok {X : zX} (hX : zCX X cJ6_numberOfLeadingZeros_0f7a4 RJ6) (hT : zNT X) (hR : X.2.2.2.1 = zrm 0 0) (hr : X.2.2.2.2.2.2.2.2.1.sig.returnType = (some .int)) (hn : X.2.2.2.2.2.2.2.2.2.1.maxLocals = 2) {v0 : Int32} {g : zM} {r : Int32} (hf : fJ6_numberOfLeadingZeros_0f7a4 v0 g = some r) : zW X (zQ X (.inl (some (.int r), g)) 0) 0 0 0 [(0, .int v0)] [] g := by
  unfold fJ6_numberOfLeadingZeros_0f7a4 at hf
  refine z_iload_n hX dJ6_numberOfLeadingZeros_0f7a4_0 0 rfl ?_
  refine z_if_gt hX 15 dJ6_numberOfLeadingZeros_0f7a4_1 (by decide) (fun h1 => ?_) (fun h1 => ?_)
  · replace hf := zif_pos h1 hf
    refine z_bipush hX dJ6_numberOfLeadingZeros_0f7a4_15 cb_31 ?_
    refine z_istore_n (lv' := [(1, .int 31), (0, .int v0)]) hX dJ6_numberOfLeadingZeros_0f7a4_17 hn (by decide) rfl ?_
    refine z_iload_n hX dJ6_numberOfLeadingZeros_0f7a4_18 1 rfl ?_
    refine z_ldcw hX dJ6_numberOfLeadingZeros_0f7a4_19 q2004 ?_
    refine zjoin_ok (P := fun (k : Int32 → Int32 → Option Int32) => ∀ (v0_2 : Int32) (v1_2 : Int32), k v0_2 v1_2 = some r → zW X (zQ X (.inl (some (.int r), g)) 0) 0 0 33 [(0, .int v0_2), (1, .int v1_2)] [] g) hf (fun v0_2 v1_2 hf => ?_) (fun k33 hk33 hf => ?_)
    · refine z_iload_n hX dJ6_numberOfLeadingZeros_0f7a4_33 0 rfl ?_
      refine z_sipush hX dJ6_numberOfLeadingZeros_0f7a4_34 cs_256 ?_
      refine zjoin_ok (P := fun (k : Int32 → Int32 → Option Int32) => ∀ (v0_3 : Int32) (v1_3 : Int32), k v0_3 v1_3 = some r → zW X (zQ X (.inl (some (.int r), g)) 0) 0 0 48 [(0, .int v0_3), (1, .int v1_3)] [] g) hf (fun v0_3 v1_3 hf => ?_) (fun k48 hk48 hf => ?_)
      · refine z_iload_n hX dJ6_numberOfLeadingZeros_0f7a4_48 0 rfl ?_
        refine z_bipush hX dJ6_numberOfLeadingZeros_0f7a4_49 cb_16 ?_
        refine zjoin_ok (P := fun (k : Int32 → Int32 → Option Int32) => ∀ (v0_4 : Int32) (v1_4 : Int32), k v0_4 v1_4 = some r → zW X (zQ X (.inl (some (.int r), g)) 0) 0 0 61 [(0, .int v0_4), (1, .int v1_4)] [] g) hf (fun v0_4 v1_4 hf => ?_) (fun k61 hk61 hf => ?_)
        · refine z_iload_n hX dJ6_numberOfLeadingZeros_0f7a4_61 0 rfl ?_
          refine z_iconst hX dJ6_numberOfLeadingZeros_0f7a4_62 ci_4 ?_
          refine z_icmp_lt hX 73 dJ6_numberOfLeadingZeros_0f7a4_63 (by decide) (fun h5 => ?_) (fun h5 => ?_)
          · replace hf := zif_pos h5 hf
            refine z_iload_n hX dJ6_numberOfLeadingZeros_0f7a4_73 1 rfl ?_
            refine z_iload_n hX dJ6_numberOfLeadingZeros_0f7a4_74 0 rfl ?_
            refine z_iconst hX dJ6_numberOfLeadingZeros_0f7a4_75 ci_1 ?_
            refine z_iushr hX dJ6_numberOfLeadingZeros_0f7a4_76 ?_
            refine z_isub hX dJ6_numberOfLeadingZeros_0f7a4_77 ?_
            obtain rfl := Option.some.inj hf
            exact z_iret hX hr rfl (zl rfl) (zl rfl) dJ6_numberOfLeadingZeros_0f7a4_78
          · replace hf := zif_neg h5 hf
            refine z_iincc (lv' := [(1, .int (v1_4 + (-2))), (0, .int v0_4)]) hX dJ6_numberOfLeadingZeros_0f7a4_66 hn (by decide) 1 rfl ci_m2 rfl ?_
            refine z_iload_n hX dJ6_numberOfLeadingZeros_0f7a4_69 1 rfl ?_
            refine z_iconst hX dJ6_numberOfLeadingZeros_0f7a4_70 ci_2 ?_
            refine z_iushr hX dJ6_numberOfLeadingZeros_0f7a4_71 ?_
            refine z_istore_n (lv' := [(0, .int ((v0_4.toUInt32 >>> ((2 : Int32).toUInt32 &&& Int32.toUInt32 31)).toInt32)), (1, .int (v1_4 + (-2)))]) hX dJ6_numberOfLeadingZeros_0f7a4_72 hn (by decide) rfl ?_
            refine z_iload_n hX dJ6_numberOfLeadingZeros_0f7a4_73 1 rfl ?_
            refine z_iload_n hX dJ6_numberOfLeadingZeros_0f7a4_74 0 rfl ?_
            refine z_iconst hX dJ6_numberOfLeadingZeros_0f7a4_75 ci_1 ?_
            refine z_iushr hX dJ6_numberOfLeadingZeros_0f7a4_76 ?_
            refine z_isub hX dJ6_numberOfLeadingZeros_0f7a4_77 ?_
            obtain rfl := Option.some.inj hf
            exact z_iret hX hr rfl (zl rfl) (zl rfl) dJ6_numberOfLeadingZeros_0f7a4_78
        · refine z_icmp_lt hX 61 dJ6_numberOfLeadingZeros_0f7a4_51 (by decide) (fun h6 => ?_) (fun h6 => ?_)
          · replace hf := zif_pos h6 hf
            exact hk61 v0_3 v1_3 hf
          · replace hf := zif_neg h6 hf
            refine z_iincc (lv' := [(1, .int (v1_3 + (-4))), (0, .int v0_3)]) hX dJ6_numberOfLeadingZeros_0f7a4_54 hn (by decide) 1 rfl ci_m4 rfl ?_
            refine z_iload_n hX dJ6_numberOfLeadingZeros_0f7a4_57 1 rfl ?_
            refine z_iconst hX dJ6_numberOfLeadingZeros_0f7a4_58 ci_4 ?_
            refine z_iushr hX dJ6_numberOfLeadingZeros_0f7a4_59 ?_
            refine z_istore_n (lv' := [(0, .int ((v0_3.toUInt32 >>> ((4 : Int32).toUInt32 &&& Int32.toUInt32 31)).toInt32)), (1, .int (v1_3 + (-4)))]) hX dJ6_numberOfLeadingZeros_0f7a4_60 hn (by decide) rfl ?_
            exact hk61 ((v0_3.toUInt32 >>> ((4 : Int32).toUInt32 &&& Int32.toUInt32 31)).toInt32) (v1_3 + (-4)) hf
      · refine z_icmp_lt hX 48 dJ6_numberOfLeadingZeros_0f7a4_37 (by decide) (fun h7 => ?_) (fun h7 => ?_)
        · replace hf := zif_pos h7 hf
          exact hk48 v0_2 v1_2 hf
        · replace hf := zif_neg h7 hf
          refine z_iincc (lv' := [(1, .int (v1_2 + (-8))), (0, .int v0_2)]) hX dJ6_numberOfLeadingZeros_0f7a4_40 hn (by decide) 1 rfl ci_m8 rfl ?_
          refine z_iload_n hX dJ6_numberOfLeadingZeros_0f7a4_43 1 rfl ?_
          refine z_bipush hX dJ6_numberOfLeadingZeros_0f7a4_44 cb_8 ?_
          refine z_iushr hX dJ6_numberOfLeadingZeros_0f7a4_46 ?_
          refine z_istore_n (lv' := [(0, .int ((v0_2.toUInt32 >>> ((8 : Int32).toUInt32 &&& Int32.toUInt32 31)).toInt32)), (1, .int (v1_2 + (-8)))]) hX dJ6_numberOfLeadingZeros_0f7a4_47 hn (by decide) rfl ?_
          exact hk48 ((v0_2.toUInt32 >>> ((8 : Int32).toUInt32 &&& Int32.toUInt32 31)).toInt32) (v1_2 + (-8)) hf
    · refine z_icmp_lt hX 33 dJ6_numberOfLeadingZeros_0f7a4_22 (by decide) (fun h8 => ?_) (fun h8 => ?_)
      · replace hf := zif_pos h8 hf
        refine zW.sub [1, 0] rfl ?_
        exact hk33 v0 31 hf
      · replace hf := zif_neg h8 hf
        refine z_iincc (lv' := [(1, .int (31 + (-16))), (0, .int v0)]) hX dJ6_numberOfLeadingZeros_0f7a4_25 hn (by decide) 0 rfl ci_m16 rfl ?_
        refine z_iload_n hX dJ6_numberOfLeadingZeros_0f7a4_28 1 rfl ?_
        refine z_bipush hX dJ6_numberOfLeadingZeros_0f7a4_29 cb_16 ?_
        refine z_iushr hX dJ6_numberOfLeadingZeros_0f7a4_31 ?_
        refine z_istore_n (lv' := [(0, .int ((v0.toUInt32 >>> ((16 : Int32).toUInt32 &&& Int32.toUInt32 31)).toInt32)), (1, .int (31 + (-16)))]) hX dJ6_numberOfLeadingZeros_0f7a4_32 hn (by decide) rfl ?_
        exact hk33 ((v0.toUInt32 >>> ((16 : Int32).toUInt32 &&& Int32.toUInt32 31)).toInt32) (31 + (-16)) hf
  · replace hf := zif_neg h1 hf
    refine z_iload_n hX dJ6_numberOfLeadingZeros_0f7a4_4 0 rfl ?_
    refine z_if_ne hX 13 dJ6_numberOfLeadingZeros_0f7a4_5 (by decide) (fun h9 => ?_) (fun h9 => ?_)
    · replace hf := zif_neg h9 hf
      refine z_iconst hX dJ6_numberOfLeadingZeros_0f7a4_13 ci_0 ?_
      obtain rfl := Option.some.inj hf
      exact z_iret hX hr rfl (zl rfl) (zl rfl) dJ6_numberOfLeadingZeros_0f7a4_14
    · replace hf := zif_pos h9 hf
      refine z_bipush hX dJ6_numberOfLeadingZeros_0f7a4_8 cb_32 ?_
      refine z_goto hX 14 dJ6_numberOfLeadingZeros_0f7a4_10 (by decide) ?_
      obtain rfl := Option.some.inj hf
      exact z_iret hX hr rfl (zl rfl) (zl rfl) dJ6_numberOfLeadingZeros_0f7a4_14
set_option maxHeartbeats 4000000 in
set_option maxRecDepth 100000 in
theorem ct_J6_numberOfLeadingZeros_0f7a4 {E : zE} {v0 : Int32} {g : zM} {r : Int32} (hf : fJ6_numberOfLeadingZeros_0f7a4 v0 g = some r) : zCt yJ6_numberOfLeadingZeros_0f7a4 cJ6_numberOfLeadingZeros_0f7a4 2 (some .int) 0 0 E [.int v0] g (.inl (some (.int r), g)) := by
  refine zmet (by decide) (zl rfl) (fun X hE hX hT hR hr hn => ?_)
  subst hE
  exact fJ6_numberOfLeadingZeros_0f7a4_ok hX hT hR hr hn  hf
