def fX4_remember (r1 : Nat) (g : zM) : Option zM := zchk (g 76 1) 12 (zb (fX0_become (77 + 1 + 26 * (g 76 1).toNatClampNeg) r1 g) (fun g2 => zput g2 76 1 (((g2 76 1) + 1) - ((g2 76 1) + 1) / 12 * 12) (fun g3 => zput g3 76 2 (if 12 < (g3 76 2) + 1 then 12 else (g3 76 2) + 1) (fun g4 => some g4))))
set_option maxHeartbeats 4000000 in
set_option maxRecDepth 100000 in
theorem fX4_remember_ok {X : zX} (hX : zCX X cX4_remember RX4) (hT : zNT X) (hR : X.2.2.2.1 = zrm 7 0) (hr : X.2.2.2.2.2.2.2.2.1.sig.returnType = none) (hn : X.2.2.2.2.2.2.2.2.2.1.maxLocals = 2) {r1 : Nat} (hk1 : zK r1 = 0) {g : zM} {r : zM} (hf : fX4_remember r1 g = some r) : zW X (zQ X (.inl (none, r)) 0) 0 0 0 [(0, .ref (zB X + 76)), (1, .ref (zB X + r1))] [] g := by
  unfold fX4_remember at hf
  refine z_aload_n hX dX4_remember_0 0 rfl ?_
  refine gf_Memory_acts hX zq_76 q313 dX4_remember_1 ?_
  refine z_aload_n hX dX4_remember_4 0 rfl ?_
  refine gf_Memory_next hX zq_76 q314 dX4_remember_5 ?_
  replace hf := zchk_some hf
  obtain ⟨h1, hf⟩ := hf
  refine z_aald_bag hX zq_77 h1 dX4_remember_8 ?_
  refine z_aload_n hX dX4_remember_9 1 rfl ?_
  replace hf := zb_some hf
  obtain ⟨g2, h2, hf⟩ := hf
  refine z_callV0 hX ok_X0_become q603 q604 q605 (zrm_ok hR (by decide)) (ct_X0_become (zk_el23 zq_77 h1) hk1 h2) (zrec_Bag hX (zk_el23 zq_77 h1)) dX4_remember_10 rfl rfl ?_
  refine z_aload_n hX dX4_remember_13 0 rfl ?_
  refine z_aload_n hX dX4_remember_14 0 rfl ?_
  refine gf_Memory_next hX zq_76 q314 dX4_remember_15 ?_
  refine z_iconst hX dX4_remember_18 ci_1 ?_
  refine z_iadd hX dX4_remember_19 ?_
  refine z_bipush hX dX4_remember_20 cb_12 ?_
  refine z_irem hX dX4_remember_22 (by decide) ?_
  replace hf := zput_some hf
  obtain ⟨g3, eg3, hf⟩ := hf
  refine gp_Memory_next hX zq_76 q314 dX4_remember_23 (zW.eqg eg3 ?_)
  refine z_aload_n hX dX4_remember_26 0 rfl ?_
  refine z_aload_n hX dX4_remember_27 0 rfl ?_
  refine gf_Memory_size hX zq_76 q315 dX4_remember_28 ?_
  refine z_iconst hX dX4_remember_31 ci_1 ?_
  refine z_iadd hX dX4_remember_32 ?_
  refine z_bipush hX dX4_remember_33 cb_12 ?_
  refine z_min hX hR ⟨zl rfl, zl rfl⟩ q1088 dX4_remember_35 (zl rfl) ?_
  replace hf := zput_some hf
  obtain ⟨g4, eg4, hf⟩ := hf
  refine gp_Memory_size hX zq_76 q315 dX4_remember_38 (zW.eqg eg4 ?_)
  obtain rfl := Option.some.inj hf
  exact z_vret hX hr (zl rfl) (zl rfl) dX4_remember_41
set_option maxHeartbeats 4000000 in
set_option maxRecDepth 100000 in
theorem ct_X4_remember {E : zE} {r1 : Nat} (hk1 : zK r1 = 0) {g : zM} {r : zM} (hf : fX4_remember r1 g = some r) : zCt yX4_remember cX4_remember 2 none 7 0 E [.ref (E.1 + 76), .ref (E.1 + r1)] g (.inl (none, r)) := by
  refine zmet (by decide) (zl rfl) (fun X hE hX hT hR hr hn => ?_)
  subst hE
  exact fX4_remember_ok hX hT hR hr hn hk1 hf
def fX11_write_L114 (v3 : Int32) (r4 : Nat) (k156 : zM → Option (Except Nat Int32 × zM)) : Nat → Int32 → zM → Option (Except Nat Int32 × zM)
  | 0, _, _ => none
  | n + 1, v5, g => if v3 ≤ v5 then k156 g else if 400 ≤ v5 then k156 g else zchk v5 400 (zb (fX3_add r4 (g 1 v5.toNatClampNeg) (g 3 2) g) (fun g15 => fX11_write_L114 v3 r4 k156 n (v5 + 1) g15))
def fX11_write (v1 : Int32) (v2 : Int32) (g : zM) : Option (Except Nat Int32 × zM) := zput g 0 1 0 (fun g1 => zb (fX11_areKinds (g 0 1) g1) (fun r_2 => if r_2 = 0 then some (.error 2, g1) else zb (fX11_isNoDigit v1 g1) (fun r_4 => if r_4 = 0 then zb (fX11_isNoDigit v2 g1) (fun r_6 => if r_6 = 0 then if (g1 3 1) < 8 then zb (fX4_remember 3 g1) (fun g9 => zchk (g9 3 1) 8 (zb (fX3_begin (4 + 1 + 3 * (g9 3 1).toNatClampNeg) v1 v2 g9) (fun g11 => fX11_write_L114 (g 0 1) (4 + 1 + 3 * (g9 3 1).toNatClampNeg) (fun g16 => zput g16 3 1 ((g16 3 1) + 1) (fun g17 => some (.ok ((g17 3 1) - 1), g17))) zFU 0 g11))) else some (.error 4, g1) else some (.error 2, g1)) else some (.error 2, g1))))
set_option maxHeartbeats 4000000 in
set_option maxRecDepth 100000 in
theorem fX11_write_L114_ok {X : zX} (hX : zCX X cX11_write RX11) (hT : zNT X) (hR : X.2.2.2.1 = zrm 8 2) (hr : X.2.2.2.2.2.2.2.2.1.sig.returnType = (some .int)) (hn : X.2.2.2.2.2.2.2.2.2.1.maxLocals = 6) {v3 : Int32} {r4 : Nat} (hkr4 : zK r4 = 3) {k156 : zM → Option (Except Nat Int32 × zM)} {r : Except Nat Int32 × zM} (hk156 : ∀ (g : zM), k156 g = some r → zW X (zQ X (zoI r) 2) 0 0 156 [(0, .ref (zB X + 0))] [] g) : ∀ (n : Nat) (v5 : Int32) (g : zM), fX11_write_L114 v3 r4 k156 n v5 g = some r → zW X (zQ X (zoI r) 2) 0 0 114 [(0, .ref (zB X + 0)), (3, .int v3), (4, .ref (zB X + r4)), (5, .int v5)] [] g := by
  intro n
  induction n with
  | zero => intro v5 g hf; exact zno hf
  | succ n ih =>
    intro v5 g hf
    rw [fX11_write_L114] at hf
    refine z_iload hX dX11_write_114 3 rfl ?_
    refine z_iload_n hX dX11_write_116 1 rfl ?_
    refine z_icmp_ge hX 156 dX11_write_117 (by decide) (fun h12 => ?_) (fun h12 => ?_)
    · replace hf := zif_pos h12 hf
      refine zW.sub [0] rfl ?_
      exact hk156 g hf
    · replace hf := zif_neg h12 hf
      refine z_iload hX dX11_write_120 3 rfl ?_
      refine z_sipush hX dX11_write_122 cs_400 ?_
      refine z_icmp_ge hX 156 dX11_write_125 (by decide) (fun h13 => ?_) (fun h13 => ?_)
      · replace hf := zif_pos h13 hf
        refine zW.sub [0] rfl ?_
        exact hk156 g hf
      · replace hf := zif_neg h13 hf
        refine z_aload hX dX11_write_128 2 rfl ?_
        refine z_aload_n hX dX11_write_130 0 rfl ?_
        refine gf_Post_tape hX zq_0 q436 dX11_write_131 ?_
        refine z_iload hX dX11_write_134 3 rfl ?_
        replace hf := zchk_some hf
        obtain ⟨h14, hf⟩ := hf
        refine z_iald hX zq_1 (by decide) (zc_1400 _ _ _) h14 dX11_write_136 ?_
        refine z_aload_n hX dX11_write_137 0 rfl ?_
        refine gf_Post_now hX zq_0 q439 dX11_write_138 ?_
        refine gf_World_bag_N hX zq_2 qn273 dX11_write_141 ?_
        refine gf_Bag_week_N hX zq_3 qn219 dX11_write_144 ?_
        replace hf := zb_some hf
        obtain ⟨g15, h15, hf⟩ := hf
        refine z_callV0 hX ok_X3_add q1090 q553 q554 (zrm_ok hR (by decide)) (ct_X3_add hkr4 h15) (zrec_Mail hX hkr4) dX11_write_147 rfl rfl ?_
        refine z_iincc (lv' := [(5, .int (v5 + 1)), (0, .ref (zB X + 0)), (3, .int v3), (4, .ref (zB X + r4))]) hX dX11_write_150 hn (by decide) 3 rfl ci_1 rfl ?_
        refine z_goto hX 114 dX11_write_153 (by decide) ?_
        refine zW.sub [1, 2, 3, 0] rfl ?_
        exact ih (v5 + 1) g15 hf
set_option maxHeartbeats 4000000 in
set_option maxRecDepth 100000 in
theorem fX11_write_ok {X : zX} (hX : zCX X cX11_write RX11) (hT : zNT X) (hR : X.2.2.2.1 = zrm 8 2) (hr : X.2.2.2.2.2.2.2.2.1.sig.returnType = (some .int)) (hn : X.2.2.2.2.2.2.2.2.2.1.maxLocals = 6) {v1 : Int32} {v2 : Int32} {g : zM} {r : Except Nat Int32 × zM} (hf : fX11_write v1 v2 g = some r) : zW X (zQ X (zoI r) 2) 0 0 0 [(0, .ref (zB X + 0)), (1, .int v1), (2, .int v2)] [] g := by
  unfold fX11_write at hf
  refine z_aload_n hX dX11_write_0 0 rfl ?_
  refine gf_Post_tapeSize hX zq_0 q437 dX11_write_1 ?_
  refine z_istore_n (lv' := [(3, .int (g 0 1)), (0, .ref (zB X + 0)), (1, .int v1), (2, .int v2)]) hX dX11_write_4 hn (by decide) rfl ?_
  refine z_aload_n hX dX11_write_5 1 rfl ?_
  refine z_iconst hX dX11_write_6 ci_0 ?_
  replace hf := zput_some hf
  obtain ⟨g1, eg1, hf⟩ := hf
  refine gp_Post_tapeSize hX zq_0 q437 dX11_write_7 (zW.eqg eg1 ?_)
  refine z_aload_n hX dX11_write_10 1 rfl ?_
  refine z_iload_n hX dX11_write_11 0 rfl ?_
  replace hf := zb_some hf
  obtain ⟨r_2, h2, hf⟩ := hf
  refine z_callV1 hX ok_X11_areKinds q1075 q1077 q28 (zrm_ok hR (by decide)) (ct_X11_areKinds  h2) (zrec_Post hX zq_0) dX11_write_12 rfl rfl ?_
  refine z_if_eq hX 32 dX11_write_15 (by decide) (fun h3 => ?_) (fun h3 => ?_)
  · replace hf := zif_pos h3 hf
    obtain rfl := Option.some.inj hf
    exact z_throw hX hT hR at_2_114 (i := 10) rfl dX11_write_32 dX11_write_35 dX11_write_36 dX11_write_38 dX11_write_41 (zl rfl) (zl rfl) (zl rfl) (zl rfl)
  · replace hf := zif_neg h3 hf
    refine z_iload_n hX dX11_write_18 2 rfl ?_
    replace hf := zb_some hf
    obtain ⟨r_4, h4, hf⟩ := hf
    refine z_callS1 hX ok_X11_isNoDigit rfl q1079 q1080 (zrm_ok hR (by decide)) (ct_X11_isNoDigit  h4) dX11_write_19 rfl rfl ?_
    refine z_if_ne hX 32 dX11_write_22 (by decide) (fun h5 => ?_) (fun h5 => ?_)
    · replace hf := zif_neg h5 hf
      obtain rfl := Option.some.inj hf
      exact z_throw hX hT hR at_2_114 (i := 10) rfl dX11_write_32 dX11_write_35 dX11_write_36 dX11_write_38 dX11_write_41 (zl rfl) (zl rfl) (zl rfl) (zl rfl)
    · replace hf := zif_pos h5 hf
      refine z_iload_n hX dX11_write_25 3 rfl ?_
      replace hf := zb_some hf
      obtain ⟨r_6, h6, hf⟩ := hf
      refine z_callS1 hX ok_X11_isNoDigit rfl q1079 q1080 (zrm_ok hR (by decide)) (ct_X11_isNoDigit  h6) dX11_write_26 rfl rfl ?_
      refine z_if_eq hX 42 dX11_write_29 (by decide) (fun h7 => ?_) (fun h7 => ?_)
      · replace hf := zif_pos h7 hf
        refine z_aload_n hX dX11_write_42 1 rfl ?_
        refine gf_Post_now hX zq_0 q439 dX11_write_43 ?_
        refine gf_World_bag_N hX zq_2 qn273 dX11_write_46 ?_
        refine gf_Bag_size_N hX zq_3 qn216 dX11_write_49 ?_
        refine z_bipush hX dX11_write_52 cb_8 ?_
        refine z_icmp_lt hX 67 dX11_write_54 (by decide) (fun h8 => ?_) (fun h8 => ?_)
        · replace hf := zif_pos h8 hf
          refine z_aload_n hX dX11_write_67 1 rfl ?_
          refine gf_Post_memory hX zq_0 q442 dX11_write_68 ?_
          refine z_aload_n hX dX11_write_71 1 rfl ?_
          refine gf_Post_now hX zq_0 q439 dX11_write_72 ?_
          refine gf_World_bag_N hX zq_2 qn273 dX11_write_75 ?_
          replace hf := zb_some hf
          obtain ⟨g9, h9, hf⟩ := hf
          refine z_callV0 hX ok_X4_remember q1084 q1085 q1086 (zrm_ok hR (by decide)) (ct_X4_remember zq_3 h9) (zrec_Memory hX zq_76) dX11_write_78 rfl rfl ?_
          refine z_aload_n hX dX11_write_81 1 rfl ?_
          refine gf_Post_now hX zq_0 q439 dX11_write_82 ?_
          refine gf_World_bag_N hX zq_2 qn273 dX11_write_85 ?_
          refine gf_Bag_mails_N hX zq_3 qn213 dX11_write_88 ?_
          refine z_aload_n hX dX11_write_91 1 rfl ?_
          refine gf_Post_now hX zq_0 q439 dX11_write_92 ?_
          refine gf_World_bag_N hX zq_2 qn273 dX11_write_95 ?_
          refine gf_Bag_size_N hX zq_3 qn216 dX11_write_98 ?_
          replace hf := zchk_some hf
          obtain ⟨h10, hf⟩ := hf
          refine z_aald_mail hX zq_4 h10 dX11_write_101 ?_
          refine z_astore (lv' := [(4, .ref (zB X + (4 + 1 + 3 * (g9 3 1).toNatClampNeg))), (3, .int (g 0 1)), (0, .ref (zB X + 0)), (1, .int v1), (2, .int v2)]) hX dX11_write_102 hn (by decide) rfl ?_
          refine z_aload hX dX11_write_104 0 rfl ?_
          refine z_iload_n hX dX11_write_106 3 rfl ?_
          refine z_iload_n hX dX11_write_107 4 rfl ?_
          replace hf := zb_some hf
          obtain ⟨g11, h11, hf⟩ := hf
          refine z_callV0 hX ok_X3_begin q1089 q823 q824 (zrm_ok hR (by decide)) (ct_X3_begin (zk_el22 zq_4 h10) h11) (zrec_Mail hX (zk_el22 zq_4 h10)) dX11_write_108 rfl rfl ?_
          refine z_iconst hX dX11_write_111 ci_0 ?_
          refine z_istore (lv' := [(5, .int 0), (4, .ref (zB X + (4 + 1 + 3 * (g9 3 1).toNatClampNeg))), (3, .int (g 0 1)), (0, .ref (zB X + 0)), (1, .int v1), (2, .int v2)]) hX dX11_write_112 hn (by decide) rfl ?_
          refine zW.sub [3, 2, 1, 0] rfl ?_
          refine fX11_write_L114_ok hX hT hR hr hn (zk_el22 zq_4 h10) (fun g16 hf => ?_) zFU 0 g11 hf
          · refine z_aload_n hX dX11_write_156 0 rfl ?_
            refine gf_Post_now hX zq_0 q439 dX11_write_157 ?_
            refine gf_World_bag_N hX zq_2 qn273 dX11_write_160 ?_
            refine z_dup hX dX11_write_163 rfl ?_
            refine gf_Bag_size_N hX zq_3 qn216 dX11_write_164 ?_
            refine z_iconst hX dX11_write_167 ci_1 ?_
            refine z_iadd hX dX11_write_168 ?_
            replace hf := zput_some hf
            obtain ⟨g17, eg17, hf⟩ := hf
            refine gp_Bag_size_N hX zq_3 qn216 dX11_write_169 (zW.eqg eg17 ?_)
            refine z_aload_n hX dX11_write_172 0 rfl ?_
            refine gf_Post_now hX zq_0 q439 dX11_write_173 ?_
            refine gf_World_bag_N hX zq_2 qn273 dX11_write_176 ?_
            refine gf_Bag_size_N hX zq_3 qn216 dX11_write_179 ?_
            refine z_iconst hX dX11_write_182 ci_1 ?_
            refine z_isub hX dX11_write_183 ?_
            obtain rfl := Option.some.inj hf
            exact z_iret hX hr rfl (zl rfl) (zl rfl) dX11_write_184
        · replace hf := zif_neg h8 hf
          obtain rfl := Option.some.inj hf
          exact z_throw hX hT hR at_4_124 (i := 11) rfl dX11_write_57 dX11_write_60 dX11_write_61 dX11_write_63 dX11_write_66 (zl rfl) (zl rfl) (zl rfl) (zl rfl)
      · replace hf := zif_neg h7 hf
        obtain rfl := Option.some.inj hf
        exact z_throw hX hT hR at_2_114 (i := 10) rfl dX11_write_32 dX11_write_35 dX11_write_36 dX11_write_38 dX11_write_41 (zl rfl) (zl rfl) (zl rfl) (zl rfl)
set_option maxHeartbeats 4000000 in
set_option maxRecDepth 100000 in
theorem ct_X11_write {E : zE} {v1 : Int32} {v2 : Int32} {g : zM} {r : Except Nat Int32 × zM} (hf : fX11_write v1 v2 g = some r) : zCt yX11_write cX11_write 6 (some .int) 8 2 E [.ref (E.1 + 0), .int v1, .int v2] g (zoI r) := by
  refine zmet (by decide) (zl rfl) (fun X hE hX hT hR hr hn => ?_)
  subst hE
  exact fX11_write_ok hX hT hR hr hn  hf
def fX11_open (v1 : Int32) (v2 : Int32) (g : zM) : Option (Except Nat Int32 × zM) := zb3 (fX11_mailOf v1 g) (fun r_1 g1 => zb (fX4_remember 3 g1) (fun g2 => if (g2 r_1 5) = v2 then zbo v2 (zput g2 r_1 5 v2 (fun g5 => some (.ok 0, g5))) else zbo v2 (zput g2 r_1 5 v2 (fun g7 => some (.ok 1, g7)))))
set_option maxHeartbeats 4000000 in
set_option maxRecDepth 100000 in
theorem fX11_open_ok {X : zX} (hX : zCX X cX11_open RX11) (hT : zNT X) (hR : X.2.2.2.1 = zrm 8 1) (hr : X.2.2.2.2.2.2.2.2.1.sig.returnType = (some .boolean)) (hn : X.2.2.2.2.2.2.2.2.2.1.maxLocals = 5) {v1 : Int32} {v2 : Int32} {g : zM} {r : Except Nat Int32 × zM} (hf : fX11_open v1 v2 g = some r) : zW X (zQ X (zoI r) 1) 0 0 0 [(0, .ref (zB X + 0)), (1, .int v1), (2, .int v2)] [] g := by
  unfold fX11_open at hf
  refine z_aload_n hX dX11_open_0 0 rfl ?_
  refine z_iload_n hX dX11_open_1 1 rfl ?_
  replace hf := zb3_some hf
  rcases hf with ⟨c1, g1, h1, rfl⟩ | ⟨r_1, g1, h1, hf⟩
  · exact z_callV_x hX hT ok_X11_mailOf q974 q976 q25 (zrm_ok hR (by decide)) (ct_X11_mailOf  h1) (zrec_Post hX zq_0) dX11_open_2 rfl rfl (zl rfl) (zl rfl)
  refine z_callV1 hX ok_X11_mailOf q974 q976 q25 (zrm_ok hR (by decide)) (ct_X11_mailOf  h1) (zrec_Post hX zq_0) dX11_open_2 rfl rfl ?_
  refine z_astore_n (lv' := [(3, .ref (zB X + r_1)), (0, .ref (zB X + 0)), (1, .int v1), (2, .int v2)]) hX dX11_open_5 hn (by decide) rfl ?_
  refine z_aload_n hX dX11_open_6 1 rfl ?_
  refine gf_Post_memory hX zq_0 q442 dX11_open_7 ?_
  refine z_aload_n hX dX11_open_10 1 rfl ?_
  refine gf_Post_now hX zq_0 q439 dX11_open_11 ?_
  refine gf_World_bag_N hX zq_2 qn273 dX11_open_14 ?_
  replace hf := zb_some hf
  obtain ⟨g2, h2, hf⟩ := hf
  refine z_callV0 hX ok_X4_remember q1084 q1085 q1086 (zrm_ok hR (by decide)) (ct_X4_remember zq_3 h2) (zrec_Memory hX zq_76) dX11_open_17 rfl rfl ?_
  refine z_aload_n hX dX11_open_20 0 rfl ?_
  refine gf_Mail_open_N hX (fk_X11_mailOf  h1) qn186 dX11_open_21 ?_
  refine z_iload_n hX dX11_open_24 3 rfl ?_
  refine z_icmp_eq hX 32 dX11_open_25 (by decide) (fun h3 => ?_) (fun h3 => ?_)
  · replace hf := zif_pos h3 hf
    refine z_iconst hX dX11_open_32 ci_0 ?_
    refine z_istore (lv' := [(4, .int 0), (3, .ref (zB X + r_1)), (0, .ref (zB X + 0)), (1, .int v1), (2, .int v2)]) hX dX11_open_33 hn (by decide) rfl ?_
    refine z_aload_n hX dX11_open_35 1 rfl ?_
    refine z_iload_n hX dX11_open_36 4 rfl ?_
    replace hf := zbo_some hf
    obtain ⟨h4, hf⟩ := hf
    replace hf := zput_some hf
    obtain ⟨g5, eg5, hf⟩ := hf
    refine gp_Mail_open_N hX (fk_X11_mailOf  h1) qn186 h4 dX11_open_37 (zW.eqg eg5 ?_)
    refine z_iload hX dX11_open_40 0 rfl ?_
    obtain rfl := Option.some.inj hf
    exact z_iret hX hr (zbn (Or.inl rfl)) (zl rfl) (zl rfl) dX11_open_42
  · replace hf := zif_neg h3 hf
    refine z_iconst hX dX11_open_28 ci_1 ?_
    refine z_goto hX 33 dX11_open_29 (by decide) ?_
    refine z_istore (lv' := [(4, .int 1), (3, .ref (zB X + r_1)), (0, .ref (zB X + 0)), (1, .int v1), (2, .int v2)]) hX dX11_open_33 hn (by decide) rfl ?_
    refine z_aload_n hX dX11_open_35 1 rfl ?_
    refine z_iload_n hX dX11_open_36 4 rfl ?_
    replace hf := zbo_some hf
    obtain ⟨h6, hf⟩ := hf
    replace hf := zput_some hf
    obtain ⟨g7, eg7, hf⟩ := hf
    refine gp_Mail_open_N hX (fk_X11_mailOf  h1) qn186 h6 dX11_open_37 (zW.eqg eg7 ?_)
    refine z_iload hX dX11_open_40 0 rfl ?_
    obtain rfl := Option.some.inj hf
    exact z_iret hX hr (zbn (Or.inr rfl)) (zl rfl) (zl rfl) dX11_open_42
set_option maxHeartbeats 4000000 in
set_option maxRecDepth 100000 in
theorem ct_X11_open {E : zE} {v1 : Int32} {v2 : Int32} {g : zM} {r : Except Nat Int32 × zM} (hf : fX11_open v1 v2 g = some r) : zCt yX11_open cX11_open 5 (some .boolean) 8 1 E [.ref (E.1 + 0), .int v1, .int v2] g (zoI r) := by
  refine zmet (by decide) (zl rfl) (fun X hE hX hT hR hr hn => ?_)
  subst hE
  exact fX11_open_ok hX hT hR hr hn  hf
def fX11_copy (v1 : Int32) (g : zM) : Option (Except Nat Int32 × zM) := zb3 (fX11_mailOf v1 g) (fun r_1 g1 => if (g1 3 1) < 8 then zb (fX4_remember 3 g1) (fun g3 => zchk (g3 3 1) 8 (zb (fX3_become (4 + 1 + 3 * (g3 3 1).toNatClampNeg) r_1 g3) (fun g5 => zput g5 (4 + 1 + 3 * (g3 3 1).toNatClampNeg) 5 0 (fun g6 => zput g6 3 1 ((g6 3 1) + 1) (fun g7 => some (.ok ((g7 3 1) - 1), g7)))))) else some (.error 4, g1))
set_option maxHeartbeats 4000000 in
set_option maxRecDepth 100000 in
theorem fX11_copy_ok {X : zX} (hX : zCX X cX11_copy RX11) (hT : zNT X) (hR : X.2.2.2.1 = zrm 8 2) (hr : X.2.2.2.2.2.2.2.2.1.sig.returnType = (some .int)) (hn : X.2.2.2.2.2.2.2.2.2.1.maxLocals = 4) {v1 : Int32} {g : zM} {r : Except Nat Int32 × zM} (hf : fX11_copy v1 g = some r) : zW X (zQ X (zoI r) 2) 0 0 0 [(0, .ref (zB X + 0)), (1, .int v1)] [] g := by
  unfold fX11_copy at hf
  refine z_aload_n hX dX11_copy_0 0 rfl ?_
  refine z_iload_n hX dX11_copy_1 1 rfl ?_
  replace hf := zb3_some hf
  rcases hf with ⟨c1, g1, h1, rfl⟩ | ⟨r_1, g1, h1, hf⟩
  · exact z_callV_x hX hT ok_X11_mailOf q974 q976 q25 (zrm_ok hR (by decide)) (ct_X11_mailOf  h1) (zrec_Post hX zq_0) dX11_copy_2 rfl rfl (zl rfl) (zl rfl)
  refine z_callV1 hX ok_X11_mailOf q974 q976 q25 (zrm_ok hR (by decide)) (ct_X11_mailOf  h1) (zrec_Post hX zq_0) dX11_copy_2 rfl rfl ?_
  refine z_astore_n (lv' := [(2, .ref (zB X + r_1)), (0, .ref (zB X + 0)), (1, .int v1)]) hX dX11_copy_5 hn (by decide) rfl ?_
  refine z_aload_n hX dX11_copy_6 1 rfl ?_
  refine gf_Post_now hX zq_0 q439 dX11_copy_7 ?_
  refine gf_World_bag_N hX zq_2 qn273 dX11_copy_10 ?_
  refine gf_Bag_size_N hX zq_3 qn216 dX11_copy_13 ?_
  refine z_bipush hX dX11_copy_16 cb_8 ?_
  refine z_icmp_lt hX 31 dX11_copy_18 (by decide) (fun h2 => ?_) (fun h2 => ?_)
  · replace hf := zif_pos h2 hf
    refine z_aload_n hX dX11_copy_31 1 rfl ?_
    refine gf_Post_memory hX zq_0 q442 dX11_copy_32 ?_
    refine z_aload_n hX dX11_copy_35 1 rfl ?_
    refine gf_Post_now hX zq_0 q439 dX11_copy_36 ?_
    refine gf_World_bag_N hX zq_2 qn273 dX11_copy_39 ?_
    replace hf := zb_some hf
    obtain ⟨g3, h3, hf⟩ := hf
    refine z_callV0 hX ok_X4_remember q1084 q1085 q1086 (zrm_ok hR (by decide)) (ct_X4_remember zq_3 h3) (zrec_Memory hX zq_76) dX11_copy_42 rfl rfl ?_
    refine z_aload_n hX dX11_copy_45 1 rfl ?_
    refine gf_Post_now hX zq_0 q439 dX11_copy_46 ?_
    refine gf_World_bag_N hX zq_2 qn273 dX11_copy_49 ?_
    refine gf_Bag_mails_N hX zq_3 qn213 dX11_copy_52 ?_
    refine z_aload_n hX dX11_copy_55 1 rfl ?_
    refine gf_Post_now hX zq_0 q439 dX11_copy_56 ?_
    refine gf_World_bag_N hX zq_2 qn273 dX11_copy_59 ?_
    refine gf_Bag_size_N hX zq_3 qn216 dX11_copy_62 ?_
    replace hf := zchk_some hf
    obtain ⟨h4, hf⟩ := hf
    refine z_aald_mail hX zq_4 h4 dX11_copy_65 ?_
    refine z_astore_n (lv' := [(3, .ref (zB X + (4 + 1 + 3 * (g3 3 1).toNatClampNeg))), (2, .ref (zB X + r_1)), (0, .ref (zB X + 0)), (1, .int v1)]) hX dX11_copy_66 hn (by decide) rfl ?_
    refine z_aload_n hX dX11_copy_67 0 rfl ?_
    refine z_aload_n hX dX11_copy_68 1 rfl ?_
    replace hf := zb_some hf
    obtain ⟨g5, h5, hf⟩ := hf
    refine z_callV0 hX ok_X3_become q1105 q511 q512 (zrm_ok hR (by decide)) (ct_X3_become (zk_el22 zq_4 h4) (fk_X11_mailOf  h1) h5) (zrec_Mail hX (zk_el22 zq_4 h4)) dX11_copy_69 rfl rfl ?_
    refine z_aload_n hX dX11_copy_72 0 rfl ?_
    refine z_iconst hX dX11_copy_73 ci_0 ?_
    replace hf := zput_some hf
    obtain ⟨g6, eg6, hf⟩ := hf
    refine gp_Mail_open_N hX (zk_el22 zq_4 h4) qn186 (Or.inl rfl) dX11_copy_74 (zW.eqg eg6 ?_)
    refine z_aload_n hX dX11_copy_77 2 rfl ?_
    refine gf_Post_now hX zq_0 q439 dX11_copy_78 ?_
    refine gf_World_bag_N hX zq_2 qn273 dX11_copy_81 ?_
    refine z_dup hX dX11_copy_84 rfl ?_
    refine gf_Bag_size_N hX zq_3 qn216 dX11_copy_85 ?_
    refine z_iconst hX dX11_copy_88 ci_1 ?_
    refine z_iadd hX dX11_copy_89 ?_
    replace hf := zput_some hf
    obtain ⟨g7, eg7, hf⟩ := hf
    refine gp_Bag_size_N hX zq_3 qn216 dX11_copy_90 (zW.eqg eg7 ?_)
    refine z_aload_n hX dX11_copy_93 2 rfl ?_
    refine gf_Post_now hX zq_0 q439 dX11_copy_94 ?_
    refine gf_World_bag_N hX zq_2 qn273 dX11_copy_97 ?_
    refine gf_Bag_size_N hX zq_3 qn216 dX11_copy_100 ?_
    refine z_iconst hX dX11_copy_103 ci_1 ?_
    refine z_isub hX dX11_copy_104 ?_
    obtain rfl := Option.some.inj hf
    exact z_iret hX hr rfl (zl rfl) (zl rfl) dX11_copy_105
  · replace hf := zif_neg h2 hf
    obtain rfl := Option.some.inj hf
    exact z_throw hX hT hR at_4_124 (i := 11) rfl dX11_copy_21 dX11_copy_24 dX11_copy_25 dX11_copy_27 dX11_copy_30 (zl rfl) (zl rfl) (zl rfl) (zl rfl)
set_option maxHeartbeats 4000000 in
set_option maxRecDepth 100000 in
theorem ct_X11_copy {E : zE} {v1 : Int32} {g : zM} {r : Except Nat Int32 × zM} (hf : fX11_copy v1 g = some r) : zCt yX11_copy cX11_copy 4 (some .int) 8 2 E [.ref (E.1 + 0), .int v1] g (zoI r) := by
  refine zmet (by decide) (zl rfl) (fun X hE hX hT hR hr hn => ?_)
  subst hE
  exact fX11_copy_ok hX hT hR hr hn  hf
def fX3_shorten (h : Nat) (v1 : Int32) (g : zM) : Option zM := if v1 < 0 then some g else if (g h 2) < v1 then some g else zput g h 2 ((g h 2) - v1) (fun g3 => some g3)
set_option maxHeartbeats 4000000 in
set_option maxRecDepth 100000 in
theorem fX3_shorten_ok {X : zX} (hX : zCX X cX3_shorten RX3) (hT : zNT X) (hR : X.2.2.2.1 = zrm 0 0) (hr : X.2.2.2.2.2.2.2.2.1.sig.returnType = none) (hn : X.2.2.2.2.2.2.2.2.2.1.maxLocals = 2) {h : Nat} {v1 : Int32} (hkh : zK h = 3) {g : zM} {r : zM} (hf : fX3_shorten h v1 g = some r) : zW X (zQ X (.inl (none, r)) 0) 0 0 0 [(0, .ref (zB X + h)), (1, .int v1)] [] g := by
  unfold fX3_shorten at hf
  refine z_iload_n hX dX3_shorten_0 1 rfl ?_
  refine z_if_lt hX 22 dX3_shorten_1 (by decide) (fun h1 => ?_) (fun h1 => ?_)
  · replace hf := zif_pos h1 hf
    obtain rfl := Option.some.inj hf
    exact z_vret hX hr (zl rfl) (zl rfl) dX3_shorten_22
  · replace hf := zif_neg h1 hf
    refine z_iload_n hX dX3_shorten_4 1 rfl ?_
    refine z_aload_n hX dX3_shorten_5 0 rfl ?_
    refine gf_Mail_lines hX hkh q173 dX3_shorten_6 ?_
    refine z_icmp_gt hX 22 dX3_shorten_9 (by decide) (fun h2 => ?_) (fun h2 => ?_)
    · replace hf := zif_pos h2 hf
      obtain rfl := Option.some.inj hf
      exact z_vret hX hr (zl rfl) (zl rfl) dX3_shorten_22
    · replace hf := zif_neg h2 hf
      refine z_aload_n hX dX3_shorten_12 0 rfl ?_
      refine z_dup hX dX3_shorten_13 rfl ?_
      refine gf_Mail_lines hX hkh q173 dX3_shorten_14 ?_
      refine z_iload_n hX dX3_shorten_17 1 rfl ?_
      refine z_isub hX dX3_shorten_18 ?_
      replace hf := zput_some hf
      obtain ⟨g3, eg3, hf⟩ := hf
      refine gp_Mail_lines hX hkh q173 dX3_shorten_19 (zW.eqg eg3 ?_)
      obtain rfl := Option.some.inj hf
      exact z_vret hX hr (zl rfl) (zl rfl) dX3_shorten_22
set_option maxHeartbeats 4000000 in
set_option maxRecDepth 100000 in
theorem ct_X3_shorten {E : zE} {h : Nat} {v1 : Int32} (hkh : zK h = 3) {g : zM} {r : zM} (hf : fX3_shorten h v1 g = some r) : zCt yX3_shorten cX3_shorten 2 none 0 0 E [.ref (E.1 + h), .int v1] g (.inl (none, r)) := by
  refine zmet (by decide) (zl rfl) (fun X hE hX hT hR hr hn => ?_)
  subst hE
  exact fX3_shorten_ok hX hT hR hr hn hkh hf
def fX11_prune (v1 : Int32) (v2 : Int32) (g : zM) : Option (Except Nat Int32 × zM) := zb3 (fX11_mailOf v1 g) (fun r_1 g1 => if v2 < 1 then some (.error 2, g1) else if v2 < (g1 r_1 2) then zb (fX4_remember 3 g1) (fun g4 => zb (fX3_shorten r_1 v2 g4) (fun g5 => some (.ok (g5 r_1 2), g5))) else some (.error 2, g1))
set_option maxHeartbeats 4000000 in
set_option maxRecDepth 100000 in
theorem fX11_prune_ok {X : zX} (hX : zCX X cX11_prune RX11) (hT : zNT X) (hR : X.2.2.2.1 = zrm 8 2) (hr : X.2.2.2.2.2.2.2.2.1.sig.returnType = (some .int)) (hn : X.2.2.2.2.2.2.2.2.2.1.maxLocals = 4) {v1 : Int32} {v2 : Int32} {g : zM} {r : Except Nat Int32 × zM} (hf : fX11_prune v1 v2 g = some r) : zW X (zQ X (zoI r) 2) 0 0 0 [(0, .ref (zB X + 0)), (1, .int v1), (2, .int v2)] [] g := by
  unfold fX11_prune at hf
  refine z_aload_n hX dX11_prune_0 0 rfl ?_
  refine z_iload_n hX dX11_prune_1 1 rfl ?_
  replace hf := zb3_some hf
  rcases hf with ⟨c1, g1, h1, rfl⟩ | ⟨r_1, g1, h1, hf⟩
  · exact z_callV_x hX hT ok_X11_mailOf q974 q976 q25 (zrm_ok hR (by decide)) (ct_X11_mailOf  h1) (zrec_Post hX zq_0) dX11_prune_2 rfl rfl (zl rfl) (zl rfl)
  refine z_callV1 hX ok_X11_mailOf q974 q976 q25 (zrm_ok hR (by decide)) (ct_X11_mailOf  h1) (zrec_Post hX zq_0) dX11_prune_2 rfl rfl ?_
  refine z_astore_n (lv' := [(3, .ref (zB X + r_1)), (0, .ref (zB X + 0)), (1, .int v1), (2, .int v2)]) hX dX11_prune_5 hn (by decide) rfl ?_
  refine z_iload_n hX dX11_prune_6 3 rfl ?_
  refine z_iconst hX dX11_prune_7 ci_1 ?_
  refine z_icmp_lt hX 19 dX11_prune_8 (by decide) (fun h2 => ?_) (fun h2 => ?_)
  · replace hf := zif_pos h2 hf
    obtain rfl := Option.some.inj hf
    exact z_throwW hX hT hR at_2_114 (i := 12) rfl dX11_prune_19 dX11_prune_22 dX11_prune_23 dX11_prune_26 dX11_prune_29 (zl rfl) (zl rfl) (zl rfl) (zl rfl)
  · replace hf := zif_neg h2 hf
    refine z_iload_n hX dX11_prune_11 3 rfl ?_
    refine z_aload_n hX dX11_prune_12 0 rfl ?_
    refine gf_Mail_lines_N hX (fk_X11_mailOf  h1) qn176 dX11_prune_13 ?_
    refine z_icmp_lt hX 30 dX11_prune_16 (by decide) (fun h3 => ?_) (fun h3 => ?_)
    · replace hf := zif_pos h3 hf
      refine z_aload_n hX dX11_prune_30 1 rfl ?_
      refine gf_Post_memory hX zq_0 q442 dX11_prune_31 ?_
      refine z_aload_n hX dX11_prune_34 1 rfl ?_
      refine gf_Post_now hX zq_0 q439 dX11_prune_35 ?_
      refine gf_World_bag_N hX zq_2 qn273 dX11_prune_38 ?_
      replace hf := zb_some hf
      obtain ⟨g4, h4, hf⟩ := hf
      refine z_callV0 hX ok_X4_remember q1084 q1085 q1086 (zrm_ok hR (by decide)) (ct_X4_remember zq_3 h4) (zrec_Memory hX zq_76) dX11_prune_41 rfl rfl ?_
      refine z_aload_n hX dX11_prune_44 0 rfl ?_
      refine z_iload_n hX dX11_prune_45 3 rfl ?_
      replace hf := zb_some hf
      obtain ⟨g5, h5, hf⟩ := hf
      refine z_callV0 hX ok_X3_shorten q1114 q1115 q1116 (zrm_ok hR (by decide)) (ct_X3_shorten (fk_X11_mailOf  h1) h5) (zrec_Mail hX (fk_X11_mailOf  h1)) dX11_prune_46 rfl rfl ?_
      refine z_aload_n hX dX11_prune_49 0 rfl ?_
      refine gf_Mail_lines_N hX (fk_X11_mailOf  h1) qn176 dX11_prune_50 ?_
      obtain rfl := Option.some.inj hf
      exact z_iret hX hr rfl (zl rfl) (zl rfl) dX11_prune_53
    · replace hf := zif_neg h3 hf
      obtain rfl := Option.some.inj hf
      exact z_throwW hX hT hR at_2_114 (i := 12) rfl dX11_prune_19 dX11_prune_22 dX11_prune_23 dX11_prune_26 dX11_prune_29 (zl rfl) (zl rfl) (zl rfl) (zl rfl)
set_option maxHeartbeats 4000000 in
set_option maxRecDepth 100000 in
theorem ct_X11_prune {E : zE} {v1 : Int32} {v2 : Int32} {g : zM} {r : Except Nat Int32 × zM} (hf : fX11_prune v1 v2 g = some r) : zCt yX11_prune cX11_prune 4 (some .int) 8 2 E [.ref (E.1 + 0), .int v1, .int v2] g (zoI r) := by
  refine zmet (by decide) (zl rfl) (fun X hE hX hT hR hr hn => ?_)
  subst hE
  exact fX11_prune_ok hX hT hR hr hn  hf
def fX3_drop_L15 (h : Nat) (k59 : zM → Option zM) : Nat → Int32 → zM → Option zM
  | 0, _, _ => none
  | n + 1, v2, g => if (g h 2) ≤ (v2 + 1) then k59 g else zchk (v2 + 1) 24 (zchk v2 24 (zput g (h + 1) v2.toNatClampNeg (g (h + 1) (v2 + 1).toNatClampNeg) (fun g6 => zchk (v2 + 1) 24 (zchk v2 24 (zput g6 (h + 2) v2.toNatClampNeg (g6 (h + 2) (v2 + 1).toNatClampNeg) (fun g9 => fX3_drop_L15 h k59 n (v2 + 1) g9))))))
def fX3_drop (h : Nat) (v1 : Int32) (g : zM) : Option zM := if v1 < 0 then some g else if v1 < (g h 2) then fX3_drop_L15 h (fun g10 => zput g10 h 2 ((g10 h 2) - 1) (fun g11 => some g11)) zFU v1 g else some g
set_option maxHeartbeats 4000000 in
set_option maxRecDepth 100000 in
theorem fX3_drop_L15_ok {X : zX} (hX : zCX X cX3_drop RX3) (hT : zNT X) (hR : X.2.2.2.1 = zrm 0 0) (hr : X.2.2.2.2.2.2.2.2.1.sig.returnType = none) (hn : X.2.2.2.2.2.2.2.2.2.1.maxLocals = 3) {h : Nat} (hkh : zK h = 3) {k59 : zM → Option zM} {r : zM} (hk59 : ∀ (g : zM), k59 g = some r → zW X (zQ X (.inl (none, r)) 0) 0 0 59 [(0, .ref (zB X + h))] [] g) : ∀ (n : Nat) (v2 : Int32) (g : zM), fX3_drop_L15 h k59 n v2 g = some r → zW X (zQ X (.inl (none, r)) 0) 0 0 15 [(0, .ref (zB X + h)), (2, .int v2)] [] g := by
  intro n
  induction n with
  | zero => intro v2 g hf; exact zno hf
  | succ n ih =>
    intro v2 g hf
    rw [fX3_drop_L15] at hf
    refine z_iload_n hX dX3_drop_15 1 rfl ?_
    refine z_iconst hX dX3_drop_16 ci_1 ?_
    refine z_iadd hX dX3_drop_17 ?_
    refine z_aload_n hX dX3_drop_18 0 rfl ?_
    refine gf_Mail_lines hX hkh q173 dX3_drop_19 ?_
    refine z_icmp_ge hX 59 dX3_drop_22 (by decide) (fun h3 => ?_) (fun h3 => ?_)
    · replace hf := zif_pos h3 hf
      refine zW.sub [0] rfl ?_
      exact hk59 g hf
    · replace hf := zif_neg h3 hf
      refine z_aload_n hX dX3_drop_25 0 rfl ?_
      refine gf_Mail_kinds hX hkh q170 dX3_drop_26 ?_
      refine z_iload_n hX dX3_drop_29 1 rfl ?_
      refine z_aload_n hX dX3_drop_30 0 rfl ?_
      refine gf_Mail_kinds hX hkh q170 dX3_drop_31 ?_
      refine z_iload_n hX dX3_drop_34 1 rfl ?_
      refine z_iconst hX dX3_drop_35 ci_1 ?_
      refine z_iadd hX dX3_drop_36 ?_
      replace hf := zchk_some hf
      obtain ⟨h4, hf⟩ := hf
      refine z_iald hX (zk_Mail_kinds hkh) (by decide) (zc_1024 _ _ _) h4 dX3_drop_37 ?_
      replace hf := zchk_some hf
      obtain ⟨h5, hf⟩ := hf
      replace hf := zput_some hf
      obtain ⟨g6, eg6, hf⟩ := hf
      refine z_iast hX (zk_Mail_kinds hkh) (by decide) (zc_1024 _ _) h5 dX3_drop_38 (zW.eqg eg6 ?_)
      refine z_aload_n hX dX3_drop_39 0 rfl ?_
      refine gf_Mail_weeks hX hkh q172 dX3_drop_40 ?_
      refine z_iload_n hX dX3_drop_43 1 rfl ?_
      refine z_aload_n hX dX3_drop_44 0 rfl ?_
      refine gf_Mail_weeks hX hkh q172 dX3_drop_45 ?_
      refine z_iload_n hX dX3_drop_48 1 rfl ?_
      refine z_iconst hX dX3_drop_49 ci_1 ?_
      refine z_iadd hX dX3_drop_50 ?_
      replace hf := zchk_some hf
      obtain ⟨h7, hf⟩ := hf
      refine z_iald hX (zk_Mail_weeks hkh) (by decide) (zc_1024 _ _ _) h7 dX3_drop_51 ?_
      replace hf := zchk_some hf
      obtain ⟨h8, hf⟩ := hf
      replace hf := zput_some hf
      obtain ⟨g9, eg9, hf⟩ := hf
      refine z_iast hX (zk_Mail_weeks hkh) (by decide) (zc_1024 _ _) h8 dX3_drop_52 (zW.eqg eg9 ?_)
      refine z_iincc (lv' := [(2, .int (v2 + 1)), (0, .ref (zB X + h))]) hX dX3_drop_53 hn (by decide) 1 rfl ci_1 rfl ?_
      refine z_goto hX 15 dX3_drop_56 (by decide) ?_
      refine zW.sub [1, 0] rfl ?_
      exact ih (v2 + 1) g9 hf
set_option maxHeartbeats 4000000 in
set_option maxRecDepth 100000 in
theorem fX3_drop_ok {X : zX} (hX : zCX X cX3_drop RX3) (hT : zNT X) (hR : X.2.2.2.1 = zrm 0 0) (hr : X.2.2.2.2.2.2.2.2.1.sig.returnType = none) (hn : X.2.2.2.2.2.2.2.2.2.1.maxLocals = 3) {h : Nat} {v1 : Int32} (hkh : zK h = 3) {g : zM} {r : zM} (hf : fX3_drop h v1 g = some r) : zW X (zQ X (.inl (none, r)) 0) 0 0 0 [(0, .ref (zB X + h)), (1, .int v1)] [] g := by
  unfold fX3_drop at hf
  refine z_iload_n hX dX3_drop_0 1 rfl ?_
  refine z_if_lt hX 12 dX3_drop_1 (by decide) (fun h1 => ?_) (fun h1 => ?_)
  · replace hf := zif_pos h1 hf
    obtain rfl := Option.some.inj hf
    exact z_vret hX hr (zl rfl) (zl rfl) dX3_drop_12
  · replace hf := zif_neg h1 hf
    refine z_iload_n hX dX3_drop_4 1 rfl ?_
    refine z_aload_n hX dX3_drop_5 0 rfl ?_
    refine gf_Mail_lines hX hkh q173 dX3_drop_6 ?_
    refine z_icmp_lt hX 13 dX3_drop_9 (by decide) (fun h2 => ?_) (fun h2 => ?_)
    · replace hf := zif_pos h2 hf
      refine z_iload_n hX dX3_drop_13 1 rfl ?_
      refine z_istore_n (lv' := [(2, .int v1), (0, .ref (zB X + h)), (1, .int v1)]) hX dX3_drop_14 hn (by decide) rfl ?_
      refine zW.sub [1, 0] rfl ?_
      refine fX3_drop_L15_ok hX hT hR hr hn hkh (fun g10 hf => ?_) zFU v1 g hf
      · refine z_aload_n hX dX3_drop_59 0 rfl ?_
        refine z_dup hX dX3_drop_60 rfl ?_
        refine gf_Mail_lines hX hkh q173 dX3_drop_61 ?_
        refine z_iconst hX dX3_drop_64 ci_1 ?_
        refine z_isub hX dX3_drop_65 ?_
        replace hf := zput_some hf
        obtain ⟨g11, eg11, hf⟩ := hf
        refine gp_Mail_lines hX hkh q173 dX3_drop_66 (zW.eqg eg11 ?_)
        obtain rfl := Option.some.inj hf
        exact z_vret hX hr (zl rfl) (zl rfl) dX3_drop_69
    · replace hf := zif_neg h2 hf
      obtain rfl := Option.some.inj hf
      exact z_vret hX hr (zl rfl) (zl rfl) dX3_drop_12
set_option maxHeartbeats 4000000 in
set_option maxRecDepth 100000 in
theorem ct_X3_drop {E : zE} {h : Nat} {v1 : Int32} (hkh : zK h = 3) {g : zM} {r : zM} (hf : fX3_drop h v1 g = some r) : zCt yX3_drop cX3_drop 3 none 0 0 E [.ref (E.1 + h), .int v1] g (.inl (none, r)) := by
  refine zmet (by decide) (zl rfl) (fun X hE hX hT hR hr hn => ?_)
  subst hE
  exact fX3_drop_ok hX hT hR hr hn hkh hf
def fX11_cut (v1 : Int32) (v2 : Int32) (g : zM) : Option (Except Nat Int32 × zM) := zb3 (fX11_mailOf v1 g) (fun r_1 g1 => zb3 (fX11_needLine r_1 v2 g1) (fun _ g2 => if 2 ≤ (g2 r_1 2) then zb (fX4_remember 3 g2) (fun g4 => zb (fX3_kindAt r_1 v2 g4) (fun r_5 => zb (fX3_drop r_1 v2 g4) (fun g6 => some (.ok r_5, g6)))) else some (.error 3, g2)))
set_option maxHeartbeats 4000000 in
set_option maxRecDepth 100000 in
theorem fX11_cut_ok {X : zX} (hX : zCX X cX11_cut RX11) (hT : zNT X) (hR : X.2.2.2.1 = zrm 8 3) (hr : X.2.2.2.2.2.2.2.2.1.sig.returnType = (some .int)) (hn : X.2.2.2.2.2.2.2.2.2.1.maxLocals = 5) {v1 : Int32} {v2 : Int32} {g : zM} {r : Except Nat Int32 × zM} (hf : fX11_cut v1 v2 g = some r) : zW X (zQ X (zoI r) 3) 0 0 0 [(0, .ref (zB X + 0)), (1, .int v1), (2, .int v2)] [] g := by
  unfold fX11_cut at hf
  refine z_aload_n hX dX11_cut_0 0 rfl ?_
  refine z_iload_n hX dX11_cut_1 1 rfl ?_
  replace hf := zb3_some hf
  rcases hf with ⟨c1, g1, h1, rfl⟩ | ⟨r_1, g1, h1, hf⟩
  · exact z_callV_x hX hT ok_X11_mailOf q974 q976 q25 (zrm_ok hR (by decide)) (ct_X11_mailOf  h1) (zrec_Post hX zq_0) dX11_cut_2 rfl rfl (zl rfl) (zl rfl)
  refine z_callV1 hX ok_X11_mailOf q974 q976 q25 (zrm_ok hR (by decide)) (ct_X11_mailOf  h1) (zrec_Post hX zq_0) dX11_cut_2 rfl rfl ?_
  refine z_astore_n (lv' := [(3, .ref (zB X + r_1)), (0, .ref (zB X + 0)), (1, .int v1), (2, .int v2)]) hX dX11_cut_5 hn (by decide) rfl ?_
  refine z_aload_n hX dX11_cut_6 0 rfl ?_
  refine z_iload_n hX dX11_cut_7 3 rfl ?_
  replace hf := zb3_some hf
  rcases hf with ⟨c2, g2, h2, rfl⟩ | ⟨r_2, g2, h2, hf⟩
  · exact z_callS_x hX hT ok_X11_needLine rfl q1022 q1023 (zrm_ok hR (by decide)) (ct_X11_needLine (fk_X11_mailOf  h1) h2) dX11_cut_8 rfl rfl (zl rfl) (zl rfl)
  refine z_callS0 hX ok_X11_needLine rfl q1022 q1023 (zrm_ok hR (by decide)) (ct_X11_needLine (fk_X11_mailOf  h1) h2) dX11_cut_8 rfl rfl ?_
  refine z_aload_n hX dX11_cut_11 0 rfl ?_
  refine gf_Mail_lines_N hX (fk_X11_mailOf  h1) qn176 dX11_cut_12 ?_
  refine z_iconst hX dX11_cut_15 ci_2 ?_
  refine z_icmp_ge hX 30 dX11_cut_16 (by decide) (fun h3 => ?_) (fun h3 => ?_)
  · replace hf := zif_pos h3 hf
    refine z_aload_n hX dX11_cut_30 1 rfl ?_
    refine gf_Post_memory hX zq_0 q442 dX11_cut_31 ?_
    refine z_aload_n hX dX11_cut_34 1 rfl ?_
    refine gf_Post_now hX zq_0 q439 dX11_cut_35 ?_
    refine gf_World_bag_N hX zq_2 qn273 dX11_cut_38 ?_
    replace hf := zb_some hf
    obtain ⟨g4, h4, hf⟩ := hf
    refine z_callV0 hX ok_X4_remember q1084 q1085 q1086 (zrm_ok hR (by decide)) (ct_X4_remember zq_3 h4) (zrec_Memory hX zq_76) dX11_cut_41 rfl rfl ?_
    refine z_aload_n hX dX11_cut_44 0 rfl ?_
    refine z_iload_n hX dX11_cut_45 3 rfl ?_
    replace hf := zb_some hf
    obtain ⟨r_5, h5, hf⟩ := hf
    refine z_callV1 hX ok_X3_kindAt q1030 q522 q523 (zrm_ok hR (by decide)) (ct_X3_kindAt (fk_X11_mailOf  h1) h5) (zrec_Mail hX (fk_X11_mailOf  h1)) dX11_cut_46 rfl rfl ?_
    refine z_istore (lv' := [(4, .int r_5), (3, .ref (zB X + r_1)), (0, .ref (zB X + 0)), (1, .int v1), (2, .int v2)]) hX dX11_cut_49 hn (by decide) rfl ?_
    refine z_aload_n hX dX11_cut_51 1 rfl ?_
    refine z_iload_n hX dX11_cut_52 4 rfl ?_
    replace hf := zb_some hf
    obtain ⟨g6, h6, hf⟩ := hf
    refine z_callV0 hX ok_X3_drop q1142 q1143 q1144 (zrm_ok hR (by decide)) (ct_X3_drop (fk_X11_mailOf  h1) h6) (zrec_Mail hX (fk_X11_mailOf  h1)) dX11_cut_53 rfl rfl ?_
    refine z_iload hX dX11_cut_56 0 rfl ?_
    obtain rfl := Option.some.inj hf
    exact z_iret hX hr rfl (zl rfl) (zl rfl) dX11_cut_58
  · replace hf := zif_neg h3 hf
    obtain rfl := Option.some.inj hf
    exact z_throwW hX hT hR at_3_265 (i := 13) rfl dX11_cut_19 dX11_cut_22 dX11_cut_23 dX11_cut_26 dX11_cut_29 (zl rfl) (zl rfl) (zl rfl) (zl rfl)
set_option maxHeartbeats 4000000 in
set_option maxRecDepth 100000 in
theorem ct_X11_cut {E : zE} {v1 : Int32} {v2 : Int32} {g : zM} {r : Except Nat Int32 × zM} (hf : fX11_cut v1 v2 g = some r) : zCt yX11_cut cX11_cut 5 (some .int) 8 3 E [.ref (E.1 + 0), .int v1, .int v2] g (zoI r) := by
  refine zmet (by decide) (zl rfl) (fun X hE hX hT hR hr hn => ?_)
  subst hE
  exact fX11_cut_ok hX hT hR hr hn  hf
def fX11_heat (v1 : Int32) (v2 : Int32) (g : zM) : Option (Except Nat Int32 × zM) := zb3 (fX11_mailOf v1 g) (fun r_1 g1 => zb (fX4_remember 3 g1) (fun g2 => if (g2 r_1 6) = v2 then zbo v2 (zput g2 r_1 6 v2 (fun g5 => some (.ok 0, g5))) else zbo v2 (zput g2 r_1 6 v2 (fun g7 => some (.ok 1, g7)))))
set_option maxHeartbeats 4000000 in
set_option maxRecDepth 100000 in
theorem fX11_heat_ok {X : zX} (hX : zCX X cX11_heat RX11) (hT : zNT X) (hR : X.2.2.2.1 = zrm 8 1) (hr : X.2.2.2.2.2.2.2.2.1.sig.returnType = (some .boolean)) (hn : X.2.2.2.2.2.2.2.2.2.1.maxLocals = 5) {v1 : Int32} {v2 : Int32} {g : zM} {r : Except Nat Int32 × zM} (hf : fX11_heat v1 v2 g = some r) : zW X (zQ X (zoI r) 1) 0 0 0 [(0, .ref (zB X + 0)), (1, .int v1), (2, .int v2)] [] g := by
  unfold fX11_heat at hf
  refine z_aload_n hX dX11_heat_0 0 rfl ?_
  refine z_iload_n hX dX11_heat_1 1 rfl ?_
  replace hf := zb3_some hf
  rcases hf with ⟨c1, g1, h1, rfl⟩ | ⟨r_1, g1, h1, hf⟩
  · exact z_callV_x hX hT ok_X11_mailOf q974 q976 q25 (zrm_ok hR (by decide)) (ct_X11_mailOf  h1) (zrec_Post hX zq_0) dX11_heat_2 rfl rfl (zl rfl) (zl rfl)
  refine z_callV1 hX ok_X11_mailOf q974 q976 q25 (zrm_ok hR (by decide)) (ct_X11_mailOf  h1) (zrec_Post hX zq_0) dX11_heat_2 rfl rfl ?_
  refine z_astore_n (lv' := [(3, .ref (zB X + r_1)), (0, .ref (zB X + 0)), (1, .int v1), (2, .int v2)]) hX dX11_heat_5 hn (by decide) rfl ?_
  refine z_aload_n hX dX11_heat_6 1 rfl ?_
  refine gf_Post_memory hX zq_0 q442 dX11_heat_7 ?_
  refine z_aload_n hX dX11_heat_10 1 rfl ?_
  refine gf_Post_now hX zq_0 q439 dX11_heat_11 ?_
  refine gf_World_bag_N hX zq_2 qn273 dX11_heat_14 ?_
  replace hf := zb_some hf
  obtain ⟨g2, h2, hf⟩ := hf
  refine z_callV0 hX ok_X4_remember q1084 q1085 q1086 (zrm_ok hR (by decide)) (ct_X4_remember zq_3 h2) (zrec_Memory hX zq_76) dX11_heat_17 rfl rfl ?_
  refine z_aload_n hX dX11_heat_20 0 rfl ?_
  refine gf_Mail_hot_N hX (fk_X11_mailOf  h1) qn193 dX11_heat_21 ?_
  refine z_iload_n hX dX11_heat_24 3 rfl ?_
  refine z_icmp_eq hX 32 dX11_heat_25 (by decide) (fun h3 => ?_) (fun h3 => ?_)
  · replace hf := zif_pos h3 hf
    refine z_iconst hX dX11_heat_32 ci_0 ?_
    refine z_istore (lv' := [(4, .int 0), (3, .ref (zB X + r_1)), (0, .ref (zB X + 0)), (1, .int v1), (2, .int v2)]) hX dX11_heat_33 hn (by decide) rfl ?_
    refine z_aload_n hX dX11_heat_35 1 rfl ?_
    refine z_iload_n hX dX11_heat_36 4 rfl ?_
    replace hf := zbo_some hf
    obtain ⟨h4, hf⟩ := hf
    replace hf := zput_some hf
    obtain ⟨g5, eg5, hf⟩ := hf
    refine gp_Mail_hot_N hX (fk_X11_mailOf  h1) qn193 h4 dX11_heat_37 (zW.eqg eg5 ?_)
    refine z_iload hX dX11_heat_40 0 rfl ?_
    obtain rfl := Option.some.inj hf
    exact z_iret hX hr (zbn (Or.inl rfl)) (zl rfl) (zl rfl) dX11_heat_42
  · replace hf := zif_neg h3 hf
    refine z_iconst hX dX11_heat_28 ci_1 ?_
    refine z_goto hX 33 dX11_heat_29 (by decide) ?_
    refine z_istore (lv' := [(4, .int 1), (3, .ref (zB X + r_1)), (0, .ref (zB X + 0)), (1, .int v1), (2, .int v2)]) hX dX11_heat_33 hn (by decide) rfl ?_
    refine z_aload_n hX dX11_heat_35 1 rfl ?_
    refine z_iload_n hX dX11_heat_36 4 rfl ?_
    replace hf := zbo_some hf
    obtain ⟨h6, hf⟩ := hf
    replace hf := zput_some hf
    obtain ⟨g7, eg7, hf⟩ := hf
    refine gp_Mail_hot_N hX (fk_X11_mailOf  h1) qn193 h6 dX11_heat_37 (zW.eqg eg7 ?_)
    refine z_iload hX dX11_heat_40 0 rfl ?_
    obtain rfl := Option.some.inj hf
    exact z_iret hX hr (zbn (Or.inr rfl)) (zl rfl) (zl rfl) dX11_heat_42
set_option maxHeartbeats 4000000 in
set_option maxRecDepth 100000 in
theorem ct_X11_heat {E : zE} {v1 : Int32} {v2 : Int32} {g : zM} {r : Except Nat Int32 × zM} (hf : fX11_heat v1 v2 g = some r) : zCt yX11_heat cX11_heat 5 (some .boolean) 8 1 E [.ref (E.1 + 0), .int v1, .int v2] g (zoI r) := by
  refine zmet (by decide) (zl rfl) (fun X hE hX hT hR hr hn => ?_)
  subst hE
  exact fX11_heat_ok hX hT hR hr hn  hf
def fX0_drop_L15 (h : Nat) (k48 : zM → Option zM) : Nat → Int32 → zM → Option zM
  | 0, _, _ => none
  | n + 1, v2, g => if (g h 1) ≤ (v2 + 1) then k48 g else zchk v2 8 (zchk (v2 + 1) 8 (zb (fX3_become (h + 1 + 1 + 3 * v2.toNatClampNeg) (h + 1 + 1 + 3 * (v2 + 1).toNatClampNeg) g) (fun g6 => fX0_drop_L15 h k48 n (v2 + 1) g6)))
def fX0_drop (h : Nat) (v1 : Int32) (g : zM) : Option zM := if v1 < 0 then some g else if v1 < (g h 1) then fX0_drop_L15 h (fun g7 => zput g7 h 1 ((g7 h 1) - 1) (fun g8 => some g8)) zFU v1 g else some g
set_option maxHeartbeats 4000000 in
set_option maxRecDepth 100000 in
theorem fX0_drop_L15_ok {X : zX} (hX : zCX X cX0_drop RX0) (hT : zNT X) (hR : X.2.2.2.1 = zrm 6 0) (hr : X.2.2.2.2.2.2.2.2.1.sig.returnType = none) (hn : X.2.2.2.2.2.2.2.2.2.1.maxLocals = 3) {h : Nat} (hkh : zK h = 0) {k48 : zM → Option zM} {r : zM} (hk48 : ∀ (g : zM), k48 g = some r → zW X (zQ X (.inl (none, r)) 0) 0 0 48 [(0, .ref (zB X + h))] [] g) : ∀ (n : Nat) (v2 : Int32) (g : zM), fX0_drop_L15 h k48 n v2 g = some r → zW X (zQ X (.inl (none, r)) 0) 0 0 15 [(0, .ref (zB X + h)), (2, .int v2)] [] g := by
  intro n
  induction n with
  | zero => intro v2 g hf; exact zno hf
  | succ n ih =>
    intro v2 g hf
    rw [fX0_drop_L15] at hf
    refine z_iload_n hX dX0_drop_15 1 rfl ?_
    refine z_iconst hX dX0_drop_16 ci_1 ?_
    refine z_iadd hX dX0_drop_17 ?_
    refine z_aload_n hX dX0_drop_18 0 rfl ?_
    refine gf_Bag_size hX hkh q214 dX0_drop_19 ?_
    refine z_icmp_ge hX 48 dX0_drop_22 (by decide) (fun h3 => ?_) (fun h3 => ?_)
    · replace hf := zif_pos h3 hf
      refine zW.sub [0] rfl ?_
      exact hk48 g hf
    · replace hf := zif_neg h3 hf
      refine z_aload_n hX dX0_drop_25 0 rfl ?_
      refine gf_Bag_mails hX hkh q211 dX0_drop_26 ?_
      refine z_iload_n hX dX0_drop_29 1 rfl ?_
      replace hf := zchk_some hf
      obtain ⟨h4, hf⟩ := hf
      refine z_aald_mail hX (zk_Bag_mails hkh) h4 dX0_drop_30 ?_
      refine z_aload_n hX dX0_drop_31 0 rfl ?_
      refine gf_Bag_mails hX hkh q211 dX0_drop_32 ?_
      refine z_iload_n hX dX0_drop_35 1 rfl ?_
      refine z_iconst hX dX0_drop_36 ci_1 ?_
      refine z_iadd hX dX0_drop_37 ?_
      replace hf := zchk_some hf
      obtain ⟨h5, hf⟩ := hf
      refine z_aald_mail hX (zk_Bag_mails hkh) h5 dX0_drop_38 ?_
      replace hf := zb_some hf
      obtain ⟨g6, h6, hf⟩ := hf
      refine z_callV0 hX ok_X3_become q607 q511 q512 (zrm_ok hR (by decide)) (ct_X3_become (zk_el22 (zk_Bag_mails hkh) h4) (zk_el22 (zk_Bag_mails hkh) h5) h6) (zrec_Mail hX (zk_el22 (zk_Bag_mails hkh) h4)) dX0_drop_39 rfl rfl ?_
      refine z_iincc (lv' := [(2, .int (v2 + 1)), (0, .ref (zB X + h))]) hX dX0_drop_42 hn (by decide) 1 rfl ci_1 rfl ?_
      refine z_goto hX 15 dX0_drop_45 (by decide) ?_
      refine zW.sub [1, 0] rfl ?_
      exact ih (v2 + 1) g6 hf
set_option maxHeartbeats 4000000 in
set_option maxRecDepth 100000 in
theorem fX0_drop_ok {X : zX} (hX : zCX X cX0_drop RX0) (hT : zNT X) (hR : X.2.2.2.1 = zrm 6 0) (hr : X.2.2.2.2.2.2.2.2.1.sig.returnType = none) (hn : X.2.2.2.2.2.2.2.2.2.1.maxLocals = 3) {h : Nat} {v1 : Int32} (hkh : zK h = 0) {g : zM} {r : zM} (hf : fX0_drop h v1 g = some r) : zW X (zQ X (.inl (none, r)) 0) 0 0 0 [(0, .ref (zB X + h)), (1, .int v1)] [] g := by
  unfold fX0_drop at hf
  refine z_iload_n hX dX0_drop_0 1 rfl ?_
  refine z_if_lt hX 12 dX0_drop_1 (by decide) (fun h1 => ?_) (fun h1 => ?_)
  · replace hf := zif_pos h1 hf
    obtain rfl := Option.some.inj hf
    exact z_vret hX hr (zl rfl) (zl rfl) dX0_drop_12
  · replace hf := zif_neg h1 hf
    refine z_iload_n hX dX0_drop_4 1 rfl ?_
    refine z_aload_n hX dX0_drop_5 0 rfl ?_
    refine gf_Bag_size hX hkh q214 dX0_drop_6 ?_
    refine z_icmp_lt hX 13 dX0_drop_9 (by decide) (fun h2 => ?_) (fun h2 => ?_)
    · replace hf := zif_pos h2 hf
      refine z_iload_n hX dX0_drop_13 1 rfl ?_
      refine z_istore_n (lv' := [(2, .int v1), (0, .ref (zB X + h)), (1, .int v1)]) hX dX0_drop_14 hn (by decide) rfl ?_
      refine zW.sub [1, 0] rfl ?_
      refine fX0_drop_L15_ok hX hT hR hr hn hkh (fun g7 hf => ?_) zFU v1 g hf
      · refine z_aload_n hX dX0_drop_48 0 rfl ?_
        refine z_dup hX dX0_drop_49 rfl ?_
        refine gf_Bag_size hX hkh q214 dX0_drop_50 ?_
        refine z_iconst hX dX0_drop_53 ci_1 ?_
        refine z_isub hX dX0_drop_54 ?_
        replace hf := zput_some hf
        obtain ⟨g8, eg8, hf⟩ := hf
        refine gp_Bag_size hX hkh q214 dX0_drop_55 (zW.eqg eg8 ?_)
        obtain rfl := Option.some.inj hf
        exact z_vret hX hr (zl rfl) (zl rfl) dX0_drop_58
    · replace hf := zif_neg h2 hf
      obtain rfl := Option.some.inj hf
      exact z_vret hX hr (zl rfl) (zl rfl) dX0_drop_12
set_option maxHeartbeats 4000000 in
set_option maxRecDepth 100000 in
theorem ct_X0_drop {E : zE} {h : Nat} {v1 : Int32} (hkh : zK h = 0) {g : zM} {r : zM} (hf : fX0_drop h v1 g = some r) : zCt yX0_drop cX0_drop 3 none 6 0 E [.ref (E.1 + h), .int v1] g (.inl (none, r)) := by
  refine zmet (by decide) (zl rfl) (fun X hE hX hT hR hr hn => ?_)
  subst hE
  exact fX0_drop_ok hX hT hR hr hn hkh hf
def fX11_burn (v1 : Int32) (g : zM) : Option (Except Nat Int32 × zM) := zb3 (fX11_needLetter v1 g) (fun _ g1 => zb (fX4_remember 3 g1) (fun g2 => zb (fX0_drop 3 v1 g2) (fun g3 => some (.ok (g3 3 1), g3))))
set_option maxHeartbeats 4000000 in
set_option maxRecDepth 100000 in
theorem fX11_burn_ok {X : zX} (hX : zCX X cX11_burn RX11) (hT : zNT X) (hR : X.2.2.2.1 = zrm 8 1) (hr : X.2.2.2.2.2.2.2.2.1.sig.returnType = (some .int)) (hn : X.2.2.2.2.2.2.2.2.2.1.maxLocals = 2) {v1 : Int32} {g : zM} {r : Except Nat Int32 × zM} (hf : fX11_burn v1 g = some r) : zW X (zQ X (zoI r) 1) 0 0 0 [(0, .ref (zB X + 0)), (1, .int v1)] [] g := by
  unfold fX11_burn at hf
  refine z_aload_n hX dX11_burn_0 0 rfl ?_
  refine z_iload_n hX dX11_burn_1 1 rfl ?_
  replace hf := zb3_some hf
  rcases hf with ⟨c1, g1, h1, rfl⟩ | ⟨r_1, g1, h1, hf⟩
  · exact z_callV_x hX hT ok_X11_needLetter q978 q980 q26 (zrm_ok hR (by decide)) (ct_X11_needLetter  h1) (zrec_Post hX zq_0) dX11_burn_2 rfl rfl (zl rfl) (zl rfl)
  refine z_callV0 hX ok_X11_needLetter q978 q980 q26 (zrm_ok hR (by decide)) (ct_X11_needLetter  h1) (zrec_Post hX zq_0) dX11_burn_2 rfl rfl ?_
  refine z_aload_n hX dX11_burn_5 0 rfl ?_
  refine gf_Post_memory hX zq_0 q442 dX11_burn_6 ?_
  refine z_aload_n hX dX11_burn_9 0 rfl ?_
  refine gf_Post_now hX zq_0 q439 dX11_burn_10 ?_
  refine gf_World_bag_N hX zq_2 qn273 dX11_burn_13 ?_
  replace hf := zb_some hf
  obtain ⟨g2, h2, hf⟩ := hf
  refine z_callV0 hX ok_X4_remember q1084 q1085 q1086 (zrm_ok hR (by decide)) (ct_X4_remember zq_3 h2) (zrec_Memory hX zq_76) dX11_burn_16 rfl rfl ?_
  refine z_aload_n hX dX11_burn_19 0 rfl ?_
  refine gf_Post_now hX zq_0 q439 dX11_burn_20 ?_
  refine gf_World_bag_N hX zq_2 qn273 dX11_burn_23 ?_
  refine z_iload_n hX dX11_burn_26 1 rfl ?_
  replace hf := zb_some hf
  obtain ⟨g3, h3, hf⟩ := hf
  refine z_callV0 hX ok_X0_drop q1160 q1161 q1162 (zrm_ok hR (by decide)) (ct_X0_drop zq_3 h3) (zrec_Bag hX zq_3) dX11_burn_27 rfl rfl ?_
  refine z_aload_n hX dX11_burn_30 0 rfl ?_
  refine gf_Post_now hX zq_0 q439 dX11_burn_31 ?_
  refine gf_World_bag_N hX zq_2 qn273 dX11_burn_34 ?_
  refine gf_Bag_size_N hX zq_3 qn216 dX11_burn_37 ?_
  obtain rfl := Option.some.inj hf
  exact z_iret hX hr rfl (zl rfl) (zl rfl) dX11_burn_40
set_option maxHeartbeats 4000000 in
set_option maxRecDepth 100000 in
theorem ct_X11_burn {E : zE} {v1 : Int32} {g : zM} {r : Except Nat Int32 × zM} (hf : fX11_burn v1 g = some r) : zCt yX11_burn cX11_burn 2 (some .int) 8 1 E [.ref (E.1 + 0), .int v1] g (zoI r) := by
  refine zmet (by decide) (zl rfl) (fun X hE hX hT hR hr hn => ?_)
  subst hE
  exact fX11_burn_ok hX hT hR hr hn  hf
def fX0_draw (h : Nat) (g : zM) : Option (Int32 × zM) := zput g h 3 ((1103515245 * (g h 3)) + 12345) (fun g1 => some ((((g1 h 3).toUInt32 >>> ((16 : Int32).toUInt32 &&& Int32.toUInt32 31)).toInt32) &&& 32767, g1))
set_option maxHeartbeats 4000000 in
set_option maxRecDepth 100000 in
theorem fX0_draw_ok {X : zX} (hX : zCX X cX0_draw RX0) (hT : zNT X) (hR : X.2.2.2.1 = zrm 0 0) (hr : X.2.2.2.2.2.2.2.2.1.sig.returnType = (some .int)) (hn : X.2.2.2.2.2.2.2.2.2.1.maxLocals = 1) {h : Nat} (hkh : zK h = 0) {g : zM} {r : Int32 × zM} (hf : fX0_draw h g = some r) : zW X (zQ X (.inl (some (.int r.1), r.2)) 0) 0 0 0 [(0, .ref (zB X + h))] [] g := by
  unfold fX0_draw at hf
  refine z_aload_n hX dX0_draw_0 0 rfl ?_
  refine z_ldc hX dX0_draw_1 q1185 ?_
  refine z_aload_n hX dX0_draw_3 0 rfl ?_
  refine gf_Bag_seed hX hkh q220 dX0_draw_4 ?_
  refine z_imul hX dX0_draw_7 ?_
  refine z_sipush hX dX0_draw_8 cs_12345 ?_
  refine z_iadd hX dX0_draw_11 ?_
  replace hf := zput_some hf
  obtain ⟨g1, eg1, hf⟩ := hf
  refine gp_Bag_seed hX hkh q220 dX0_draw_12 (zW.eqg eg1 ?_)
  refine z_aload_n hX dX0_draw_15 0 rfl ?_
  refine gf_Bag_seed hX hkh q220 dX0_draw_16 ?_
  refine z_bipush hX dX0_draw_19 cb_16 ?_
  refine z_iushr hX dX0_draw_21 ?_
  refine z_sipush hX dX0_draw_22 cs_32767 ?_
  refine z_iand hX dX0_draw_25 ?_
  obtain rfl := Option.some.inj hf
  exact z_iret hX hr rfl (zl rfl) (zl rfl) dX0_draw_26
set_option maxHeartbeats 4000000 in
set_option maxRecDepth 100000 in
theorem ct_X0_draw {E : zE} {h : Nat} (hkh : zK h = 0) {g : zM} {r : Int32 × zM} (hf : fX0_draw h g = some r) : zCt yX0_draw cX0_draw 1 (some .int) 0 0 E [.ref (E.1 + h)] g (.inl (some (.int r.1), r.2)) := by
  refine zmet (by decide) (zl rfl) (fun X hE hX hT hR hr hn => ?_)
  subst hE
  exact fX0_draw_ok hX hT hR hr hn hkh hf
def fX0_growOne (h : Nat) (r1 : Nat) (r2 : Nat) (v3 : Int32) (g : zM) : Option (Int32 × zM) := zb2 (fX1_growth r2 r1 (g h 2) g) (fun r_1 g1 => if r_1 = ((-1)) then some (0, g1) else zb2 (fX0_draw h g1) (fun r_3 g3 => if v3 ≤ (r_3 - r_3 / 100 * 100) then zb (fX3_add r1 r_1 (g3 h 2) g3) (fun g5 => some (1, g5)) else zb2 (fX0_draw h g3) (fun r_6 g6 => zb (fX3_add r1 (r_6 - r_6 / 12 * 12) (g6 h 2) g6) (fun g7 => some (1, g7)))))
set_option maxHeartbeats 4000000 in
set_option maxRecDepth 100000 in
theorem fX0_growOne_ok {X : zX} (hX : zCX X cX0_growOne RX0) (hT : zNT X) (hR : X.2.2.2.1 = zrm 4 0) (hr : X.2.2.2.2.2.2.2.2.1.sig.returnType = (some .int)) (hn : X.2.2.2.2.2.2.2.2.2.1.maxLocals = 5) {h : Nat} {r1 : Nat} {r2 : Nat} {v3 : Int32} (hkh : zK h = 0) (hk1 : zK r1 = 3) (hk2 : zK r2 = 1) {g : zM} {r : Int32 × zM} (hf : fX0_growOne h r1 r2 v3 g = some r) : zW X (zQ X (.inl (some (.int r.1), r.2)) 0) 0 0 0 [(0, .ref (zB X + h)), (1, .ref (zB X + r1)), (2, .ref (zB X + r2)), (3, .int v3)] [] g := by
  unfold fX0_growOne at hf
  refine z_aload_n hX dX0_growOne_0 2 rfl ?_
  refine z_aload_n hX dX0_growOne_1 1 rfl ?_
  refine z_aload_n hX dX0_growOne_2 0 rfl ?_
  refine gf_Bag_week hX hkh q217 dX0_growOne_3 ?_
  replace hf := zb2_some hf
  obtain ⟨r_1, g1, h1, hf⟩ := hf
  refine z_callV1 hX ok_X1_growth q1180 q530 q531 (zrm_ok hR (by decide)) (ct_X1_growth hk2 hk1 h1) (zrec_Law hX hk2) dX0_growOne_6 rfl rfl ?_
  refine z_istore (lv' := [(4, .int r_1), (0, .ref (zB X + h)), (1, .ref (zB X + r1)), (2, .ref (zB X + r2)), (3, .int v3)]) hX dX0_growOne_9 hn (by decide) rfl ?_
  refine z_iload hX dX0_growOne_11 0 rfl ?_
  refine z_iconst hX dX0_growOne_13 ci_m1 ?_
  refine z_icmp_ne hX 19 dX0_growOne_14 (by decide) (fun h2 => ?_) (fun h2 => ?_)
  · replace hf := zif_neg h2 hf
    refine z_aload_n hX dX0_growOne_19 1 rfl ?_
    replace hf := zb2_some hf
    obtain ⟨r_3, g3, h3, hf⟩ := hf
    refine z_callV1 hX ok_X0_draw q1181 q1183 q30 (zrm_ok hR (by decide)) (ct_X0_draw hkh h3) (zrec_Bag hX hkh) dX0_growOne_20 rfl rfl ?_
    refine z_bipush hX dX0_growOne_23 cb_100 ?_
    refine z_irem hX dX0_growOne_25 (by decide) ?_
    refine z_iload_n hX dX0_growOne_26 4 rfl ?_
    refine z_icmp_ge hX 39 dX0_growOne_27 (by decide) (fun h4 => ?_) (fun h4 => ?_)
    · replace hf := zif_pos h4 hf
      refine z_aload_n hX dX0_growOne_39 2 rfl ?_
      refine z_iload hX dX0_growOne_40 0 rfl ?_
      refine z_aload_n hX dX0_growOne_42 1 rfl ?_
      refine gf_Bag_week hX hkh q217 dX0_growOne_43 ?_
      replace hf := zb_some hf
      obtain ⟨g5, h5, hf⟩ := hf
      refine z_callV0 hX ok_X3_add q1186 q553 q554 (zrm_ok hR (by decide)) (ct_X3_add hk1 h5) (zrec_Mail hX hk1) dX0_growOne_46 rfl rfl ?_
      refine z_iconst hX dX0_growOne_49 ci_1 ?_
      obtain rfl := Option.some.inj hf
      exact z_iret hX hr rfl (zl rfl) (zl rfl) dX0_growOne_50
    · replace hf := zif_neg h4 hf
      refine z_aload_n hX dX0_growOne_30 1 rfl ?_
      replace hf := zb2_some hf
      obtain ⟨r_6, g6, h6, hf⟩ := hf
      refine z_callV1 hX ok_X0_draw q1181 q1183 q30 (zrm_ok hR (by decide)) (ct_X0_draw hkh h6) (zrec_Bag hX hkh) dX0_growOne_31 rfl rfl ?_
      refine z_bipush hX dX0_growOne_34 cb_12 ?_
      refine z_irem hX dX0_growOne_36 (by decide) ?_
      refine z_istore (lv' := [(4, .int (r_6 - r_6 / 12 * 12)), (0, .ref (zB X + h)), (1, .ref (zB X + r1)), (2, .ref (zB X + r2)), (3, .int v3)]) hX dX0_growOne_37 hn (by decide) rfl ?_
      refine z_aload_n hX dX0_growOne_39 2 rfl ?_
      refine z_iload hX dX0_growOne_40 0 rfl ?_
      refine z_aload_n hX dX0_growOne_42 1 rfl ?_
      refine gf_Bag_week hX hkh q217 dX0_growOne_43 ?_
      replace hf := zb_some hf
      obtain ⟨g7, h7, hf⟩ := hf
      refine z_callV0 hX ok_X3_add q1186 q553 q554 (zrm_ok hR (by decide)) (ct_X3_add hk1 h7) (zrec_Mail hX hk1) dX0_growOne_46 rfl rfl ?_
      refine z_iconst hX dX0_growOne_49 ci_1 ?_
      obtain rfl := Option.some.inj hf
      exact z_iret hX hr rfl (zl rfl) (zl rfl) dX0_growOne_50
  · replace hf := zif_pos h2 hf
    refine z_iconst hX dX0_growOne_17 ci_0 ?_
    obtain rfl := Option.some.inj hf
    exact z_iret hX hr rfl (zl rfl) (zl rfl) dX0_growOne_18
set_option maxHeartbeats 4000000 in
set_option maxRecDepth 100000 in
theorem ct_X0_growOne {E : zE} {h : Nat} {r1 : Nat} {r2 : Nat} {v3 : Int32} (hkh : zK h = 0) (hk1 : zK r1 = 3) (hk2 : zK r2 = 1) {g : zM} {r : Int32 × zM} (hf : fX0_growOne h r1 r2 v3 g = some r) : zCt yX0_growOne cX0_growOne 5 (some .int) 4 0 E [.ref (E.1 + h), .ref (E.1 + r1), .ref (E.1 + r2), .int v3] g (.inl (some (.int r.1), r.2)) := by
  refine zmet (by decide) (zl rfl) (fun X hE hX hT hR hr hn => ?_)
  subst hE
  exact fX0_growOne_ok hX hT hR hr hn hkh hk1 hk2 hf
def fX0_passWeek_L5 (h : Nat) (r1 : Nat) (v2 : Int32) (k65 : Int32 → zM → Option (Int32 × zM)) : Nat → Int32 → Int32 → zM → Option (Int32 × zM)
  | 0, _, _, _ => none
  | n + 1, v3, v4, g => if (g h 1) ≤ v4 then k65 v3 g else zchk v4 8 (zb2 (fX0_growOne h (h + 1 + 1 + 3 * v4.toNatClampNeg) r1 v2 g) (fun r_3 g3 => zchk v4 8 (if (g3 (h + 1 + 1 + 3 * v4.toNatClampNeg) 6) = 0 then fX0_passWeek_L5 h r1 v2 k65 n (v3 + r_3) (v4 + 1) g3 else zchk v4 8 (zb2 (fX0_growOne h (h + 1 + 1 + 3 * v4.toNatClampNeg) r1 v2 g3) (fun r_7 g7 => fX0_passWeek_L5 h r1 v2 k65 n ((v3 + r_3) + r_7) (v4 + 1) g7)))))
def fX0_passWeek (h : Nat) (r1 : Nat) (v2 : Int32) (g : zM) : Option (Int32 × zM) := fX0_passWeek_L5 h r1 v2 (fun v3_8 g8 => zput g8 h 2 (if 9999 < (g8 h 2) + 1 then 9999 else (g8 h 2) + 1) (fun g9 => some (v3_8, g9))) zFU 0 0 g
set_option maxHeartbeats 4000000 in
set_option maxRecDepth 100000 in
theorem fX0_passWeek_L5_ok {X : zX} (hX : zCX X cX0_passWeek RX0) (hT : zNT X) (hR : X.2.2.2.1 = zrm 5 0) (hr : X.2.2.2.2.2.2.2.2.1.sig.returnType = (some .int)) (hn : X.2.2.2.2.2.2.2.2.2.1.maxLocals = 5) {h : Nat} {r1 : Nat} {v2 : Int32} (hkh : zK h = 0) (hkr1 : zK r1 = 1) {k65 : Int32 → zM → Option (Int32 × zM)} {r : Int32 × zM} (hk65 : ∀ (v3 : Int32) (g : zM), k65 v3 g = some r → zW X (zQ X (.inl (some (.int r.1), r.2)) 0) 0 0 65 [(0, .ref (zB X + h)), (3, .int v3)] [] g) : ∀ (n : Nat) (v3 : Int32) (v4 : Int32) (g : zM), fX0_passWeek_L5 h r1 v2 k65 n v3 v4 g = some r → zW X (zQ X (.inl (some (.int r.1), r.2)) 0) 0 0 5 [(0, .ref (zB X + h)), (1, .ref (zB X + r1)), (2, .int v2), (3, .int v3), (4, .int v4)] [] g := by
  intro n
  induction n with
  | zero => intro v3 v4 g hf; exact zno hf
  | succ n ih =>
    intro v3 v4 g hf
    rw [fX0_passWeek_L5] at hf
    refine z_iload hX dX0_passWeek_5 4 rfl ?_
    refine z_aload_n hX dX0_passWeek_7 0 rfl ?_
    refine gf_Bag_size hX hkh q214 dX0_passWeek_8 ?_
    refine z_icmp_ge hX 65 dX0_passWeek_11 (by decide) (fun h1 => ?_) (fun h1 => ?_)
    · replace hf := zif_pos h1 hf
      refine zW.sub [0, 3] rfl ?_
      exact hk65 v3 g hf
    · replace hf := zif_neg h1 hf
      refine z_iload_n hX dX0_passWeek_14 3 rfl ?_
      refine z_aload_n hX dX0_passWeek_15 0 rfl ?_
      refine z_aload_n hX dX0_passWeek_16 0 rfl ?_
      refine gf_Bag_mails hX hkh q211 dX0_passWeek_17 ?_
      refine z_iload hX dX0_passWeek_20 4 rfl ?_
      replace hf := zchk_some hf
      obtain ⟨h2, hf⟩ := hf
      refine z_aald_mail hX (zk_Bag_mails hkh) h2 dX0_passWeek_22 ?_
      refine z_aload_n hX dX0_passWeek_23 1 rfl ?_
      refine z_iload_n hX dX0_passWeek_24 2 rfl ?_
      replace hf := zb2_some hf
      obtain ⟨r_3, g3, h3, hf⟩ := hf
      refine z_callV1 hX ok_X0_growOne q1176 q1178 q29 (zrm_ok hR (by decide)) (ct_X0_growOne hkh (zk_el22 (zk_Bag_mails hkh) h2) hkr1 h3) (zrec_Bag hX hkh) dX0_passWeek_25 rfl rfl ?_
      refine z_iadd hX dX0_passWeek_28 ?_
      refine z_istore_n (lv' := [(3, .int (v3 + r_3)), (0, .ref (zB X + h)), (1, .ref (zB X + r1)), (2, .int v2), (4, .int v4)]) hX dX0_passWeek_29 hn (by decide) rfl ?_
      refine z_aload_n hX dX0_passWeek_30 1 rfl ?_
      refine gf_Bag_mails hX hkh q211 dX0_passWeek_31 ?_
      refine z_iload hX dX0_passWeek_34 4 rfl ?_
      replace hf := zchk_some hf
      obtain ⟨h4, hf⟩ := hf
      refine z_aald_mail hX (zk_Bag_mails hkh) h4 dX0_passWeek_36 ?_
      refine gf_Mail_hot_N hX (zk_el22 (zk_Bag_mails hkh) h4) qn190 dX0_passWeek_37 ?_
      refine z_if_eq hX 59 dX0_passWeek_40 (by decide) (fun h5 => ?_) (fun h5 => ?_)
      · replace hf := zif_pos h5 hf
        refine z_iincc (lv' := [(4, .int (v4 + 1)), (3, .int (v3 + r_3)), (0, .ref (zB X + h)), (1, .ref (zB X + r1)), (2, .int v2)]) hX dX0_passWeek_59 hn (by decide) 4 rfl ci_1 rfl ?_
        refine z_goto hX 5 dX0_passWeek_62 (by decide) ?_
        refine zW.sub [2, 3, 4, 1, 0] rfl ?_
        exact ih (v3 + r_3) (v4 + 1) g3 hf
      · replace hf := zif_neg h5 hf
        refine z_iload_n hX dX0_passWeek_43 0 rfl ?_
        refine z_aload_n hX dX0_passWeek_44 1 rfl ?_
        refine z_aload_n hX dX0_passWeek_45 1 rfl ?_
        refine gf_Bag_mails hX hkh q211 dX0_passWeek_46 ?_
        refine z_iload hX dX0_passWeek_49 4 rfl ?_
        replace hf := zchk_some hf
        obtain ⟨h6, hf⟩ := hf
        refine z_aald_mail hX (zk_Bag_mails hkh) h6 dX0_passWeek_51 ?_
        refine z_aload_n hX dX0_passWeek_52 2 rfl ?_
        refine z_iload_n hX dX0_passWeek_53 3 rfl ?_
        replace hf := zb2_some hf
        obtain ⟨r_7, g7, h7, hf⟩ := hf
        refine z_callV1 hX ok_X0_growOne q1176 q1178 q29 (zrm_ok hR (by decide)) (ct_X0_growOne hkh (zk_el22 (zk_Bag_mails hkh) h6) hkr1 h7) (zrec_Bag hX hkh) dX0_passWeek_54 rfl rfl ?_
        refine z_iadd hX dX0_passWeek_57 ?_
        refine z_istore_n (lv' := [(3, .int ((v3 + r_3) + r_7)), (0, .ref (zB X + h)), (1, .ref (zB X + r1)), (2, .int v2), (4, .int v4)]) hX dX0_passWeek_58 hn (by decide) rfl ?_
        refine z_iincc (lv' := [(4, .int (v4 + 1)), (3, .int ((v3 + r_3) + r_7)), (0, .ref (zB X + h)), (1, .ref (zB X + r1)), (2, .int v2)]) hX dX0_passWeek_59 hn (by decide) 4 rfl ci_1 rfl ?_
        refine z_goto hX 5 dX0_passWeek_62 (by decide) ?_
        refine zW.sub [2, 3, 4, 1, 0] rfl ?_
        exact ih ((v3 + r_3) + r_7) (v4 + 1) g7 hf
set_option maxHeartbeats 4000000 in
set_option maxRecDepth 100000 in
theorem fX0_passWeek_ok {X : zX} (hX : zCX X cX0_passWeek RX0) (hT : zNT X) (hR : X.2.2.2.1 = zrm 5 0) (hr : X.2.2.2.2.2.2.2.2.1.sig.returnType = (some .int)) (hn : X.2.2.2.2.2.2.2.2.2.1.maxLocals = 5) {h : Nat} {r1 : Nat} {v2 : Int32} (hkh : zK h = 0) (hk1 : zK r1 = 1) {g : zM} {r : Int32 × zM} (hf : fX0_passWeek h r1 v2 g = some r) : zW X (zQ X (.inl (some (.int r.1), r.2)) 0) 0 0 0 [(0, .ref (zB X + h)), (1, .ref (zB X + r1)), (2, .int v2)] [] g := by
  unfold fX0_passWeek at hf
  refine z_iconst hX dX0_passWeek_0 ci_0 ?_
  refine z_istore_n (lv' := [(3, .int 0), (0, .ref (zB X + h)), (1, .ref (zB X + r1)), (2, .int v2)]) hX dX0_passWeek_1 hn (by decide) rfl ?_
  refine z_iconst hX dX0_passWeek_2 ci_0 ?_
  refine z_istore (lv' := [(4, .int 0), (3, .int 0), (0, .ref (zB X + h)), (1, .ref (zB X + r1)), (2, .int v2)]) hX dX0_passWeek_3 hn (by decide) rfl ?_
  refine zW.sub [2, 3, 4, 1, 0] rfl ?_
  refine fX0_passWeek_L5_ok hX hT hR hr hn hkh hk1 (fun v3_8 g8 hf => ?_) zFU 0 0 g hf
  · refine z_aload_n hX dX0_passWeek_65 0 rfl ?_
    refine z_aload_n hX dX0_passWeek_66 0 rfl ?_
    refine gf_Bag_week hX hkh q217 dX0_passWeek_67 ?_
    refine z_iconst hX dX0_passWeek_70 ci_1 ?_
    refine z_iadd hX dX0_passWeek_71 ?_
    refine z_sipush hX dX0_passWeek_72 cs_9999 ?_
    refine z_min hX hR ⟨zl rfl, zl rfl⟩ q1187 dX0_passWeek_75 (zl rfl) ?_
    replace hf := zput_some hf
    obtain ⟨g9, eg9, hf⟩ := hf
    refine gp_Bag_week hX hkh q217 dX0_passWeek_78 (zW.eqg eg9 ?_)
    refine z_iload_n hX dX0_passWeek_81 1 rfl ?_
    obtain rfl := Option.some.inj hf
    exact z_iret hX hr rfl (zl rfl) (zl rfl) dX0_passWeek_82
set_option maxHeartbeats 4000000 in
set_option maxRecDepth 100000 in
theorem ct_X0_passWeek {E : zE} {h : Nat} {r1 : Nat} {v2 : Int32} (hkh : zK h = 0) (hk1 : zK r1 = 1) {g : zM} {r : Int32 × zM} (hf : fX0_passWeek h r1 v2 g = some r) : zCt yX0_passWeek cX0_passWeek 5 (some .int) 5 0 E [.ref (E.1 + h), .ref (E.1 + r1), .int v2] g (.inl (some (.int r.1), r.2)) := by
  refine zmet (by decide) (zl rfl) (fun X hE hX hT hR hr hn => ?_)
  subst hE
  exact fX0_passWeek_ok hX hT hR hr hn hkh hk1 hf
def fX11_weeks_L40 (v1 : Int32) (k78 : Int32 → zM → Option (Except Nat Int32 × zM)) : Nat → Int32 → Int32 → zM → Option (Except Nat Int32 × zM)
  | 0, _, _, _ => none
  | n + 1, v2, v3, g => if v1 ≤ v3 then k78 v2 g else zb2 (fX0_passWeek 3 29 (g 2 6) g) (fun r_5 g5 => fX11_weeks_L40 v1 k78 n (v2 + r_5) (v3 + 1) g5)
def fX11_weeks (v1 : Int32) (g : zM) : Option (Except Nat Int32 × zM) := if v1 < 1 then some (.error 2, g) else if v1 ≤ 60 then zb (fX4_remember 3 g) (fun g3 => fX11_weeks_L40 v1 (fun v2_6 g6 => zput g6 3 4 ((g6 3 4) + v2_6) (fun g7 => some (.ok v2_6, g7))) zFU 0 0 g3) else some (.error 2, g)
set_option maxHeartbeats 4000000 in
set_option maxRecDepth 100000 in
theorem fX11_weeks_L40_ok {X : zX} (hX : zCX X cX11_weeks RX11) (hT : zNT X) (hR : X.2.2.2.1 = zrm 8 1) (hr : X.2.2.2.2.2.2.2.2.1.sig.returnType = (some .int)) (hn : X.2.2.2.2.2.2.2.2.2.1.maxLocals = 4) {v1 : Int32} {k78 : Int32 → zM → Option (Except Nat Int32 × zM)} {r : Except Nat Int32 × zM} (hk78 : ∀ (v2 : Int32) (g : zM), k78 v2 g = some r → zW X (zQ X (zoI r) 1) 0 0 78 [(0, .ref (zB X + 0)), (2, .int v2)] [] g) : ∀ (n : Nat) (v2 : Int32) (v3 : Int32) (g : zM), fX11_weeks_L40 v1 k78 n v2 v3 g = some r → zW X (zQ X (zoI r) 1) 0 0 40 [(0, .ref (zB X + 0)), (1, .int v1), (2, .int v2), (3, .int v3)] [] g := by
  intro n
  induction n with
  | zero => intro v2 v3 g hf; exact zno hf
  | succ n ih =>
    intro v2 v3 g hf
    rw [fX11_weeks_L40] at hf
    refine z_iload_n hX dX11_weeks_40 3 rfl ?_
    refine z_iload_n hX dX11_weeks_41 1 rfl ?_
    refine z_icmp_ge hX 78 dX11_weeks_42 (by decide) (fun h4 => ?_) (fun h4 => ?_)
    · replace hf := zif_pos h4 hf
      refine zW.sub [0, 2] rfl ?_
      exact hk78 v2 g hf
    · replace hf := zif_neg h4 hf
      refine z_iload_n hX dX11_weeks_45 2 rfl ?_
      refine z_aload_n hX dX11_weeks_46 0 rfl ?_
      refine gf_Post_now hX zq_0 q439 dX11_weeks_47 ?_
      refine gf_World_bag_N hX zq_2 qn273 dX11_weeks_50 ?_
      refine z_aload_n hX dX11_weeks_53 0 rfl ?_
      refine gf_Post_now hX zq_0 q439 dX11_weeks_54 ?_
      refine gf_World_law_N hX zq_2 qn275 dX11_weeks_57 ?_
      refine z_aload_n hX dX11_weeks_60 0 rfl ?_
      refine gf_Post_now hX zq_0 q439 dX11_weeks_61 ?_
      refine gf_World_slip_N hX zq_2 qn284 dX11_weeks_64 ?_
      replace hf := zb2_some hf
      obtain ⟨r_5, g5, h5, hf⟩ := hf
      refine z_callV1 hX ok_X0_passWeek q1172 q1173 q1174 (zrm_ok hR (by decide)) (ct_X0_passWeek zq_3 zq_29 h5) (zrec_Bag hX zq_3) dX11_weeks_67 rfl rfl ?_
      refine z_iadd hX dX11_weeks_70 ?_
      refine z_istore_n (lv' := [(2, .int (v2 + r_5)), (0, .ref (zB X + 0)), (1, .int v1), (3, .int v3)]) hX dX11_weeks_71 hn (by decide) rfl ?_
      refine z_iincc (lv' := [(3, .int (v3 + 1)), (2, .int (v2 + r_5)), (0, .ref (zB X + 0)), (1, .int v1)]) hX dX11_weeks_72 hn (by decide) 3 rfl ci_1 rfl ?_
      refine z_goto hX 40 dX11_weeks_75 (by decide) ?_
      refine zW.sub [2, 3, 1, 0] rfl ?_
      exact ih (v2 + r_5) (v3 + 1) g5 hf
set_option maxHeartbeats 4000000 in
set_option maxRecDepth 100000 in
theorem fX11_weeks_ok {X : zX} (hX : zCX X cX11_weeks RX11) (hT : zNT X) (hR : X.2.2.2.1 = zrm 8 1) (hr : X.2.2.2.2.2.2.2.2.1.sig.returnType = (some .int)) (hn : X.2.2.2.2.2.2.2.2.2.1.maxLocals = 4) {v1 : Int32} {g : zM} {r : Except Nat Int32 × zM} (hf : fX11_weeks v1 g = some r) : zW X (zQ X (zoI r) 1) 0 0 0 [(0, .ref (zB X + 0)), (1, .int v1)] [] g := by
  unfold fX11_weeks at hf
  refine z_iload_n hX dX11_weeks_0 1 rfl ?_
  refine z_iconst hX dX11_weeks_1 ci_1 ?_
  refine z_icmp_lt hX 11 dX11_weeks_2 (by decide) (fun h1 => ?_) (fun h1 => ?_)
  · replace hf := zif_pos h1 hf
    obtain rfl := Option.some.inj hf
    exact z_throwW hX hT hR at_2_114 (i := 14) rfl dX11_weeks_11 dX11_weeks_14 dX11_weeks_15 dX11_weeks_18 dX11_weeks_21 (zl rfl) (zl rfl) (zl rfl) (zl rfl)
  · replace hf := zif_neg h1 hf
    refine z_iload_n hX dX11_weeks_5 1 rfl ?_
    refine z_bipush hX dX11_weeks_6 cb_60 ?_
    refine z_icmp_le hX 22 dX11_weeks_8 (by decide) (fun h2 => ?_) (fun h2 => ?_)
    · replace hf := zif_pos h2 hf
      refine z_aload_n hX dX11_weeks_22 0 rfl ?_
      refine gf_Post_memory hX zq_0 q442 dX11_weeks_23 ?_
      refine z_aload_n hX dX11_weeks_26 0 rfl ?_
      refine gf_Post_now hX zq_0 q439 dX11_weeks_27 ?_
      refine gf_World_bag_N hX zq_2 qn273 dX11_weeks_30 ?_
      replace hf := zb_some hf
      obtain ⟨g3, h3, hf⟩ := hf
      refine z_callV0 hX ok_X4_remember q1084 q1085 q1086 (zrm_ok hR (by decide)) (ct_X4_remember zq_3 h3) (zrec_Memory hX zq_76) dX11_weeks_33 rfl rfl ?_
      refine z_iconst hX dX11_weeks_36 ci_0 ?_
      refine z_istore_n (lv' := [(2, .int 0), (0, .ref (zB X + 0)), (1, .int v1)]) hX dX11_weeks_37 hn (by decide) rfl ?_
      refine z_iconst hX dX11_weeks_38 ci_0 ?_
      refine z_istore_n (lv' := [(3, .int 0), (2, .int 0), (0, .ref (zB X + 0)), (1, .int v1)]) hX dX11_weeks_39 hn (by decide) rfl ?_
      refine zW.sub [2, 3, 1, 0] rfl ?_
      refine fX11_weeks_L40_ok hX hT hR hr hn (fun v2_6 g6 hf => ?_) zFU 0 0 g3 hf
      · refine z_aload_n hX dX11_weeks_78 0 rfl ?_
        refine gf_Post_now hX zq_0 q439 dX11_weeks_79 ?_
        refine gf_World_bag_N hX zq_2 qn273 dX11_weeks_82 ?_
        refine z_dup hX dX11_weeks_85 rfl ?_
        refine gf_Bag_came_N hX zq_3 qn223 dX11_weeks_86 ?_
        refine z_iload_n hX dX11_weeks_89 1 rfl ?_
        refine z_iadd hX dX11_weeks_90 ?_
        replace hf := zput_some hf
        obtain ⟨g7, eg7, hf⟩ := hf
        refine gp_Bag_came_N hX zq_3 qn223 dX11_weeks_91 (zW.eqg eg7 ?_)
        refine z_iload_n hX dX11_weeks_94 1 rfl ?_
        obtain rfl := Option.some.inj hf
        exact z_iret hX hr rfl (zl rfl) (zl rfl) dX11_weeks_95
    · replace hf := zif_neg h2 hf
      obtain rfl := Option.some.inj hf
      exact z_throwW hX hT hR at_2_114 (i := 14) rfl dX11_weeks_11 dX11_weeks_14 dX11_weeks_15 dX11_weeks_18 dX11_weeks_21 (zl rfl) (zl rfl) (zl rfl) (zl rfl)
set_option maxHeartbeats 4000000 in
set_option maxRecDepth 100000 in
theorem ct_X11_weeks {E : zE} {v1 : Int32} {g : zM} {r : Except Nat Int32 × zM} (hf : fX11_weeks v1 g = some r) : zCt yX11_weeks cX11_weeks 4 (some .int) 8 1 E [.ref (E.1 + 0), .int v1] g (zoI r) := by
  refine zmet (by decide) (zl rfl) (fun X hE hX hT hR hr hn => ?_)
  subst hE
  exact fX11_weeks_ok hX hT hR hr hn  hf
def fX11_needAhead (v0 : Int32) (v1 : Int32) (g : zM) : Option (Except Nat Unit × zM) := if v0 < v1 then some (.error 2, g) else if v0 ≤ 40 then some (.ok (()), g) else some (.error 2, g)
set_option maxHeartbeats 4000000 in
set_option maxRecDepth 100000 in
theorem fX11_needAhead_ok {X : zX} (hX : zCX X cX11_needAhead RX11) (hT : zNT X) (hR : X.2.2.2.1 = zrm 0 1) (hr : X.2.2.2.2.2.2.2.2.1.sig.returnType = none) (hn : X.2.2.2.2.2.2.2.2.2.1.maxLocals = 2) {v0 : Int32} {v1 : Int32} {g : zM} {r : Except Nat Unit × zM} (hf : fX11_needAhead v0 v1 g = some r) : zW X (zQ X (zoU r) 1) 0 0 0 [(0, .int v0), (1, .int v1)] [] g := by
  unfold fX11_needAhead at hf
  refine z_iload_n hX dX11_needAhead_0 0 rfl ?_
  refine z_iload_n hX dX11_needAhead_1 1 rfl ?_
  refine z_icmp_lt hX 11 dX11_needAhead_2 (by decide) (fun h1 => ?_) (fun h1 => ?_)
  · replace hf := zif_pos h1 hf
    obtain rfl := Option.some.inj hf
    exact z_throwW hX hT hR at_2_114 (i := 15) rfl dX11_needAhead_11 dX11_needAhead_14 dX11_needAhead_15 dX11_needAhead_18 dX11_needAhead_21 (zl rfl) (zl rfl) (zl rfl) (zl rfl)
  · replace hf := zif_neg h1 hf
    refine z_iload_n hX dX11_needAhead_5 0 rfl ?_
    refine z_bipush hX dX11_needAhead_6 cb_40 ?_
    refine z_icmp_le hX 22 dX11_needAhead_8 (by decide) (fun h2 => ?_) (fun h2 => ?_)
    · replace hf := zif_pos h2 hf
      obtain rfl := Option.some.inj hf
      exact z_vret hX hr (zl rfl) (zl rfl) dX11_needAhead_22
    · replace hf := zif_neg h2 hf
      obtain rfl := Option.some.inj hf
      exact z_throwW hX hT hR at_2_114 (i := 15) rfl dX11_needAhead_11 dX11_needAhead_14 dX11_needAhead_15 dX11_needAhead_18 dX11_needAhead_21 (zl rfl) (zl rfl) (zl rfl) (zl rfl)
set_option maxHeartbeats 4000000 in
set_option maxRecDepth 100000 in
theorem ct_X11_needAhead {E : zE} {v0 : Int32} {v1 : Int32} {g : zM} {r : Except Nat Unit × zM} (hf : fX11_needAhead v0 v1 g = some r) : zCt yX11_needAhead cX11_needAhead 2 none 0 1 E [.int v0, .int v1] g (zoU r) := by
  refine zmet (by decide) (zl rfl) (fun X hE hX hT hR hr hn => ?_)
  subst hE
  exact fX11_needAhead_ok hX hT hR hr hn  hf
def fX7_look (h : Nat) (r1 : Nat) (v2 : Int32) (g : zM) : Option zM := zb (fX3_become (h + 1) r1 g) (fun g1 => zput g1 h 1 v2 (fun g2 => zput g2 h 2 ((-1)) (fun g3 => some g3)))
set_option maxHeartbeats 4000000 in
set_option maxRecDepth 100000 in
theorem fX7_look_ok {X : zX} (hX : zCX X cX7_look RX7) (hT : zNT X) (hR : X.2.2.2.1 = zrm 6 0) (hr : X.2.2.2.2.2.2.2.2.1.sig.returnType = none) (hn : X.2.2.2.2.2.2.2.2.2.1.maxLocals = 3) {h : Nat} {r1 : Nat} {v2 : Int32} (hkh : zK h = 7) (hk1 : zK r1 = 3) {g : zM} {r : zM} (hf : fX7_look h r1 v2 g = some r) : zW X (zQ X (.inl (none, r)) 0) 0 0 0 [(0, .ref (zB X + h)), (1, .ref (zB X + r1)), (2, .int v2)] [] g := by
  unfold fX7_look at hf
  refine z_aload_n hX dX7_look_0 0 rfl ?_
  refine gf_Sight_mail hX hkh q403 dX7_look_1 ?_
  refine z_aload_n hX dX7_look_4 1 rfl ?_
  replace hf := zb_some hf
  obtain ⟨g1, h1, hf⟩ := hf
  refine z_callV0 hX ok_X3_become q510 q511 q512 (zrm_ok hR (by decide)) (ct_X3_become (zk_Sight_mail hkh) hk1 h1) (zrec_Mail hX (zk_Sight_mail hkh)) dX7_look_5 rfl rfl ?_
  refine z_aload_n hX dX7_look_8 0 rfl ?_
  refine z_iload_n hX dX7_look_9 2 rfl ?_
  replace hf := zput_some hf
  obtain ⟨g2, eg2, hf⟩ := hf
  refine gp_Sight_week hX hkh q405 dX7_look_10 (zW.eqg eg2 ?_)
  refine z_aload_n hX dX7_look_13 0 rfl ?_
  refine z_iconst hX dX7_look_14 ci_m1 ?_
  replace hf := zput_some hf
  obtain ⟨g3, eg3, hf⟩ := hf
  refine gp_Sight_fork hX hkh q407 dX7_look_15 (zW.eqg eg3 ?_)
  obtain rfl := Option.some.inj hf
  exact z_vret hX hr (zl rfl) (zl rfl) dX7_look_18
set_option maxHeartbeats 4000000 in
set_option maxRecDepth 100000 in
theorem ct_X7_look {E : zE} {h : Nat} {r1 : Nat} {v2 : Int32} (hkh : zK h = 7) (hk1 : zK r1 = 3) {g : zM} {r : zM} (hf : fX7_look h r1 v2 g = some r) : zCt yX7_look cX7_look 3 none 6 0 E [.ref (E.1 + h), .ref (E.1 + r1), .int v2] g (.inl (none, r)) := by
  refine zmet (by decide) (zl rfl) (fun X hE hX hT hR hr hn => ?_)
  subst hE
  exact fX7_look_ok hX hT hR hr hn hkh hk1 hf
def fX7_goWeek_L18 (h : Nat) (r1 : Nat) (v2 : Int32) (k82 : zM → Option zM) : Nat → Int32 → zM → Option zM
  | 0, _, _ => none
  | n + 1, v3, g => if v2 ≤ v3 then k82 g else zb2 (fX1_growth r1 (h + 1) (g h 1) g) (fun r_3 g3 => if r_3 = ((-1)) then fX7_goWeek_L18 h r1 v2 k82 n (v3 + 1) g3 else if (g3 h 2) = ((-1)) then zb (fX3_add (h + 1) r_3 (g3 h 1) g3) (fun g8 => zput g8 h 2 ((-1)) (fun g9 => fX7_goWeek_L18 h r1 v2 k82 n (v3 + 1) g9)) else zb (fX3_add (h + 1) (g3 h 2) (g3 h 1) g3) (fun g6 => zput g6 h 2 ((-1)) (fun g7 => fX7_goWeek_L18 h r1 v2 k82 n (v3 + 1) g7)))
def fX7_goWeek (h : Nat) (r1 : Nat) (g : zM) : Option zM := if (g (h + 1) 6) = 0 then fX7_goWeek_L18 h r1 1 (fun g10 => zput g10 h 1 (if 9999 < (g10 h 1) + 1 then 9999 else (g10 h 1) + 1) (fun g11 => some g11)) zFU 0 g else fX7_goWeek_L18 h r1 2 (fun g12 => zput g12 h 1 (if 9999 < (g12 h 1) + 1 then 9999 else (g12 h 1) + 1) (fun g13 => some g13)) zFU 0 g
set_option maxHeartbeats 4000000 in
set_option maxRecDepth 100000 in
theorem fX7_goWeek_L18_ok {X : zX} (hX : zCX X cX7_goWeek RX7) (hT : zNT X) (hR : X.2.2.2.1 = zrm 5 0) (hr : X.2.2.2.2.2.2.2.2.1.sig.returnType = none) (hn : X.2.2.2.2.2.2.2.2.2.1.maxLocals = 5) {h : Nat} {r1 : Nat} {v2 : Int32} (hkh : zK h = 7) (hkr1 : zK r1 = 1) {k82 : zM → Option zM} {r : zM} (hk82 : ∀ (g : zM), k82 g = some r → zW X (zQ X (.inl (none, r)) 0) 0 0 82 [(0, .ref (zB X + h))] [] g) : ∀ (n : Nat) (v3 : Int32) (g : zM), fX7_goWeek_L18 h r1 v2 k82 n v3 g = some r → zW X (zQ X (.inl (none, r)) 0) 0 0 18 [(0, .ref (zB X + h)), (1, .ref (zB X + r1)), (2, .int v2), (3, .int v3)] [] g := by
  intro n
  induction n with
  | zero => intro v3 g hf; exact zno hf
  | succ n ih =>
    intro v3 g hf
    rw [fX7_goWeek_L18] at hf
    refine z_iload_n hX dX7_goWeek_18 3 rfl ?_
    refine z_iload_n hX dX7_goWeek_19 2 rfl ?_
    refine z_icmp_ge hX 82 dX7_goWeek_20 (by decide) (fun h2 => ?_) (fun h2 => ?_)
    · replace hf := zif_pos h2 hf
      refine zW.sub [0] rfl ?_
      exact hk82 g hf
    · replace hf := zif_neg h2 hf
      refine z_aload_n hX dX7_goWeek_23 1 rfl ?_
      refine z_aload_n hX dX7_goWeek_24 0 rfl ?_
      refine gf_Sight_mail hX hkh q403 dX7_goWeek_25 ?_
      refine z_aload_n hX dX7_goWeek_28 0 rfl ?_
      refine gf_Sight_week hX hkh q405 dX7_goWeek_29 ?_
      replace hf := zb2_some hf
      obtain ⟨r_3, g3, h3, hf⟩ := hf
      refine z_callV1 hX ok_X1_growth q529 q530 q531 (zrm_ok hR (by decide)) (ct_X1_growth hkr1 (zk_Sight_mail hkh) h3) (zrec_Law hX hkr1) dX7_goWeek_32 rfl rfl ?_
      refine z_istore (lv' := [(4, .int r_3), (0, .ref (zB X + h)), (1, .ref (zB X + r1)), (2, .int v2), (3, .int v3)]) hX dX7_goWeek_35 hn (by decide) rfl ?_
      refine z_iload hX dX7_goWeek_37 0 rfl ?_
      refine z_iconst hX dX7_goWeek_39 ci_m1 ?_
      refine z_icmp_eq hX 76 dX7_goWeek_40 (by decide) (fun h4 => ?_) (fun h4 => ?_)
      · replace hf := zif_pos h4 hf
        refine z_iincc (lv' := [(3, .int (v3 + 1)), (4, .int r_3), (0, .ref (zB X + h)), (1, .ref (zB X + r1)), (2, .int v2)]) hX dX7_goWeek_76 hn (by decide) 4 rfl ci_1 rfl ?_
        refine z_goto hX 18 dX7_goWeek_79 (by decide) ?_
        refine zW.sub [2, 3, 4, 0] rfl ?_
        exact ih (v3 + 1) g3 hf
      · replace hf := zif_neg h4 hf
        refine z_aload_n hX dX7_goWeek_43 1 rfl ?_
        refine gf_Sight_mail hX hkh q403 dX7_goWeek_44 ?_
        refine z_aload_n hX dX7_goWeek_47 1 rfl ?_
        refine gf_Sight_fork hX hkh q407 dX7_goWeek_48 ?_
        refine z_iconst hX dX7_goWeek_51 ci_m1 ?_
        refine z_icmp_ne hX 60 dX7_goWeek_52 (by decide) (fun h5 => ?_) (fun h5 => ?_)
        · replace hf := zif_neg h5 hf
          refine z_aload_n hX dX7_goWeek_60 1 rfl ?_
          refine gf_Sight_fork hX hkh q407 dX7_goWeek_61 ?_
          refine z_aload_n hX dX7_goWeek_64 1 rfl ?_
          refine gf_Sight_week hX hkh q405 dX7_goWeek_65 ?_
          replace hf := zb_some hf
          obtain ⟨g6, h6, hf⟩ := hf
          refine z_callV0 hX ok_X3_add q552 q553 q554 (zrm_ok hR (by decide)) (ct_X3_add (zk_Sight_mail hkh) h6) (zrec_Mail hX (zk_Sight_mail hkh)) dX7_goWeek_68 rfl rfl ?_
          refine z_aload_n hX dX7_goWeek_71 1 rfl ?_
          refine z_iconst hX dX7_goWeek_72 ci_m1 ?_
          replace hf := zput_some hf
          obtain ⟨g7, eg7, hf⟩ := hf
          refine gp_Sight_fork hX hkh q407 dX7_goWeek_73 (zW.eqg eg7 ?_)
          refine z_iincc (lv' := [(3, .int (v3 + 1)), (4, .int r_3), (0, .ref (zB X + h)), (1, .ref (zB X + r1)), (2, .int v2)]) hX dX7_goWeek_76 hn (by decide) 4 rfl ci_1 rfl ?_
          refine z_goto hX 18 dX7_goWeek_79 (by decide) ?_
          refine zW.sub [2, 3, 4, 0] rfl ?_
          exact ih (v3 + 1) g7 hf
        · replace hf := zif_pos h5 hf
          refine z_iload hX dX7_goWeek_55 0 rfl ?_
          refine z_goto hX 64 dX7_goWeek_57 (by decide) ?_
          refine z_aload_n hX dX7_goWeek_64 1 rfl ?_
          refine gf_Sight_week hX hkh q405 dX7_goWeek_65 ?_
          replace hf := zb_some hf
          obtain ⟨g8, h8, hf⟩ := hf
          refine z_callV0 hX ok_X3_add q552 q553 q554 (zrm_ok hR (by decide)) (ct_X3_add (zk_Sight_mail hkh) h8) (zrec_Mail hX (zk_Sight_mail hkh)) dX7_goWeek_68 rfl rfl ?_
          refine z_aload_n hX dX7_goWeek_71 1 rfl ?_
          refine z_iconst hX dX7_goWeek_72 ci_m1 ?_
          replace hf := zput_some hf
          obtain ⟨g9, eg9, hf⟩ := hf
          refine gp_Sight_fork hX hkh q407 dX7_goWeek_73 (zW.eqg eg9 ?_)
          refine z_iincc (lv' := [(3, .int (v3 + 1)), (4, .int r_3), (0, .ref (zB X + h)), (1, .ref (zB X + r1)), (2, .int v2)]) hX dX7_goWeek_76 hn (by decide) 4 rfl ci_1 rfl ?_
          refine z_goto hX 18 dX7_goWeek_79 (by decide) ?_
          refine zW.sub [2, 3, 4, 0] rfl ?_
          exact ih (v3 + 1) g9 hf
set_option maxHeartbeats 4000000 in
set_option maxRecDepth 100000 in
theorem fX7_goWeek_ok {X : zX} (hX : zCX X cX7_goWeek RX7) (hT : zNT X) (hR : X.2.2.2.1 = zrm 5 0) (hr : X.2.2.2.2.2.2.2.2.1.sig.returnType = none) (hn : X.2.2.2.2.2.2.2.2.2.1.maxLocals = 5) {h : Nat} {r1 : Nat} (hkh : zK h = 7) (hk1 : zK r1 = 1) {g : zM} {r : zM} (hf : fX7_goWeek h r1 g = some r) : zW X (zQ X (.inl (none, r)) 0) 0 0 0 [(0, .ref (zB X + h)), (1, .ref (zB X + r1))] [] g := by
  unfold fX7_goWeek at hf
  refine z_aload_n hX dX7_goWeek_0 0 rfl ?_
  refine gf_Sight_mail hX hkh q403 dX7_goWeek_1 ?_
  refine gf_Mail_hot_N hX (zk_Sight_mail hkh) qn191 dX7_goWeek_4 ?_
  refine z_if_eq hX 14 dX7_goWeek_7 (by decide) (fun h1 => ?_) (fun h1 => ?_)
  · replace hf := zif_pos h1 hf
    refine z_iconst hX dX7_goWeek_14 ci_1 ?_
    refine z_istore_n (lv' := [(2, .int 1), (0, .ref (zB X + h)), (1, .ref (zB X + r1))]) hX dX7_goWeek_15 hn (by decide) rfl ?_
    refine z_iconst hX dX7_goWeek_16 ci_0 ?_
    refine z_istore_n (lv' := [(3, .int 0), (2, .int 1), (0, .ref (zB X + h)), (1, .ref (zB X + r1))]) hX dX7_goWeek_17 hn (by decide) rfl ?_
    refine zW.sub [2, 3, 1, 0] rfl ?_
    refine fX7_goWeek_L18_ok hX hT hR hr hn hkh hk1 (fun g10 hf => ?_) zFU 0 g hf
    · refine z_aload_n hX dX7_goWeek_82 0 rfl ?_
      refine z_aload_n hX dX7_goWeek_83 0 rfl ?_
      refine gf_Sight_week hX hkh q405 dX7_goWeek_84 ?_
      refine z_iconst hX dX7_goWeek_87 ci_1 ?_
      refine z_iadd hX dX7_goWeek_88 ?_
      refine z_sipush hX dX7_goWeek_89 cs_9999 ?_
      refine z_min hX hR ⟨zl rfl, zl rfl⟩ q556 dX7_goWeek_92 (zl rfl) ?_
      replace hf := zput_some hf
      obtain ⟨g11, eg11, hf⟩ := hf
      refine gp_Sight_week hX hkh q405 dX7_goWeek_95 (zW.eqg eg11 ?_)
      obtain rfl := Option.some.inj hf
      exact z_vret hX hr (zl rfl) (zl rfl) dX7_goWeek_98
  · replace hf := zif_neg h1 hf
    refine z_iconst hX dX7_goWeek_10 ci_2 ?_
    refine z_goto hX 15 dX7_goWeek_11 (by decide) ?_
    refine z_istore_n (lv' := [(2, .int 2), (0, .ref (zB X + h)), (1, .ref (zB X + r1))]) hX dX7_goWeek_15 hn (by decide) rfl ?_
    refine z_iconst hX dX7_goWeek_16 ci_0 ?_
    refine z_istore_n (lv' := [(3, .int 0), (2, .int 2), (0, .ref (zB X + h)), (1, .ref (zB X + r1))]) hX dX7_goWeek_17 hn (by decide) rfl ?_
    refine zW.sub [2, 3, 1, 0] rfl ?_
    refine fX7_goWeek_L18_ok hX hT hR hr hn hkh hk1 (fun g12 hf => ?_) zFU 0 g hf
    · refine z_aload_n hX dX7_goWeek_82 0 rfl ?_
      refine z_aload_n hX dX7_goWeek_83 0 rfl ?_
      refine gf_Sight_week hX hkh q405 dX7_goWeek_84 ?_
      refine z_iconst hX dX7_goWeek_87 ci_1 ?_
      refine z_iadd hX dX7_goWeek_88 ?_
      refine z_sipush hX dX7_goWeek_89 cs_9999 ?_
      refine z_min hX hR ⟨zl rfl, zl rfl⟩ q556 dX7_goWeek_92 (zl rfl) ?_
      replace hf := zput_some hf
      obtain ⟨g13, eg13, hf⟩ := hf
      refine gp_Sight_week hX hkh q405 dX7_goWeek_95 (zW.eqg eg13 ?_)
      obtain rfl := Option.some.inj hf
      exact z_vret hX hr (zl rfl) (zl rfl) dX7_goWeek_98
set_option maxHeartbeats 4000000 in
set_option maxRecDepth 100000 in
theorem ct_X7_goWeek {E : zE} {h : Nat} {r1 : Nat} (hkh : zK h = 7) (hk1 : zK r1 = 1) {g : zM} {r : zM} (hf : fX7_goWeek h r1 g = some r) : zCt yX7_goWeek cX7_goWeek 5 none 5 0 E [.ref (E.1 + h), .ref (E.1 + r1)] g (.inl (none, r)) := by
  refine zmet (by decide) (zl rfl) (fun X hE hX hT hR hr hn => ?_)
  subst hE
  exact fX7_goWeek_ok hX hT hR hr hn hkh hk1 hf
def fX7_go_L2 (h : Nat) (r1 : Nat) (v2 : Int32) : Nat → Int32 → zM → Option zM
  | 0, _, _ => none
  | n + 1, v3, g => if v2 ≤ v3 then some g else zb (fX7_goWeek h r1 g) (fun g2 => fX7_go_L2 h r1 v2 n (v3 + 1) g2)
def fX7_go (h : Nat) (r1 : Nat) (v2 : Int32) (g : zM) : Option zM := fX7_go_L2 h r1 v2 zFU 0 g
set_option maxHeartbeats 4000000 in
set_option maxRecDepth 100000 in
theorem fX7_go_L2_ok {X : zX} (hX : zCX X cX7_go RX7) (hT : zNT X) (hR : X.2.2.2.1 = zrm 6 0) (hr : X.2.2.2.2.2.2.2.2.1.sig.returnType = none) (hn : X.2.2.2.2.2.2.2.2.2.1.maxLocals = 4) {h : Nat} {r1 : Nat} {v2 : Int32} (hkh : zK h = 7) (hkr1 : zK r1 = 1) {r : zM}  : ∀ (n : Nat) (v3 : Int32) (g : zM), fX7_go_L2 h r1 v2 n v3 g = some r → zW X (zQ X (.inl (none, r)) 0) 0 0 2 [(0, .ref (zB X + h)), (1, .ref (zB X + r1)), (2, .int v2), (3, .int v3)] [] g := by
  intro n
  induction n with
  | zero => intro v3 g hf; exact zno hf
  | succ n ih =>
    intro v3 g hf
    rw [fX7_go_L2] at hf
    refine z_iload_n hX dX7_go_2 3 rfl ?_
    refine z_iload_n hX dX7_go_3 2 rfl ?_
    refine z_icmp_ge hX 18 dX7_go_4 (by decide) (fun h1 => ?_) (fun h1 => ?_)
    · replace hf := zif_pos h1 hf
      obtain rfl := Option.some.inj hf
      exact z_vret hX hr (zl rfl) (zl rfl) dX7_go_18
    · replace hf := zif_neg h1 hf
      refine z_aload_n hX dX7_go_7 0 rfl ?_
      refine z_aload_n hX dX7_go_8 1 rfl ?_
      replace hf := zb_some hf
      obtain ⟨g2, h2, hf⟩ := hf
      refine z_callV0 hX ok_X7_goWeek q1204 q526 q527 (zrm_ok hR (by decide)) (ct_X7_goWeek hkh hkr1 h2) (zrec_Sight hX hkh) dX7_go_9 rfl rfl ?_
      refine z_iincc (lv' := [(3, .int (v3 + 1)), (0, .ref (zB X + h)), (1, .ref (zB X + r1)), (2, .int v2)]) hX dX7_go_12 hn (by decide) 3 rfl ci_1 rfl ?_
      refine z_goto hX 2 dX7_go_15 (by decide) ?_
      refine zW.sub [1, 2, 3, 0] rfl ?_
      exact ih (v3 + 1) g2 hf
set_option maxHeartbeats 4000000 in
set_option maxRecDepth 100000 in
theorem fX7_go_ok {X : zX} (hX : zCX X cX7_go RX7) (hT : zNT X) (hR : X.2.2.2.1 = zrm 6 0) (hr : X.2.2.2.2.2.2.2.2.1.sig.returnType = none) (hn : X.2.2.2.2.2.2.2.2.2.1.maxLocals = 4) {h : Nat} {r1 : Nat} {v2 : Int32} (hkh : zK h = 7) (hk1 : zK r1 = 1) {g : zM} {r : zM} (hf : fX7_go h r1 v2 g = some r) : zW X (zQ X (.inl (none, r)) 0) 0 0 0 [(0, .ref (zB X + h)), (1, .ref (zB X + r1)), (2, .int v2)] [] g := by
  unfold fX7_go at hf
  refine z_iconst hX dX7_go_0 ci_0 ?_
  refine z_istore_n (lv' := [(3, .int 0), (0, .ref (zB X + h)), (1, .ref (zB X + r1)), (2, .int v2)]) hX dX7_go_1 hn (by decide) rfl ?_
  refine zW.sub [1, 2, 3, 0] rfl ?_
  exact fX7_go_L2_ok hX hT hR hr hn hkh hk1 zFU 0 g hf
set_option maxHeartbeats 4000000 in
set_option maxRecDepth 100000 in
theorem ct_X7_go {E : zE} {h : Nat} {r1 : Nat} {v2 : Int32} (hkh : zK h = 7) (hk1 : zK r1 = 1) {g : zM} {r : zM} (hf : fX7_go h r1 v2 g = some r) : zCt yX7_go cX7_go 4 none 6 0 E [.ref (E.1 + h), .ref (E.1 + r1), .int v2] g (.inl (none, r)) := by
  refine zmet (by decide) (zl rfl) (fun X hE hX hT hR hr hn => ?_)
  subst hE
  exact fX7_go_ok hX hT hR hr hn hkh hk1 hf
def fX11_ahead (v1 : Int32) (v2 : Int32) (v3 : Int32) (g : zM) : Option (Except Nat Int32 × zM) := zb3 (fX11_mailOf v1 g) (fun r_1 g1 => zb3 (fX11_needAhead v2 0 g1) (fun _ g2 => if v3 < 0 then some (.error 5, g2) else if v3 ≤ 2 then zb (fX7_look 446 r_1 (g2 3 2) g2) (fun g5 => zb (fX7_go 446 29 v2 g5) (fun g6 => if v3 = 0 then zb (fX3_lastKind 447 g6) (fun r_10 => some (.ok r_10, g6)) else if v3 = 1 then some (.ok (g6 447 2), g6) else zb (fX10_wordsIn 2 447 g6) (fun r_9 => some (.ok r_9, g6)))) else some (.error 5, g2)))
set_option maxHeartbeats 4000000 in
set_option maxRecDepth 100000 in
theorem fX11_ahead_ok {X : zX} (hX : zCX X cX11_ahead RX11) (hT : zNT X) (hR : X.2.2.2.1 = zrm 7 3) (hr : X.2.2.2.2.2.2.2.2.1.sig.returnType = (some .int)) (hn : X.2.2.2.2.2.2.2.2.2.1.maxLocals = 5) {v1 : Int32} {v2 : Int32} {v3 : Int32} {g : zM} {r : Except Nat Int32 × zM} (hf : fX11_ahead v1 v2 v3 g = some r) : zW X (zQ X (zoI r) 3) 0 0 0 [(0, .ref (zB X + 0)), (1, .int v1), (2, .int v2), (3, .int v3)] [] g := by
  unfold fX11_ahead at hf
  refine z_aload_n hX dX11_ahead_0 0 rfl ?_
  refine z_iload_n hX dX11_ahead_1 1 rfl ?_
  replace hf := zb3_some hf
  rcases hf with ⟨c1, g1, h1, rfl⟩ | ⟨r_1, g1, h1, hf⟩
  · exact z_callV_x hX hT ok_X11_mailOf q974 q976 q25 (zrm_ok hR (by decide)) (ct_X11_mailOf  h1) (zrec_Post hX zq_0) dX11_ahead_2 rfl rfl (zl rfl) (zl rfl)
  refine z_callV1 hX ok_X11_mailOf q974 q976 q25 (zrm_ok hR (by decide)) (ct_X11_mailOf  h1) (zrec_Post hX zq_0) dX11_ahead_2 rfl rfl ?_
  refine z_astore (lv' := [(4, .ref (zB X + r_1)), (0, .ref (zB X + 0)), (1, .int v1), (2, .int v2), (3, .int v3)]) hX dX11_ahead_5 hn (by decide) rfl ?_
  refine z_iload_n hX dX11_ahead_7 3 rfl ?_
  refine z_iconst hX dX11_ahead_8 ci_0 ?_
  replace hf := zb3_some hf
  rcases hf with ⟨c2, g2, h2, rfl⟩ | ⟨r_2, g2, h2, hf⟩
  · exact z_callS_x hX hT ok_X11_needAhead rfl q1195 q1196 (zrm_ok hR (by decide)) (ct_X11_needAhead  h2) dX11_ahead_9 rfl rfl (zl rfl) (zl rfl)
  refine z_callS0 hX ok_X11_needAhead rfl q1195 q1196 (zrm_ok hR (by decide)) (ct_X11_needAhead  h2) dX11_ahead_9 rfl rfl ?_
  refine z_iload_n hX dX11_ahead_12 4 rfl ?_
  refine z_if_lt hX 21 dX11_ahead_13 (by decide) (fun h3 => ?_) (fun h3 => ?_)
  · replace hf := zif_pos h3 hf
    obtain rfl := Option.some.inj hf
    exact z_throwNW hX hT hR at_5_196 (i := 16) rfl dX11_ahead_21 dX11_ahead_24 dX11_ahead_25 dX11_ahead_28 dX11_ahead_31 (zl rfl) (zl rfl) (zl rfl) (zl rfl)
  · replace hf := zif_neg h3 hf
    refine z_iload_n hX dX11_ahead_16 4 rfl ?_
    refine z_iconst hX dX11_ahead_17 ci_2 ?_
    refine z_icmp_le hX 32 dX11_ahead_18 (by decide) (fun h4 => ?_) (fun h4 => ?_)
    · replace hf := zif_pos h4 hf
      refine z_aload_n hX dX11_ahead_32 1 rfl ?_
      refine gf_Post_sight hX zq_0 q445 dX11_ahead_33 ?_
      refine z_aload hX dX11_ahead_36 0 rfl ?_
      refine z_aload_n hX dX11_ahead_38 1 rfl ?_
      refine gf_Post_now hX zq_0 q439 dX11_ahead_39 ?_
      refine gf_World_bag_N hX zq_2 qn273 dX11_ahead_42 ?_
      refine gf_Bag_week_N hX zq_3 qn219 dX11_ahead_45 ?_
      replace hf := zb_some hf
      obtain ⟨g5, h5, hf⟩ := hf
      refine z_callV0 hX ok_X7_look q506 q507 q508 (zrm_ok hR (by decide)) (ct_X7_look zq_446 (fk_X11_mailOf  h1) h5) (zrec_Sight hX zq_446) dX11_ahead_48 rfl rfl ?_
      refine z_aload_n hX dX11_ahead_51 1 rfl ?_
      refine gf_Post_sight hX zq_0 q445 dX11_ahead_52 ?_
      refine z_aload_n hX dX11_ahead_55 1 rfl ?_
      refine gf_Post_now hX zq_0 q439 dX11_ahead_56 ?_
      refine gf_World_law_N hX zq_2 qn275 dX11_ahead_59 ?_
      refine z_iload_n hX dX11_ahead_62 3 rfl ?_
      replace hf := zb_some hf
      obtain ⟨g6, h6, hf⟩ := hf
      refine z_callV0 hX ok_X7_go q1200 q1201 q1202 (zrm_ok hR (by decide)) (ct_X7_go zq_446 zq_29 h6) (zrec_Sight hX zq_446) dX11_ahead_63 rfl rfl ?_
      refine z_iload_n hX dX11_ahead_66 4 rfl ?_
      refine z_if_ne hX 81 dX11_ahead_67 (by decide) (fun h7 => ?_) (fun h7 => ?_)
      · replace hf := zif_neg h7 hf
        refine z_iload_n hX dX11_ahead_81 4 rfl ?_
        refine z_iconst hX dX11_ahead_82 ci_1 ?_
        refine z_icmp_ne hX 99 dX11_ahead_83 (by decide) (fun h8 => ?_) (fun h8 => ?_)
        · replace hf := zif_neg h8 hf
          refine z_aload_n hX dX11_ahead_99 1 rfl ?_
          refine gf_Post_now hX zq_0 q439 dX11_ahead_100 ?_
          refine z_aload_n hX dX11_ahead_103 1 rfl ?_
          refine gf_Post_sight hX zq_0 q445 dX11_ahead_104 ?_
          refine gf_Sight_mail_N hX zq_446 qn404 dX11_ahead_107 ?_
          replace hf := zb_some hf
          obtain ⟨r_9, h9, hf⟩ := hf
          refine z_callV1 hX ok_X10_wordsIn q575 q576 q577 (zrm_ok hR (by decide)) (ct_X10_wordsIn zq_2 zq_447 h9) (zrec_World hX zq_2) dX11_ahead_110 rfl rfl ?_
          obtain rfl := Option.some.inj hf
          exact z_iret hX hr rfl (zl rfl) (zl rfl) dX11_ahead_113
        · replace hf := zif_pos h8 hf
          refine z_aload_n hX dX11_ahead_86 1 rfl ?_
          refine gf_Post_sight hX zq_0 q445 dX11_ahead_87 ?_
          refine gf_Sight_mail_N hX zq_446 qn404 dX11_ahead_90 ?_
          refine gf_Mail_lines_N hX zq_447 qn176 dX11_ahead_93 ?_
          refine z_goto hX 113 dX11_ahead_96 (by decide) ?_
          obtain rfl := Option.some.inj hf
          exact z_iret hX hr rfl (zl rfl) (zl rfl) dX11_ahead_113
      · replace hf := zif_pos h7 hf
        refine z_aload_n hX dX11_ahead_70 1 rfl ?_
        refine gf_Post_sight hX zq_0 q445 dX11_ahead_71 ?_
        refine gf_Sight_mail_N hX zq_446 qn404 dX11_ahead_74 ?_
        replace hf := zb_some hf
        obtain ⟨r_10, h10, hf⟩ := hf
        refine z_callV1 hX ok_X3_lastKind q517 q518 q519 (zrm_ok hR (by decide)) (ct_X3_lastKind zq_447 h10) (zrec_Mail hX zq_447) dX11_ahead_77 rfl rfl ?_
        obtain rfl := Option.some.inj hf
        exact z_iret hX hr rfl (zl rfl) (zl rfl) dX11_ahead_80
    · replace hf := zif_neg h4 hf
      obtain rfl := Option.some.inj hf
      exact z_throwNW hX hT hR at_5_196 (i := 16) rfl dX11_ahead_21 dX11_ahead_24 dX11_ahead_25 dX11_ahead_28 dX11_ahead_31 (zl rfl) (zl rfl) (zl rfl) (zl rfl)
set_option maxHeartbeats 4000000 in
set_option maxRecDepth 100000 in
theorem ct_X11_ahead {E : zE} {v1 : Int32} {v2 : Int32} {v3 : Int32} {g : zM} {r : Except Nat Int32 × zM} (hf : fX11_ahead v1 v2 v3 g = some r) : zCt yX11_ahead cX11_ahead 5 (some .int) 7 3 E [.ref (E.1 + 0), .int v1, .int v2, .int v3] g (zoI r) := by
  refine zmet (by decide) (zl rfl) (fun X hE hX hT hR hr hn => ?_)
  subst hE
  exact fX11_ahead_ok hX hT hR hr hn  hf
def fX3_kindSet_L4 (h : Nat) (g : zM) : Nat → Int32 → Int32 → Option Int32
  | 0, _, _ => none
  | n + 1, v1, v2 => if (g h 2) ≤ v2 then some v1 else zchk v2 24 (fX3_kindSet_L4 h g n (v1 ||| ((1 : Int32) <<< ((g (h + 1) v2.toNatClampNeg) &&& 31))) (v2 + 1))
def fX3_kindSet (h : Nat) (g : zM) : Option Int32 := fX3_kindSet_L4 h g zFU 0 0
set_option maxHeartbeats 4000000 in
set_option maxRecDepth 100000 in
theorem fX3_kindSet_L4_ok {X : zX} (hX : zCX X cX3_kindSet RX3) (hT : zNT X) (hR : X.2.2.2.1 = zrm 0 0) (hr : X.2.2.2.2.2.2.2.2.1.sig.returnType = (some .int)) (hn : X.2.2.2.2.2.2.2.2.2.1.maxLocals = 3) {h : Nat} (hkh : zK h = 3) {g : zM} {r : Int32}  : ∀ (n : Nat) (v1 : Int32) (v2 : Int32), fX3_kindSet_L4 h g n v1 v2 = some r → zW X (zQ X (.inl (some (.int r), g)) 0) 0 0 4 [(0, .ref (zB X + h)), (1, .int v1), (2, .int v2)] [] g := by
  intro n
  induction n with
  | zero => intro v1 v2 hf; exact zno hf
  | succ n ih =>
    intro v1 v2 hf
    rw [fX3_kindSet_L4] at hf
    refine z_iload_n hX dX3_kindSet_4 2 rfl ?_
    refine z_aload_n hX dX3_kindSet_5 0 rfl ?_
    refine gf_Mail_lines hX hkh q173 dX3_kindSet_6 ?_
    refine z_icmp_ge hX 29 dX3_kindSet_9 (by decide) (fun h1 => ?_) (fun h1 => ?_)
    · replace hf := zif_pos h1 hf
      refine z_iload_n hX dX3_kindSet_29 1 rfl ?_
      obtain rfl := Option.some.inj hf
      exact z_iret hX hr rfl (zl rfl) (zl rfl) dX3_kindSet_30
    · replace hf := zif_neg h1 hf
      refine z_iload_n hX dX3_kindSet_12 1 rfl ?_
      refine z_iconst hX dX3_kindSet_13 ci_1 ?_
      refine z_aload_n hX dX3_kindSet_14 0 rfl ?_
      refine gf_Mail_kinds hX hkh q170 dX3_kindSet_15 ?_
      refine z_iload_n hX dX3_kindSet_18 2 rfl ?_
      replace hf := zchk_some hf
      obtain ⟨h2, hf⟩ := hf
      refine z_iald hX (zk_Mail_kinds hkh) (by decide) (zc_1024 _ _ _) h2 dX3_kindSet_19 ?_
      refine z_ishl hX dX3_kindSet_20 ?_
      refine z_ior hX dX3_kindSet_21 ?_
      refine z_istore_n (lv' := [(1, .int (v1 ||| ((1 : Int32) <<< ((g (h + 1) v2.toNatClampNeg) &&& 31)))), (0, .ref (zB X + h)), (2, .int v2)]) hX dX3_kindSet_22 hn (by decide) rfl ?_
      refine z_iincc (lv' := [(2, .int (v2 + 1)), (1, .int (v1 ||| ((1 : Int32) <<< ((g (h + 1) v2.toNatClampNeg) &&& 31)))), (0, .ref (zB X + h))]) hX dX3_kindSet_23 hn (by decide) 2 rfl ci_1 rfl ?_
      refine z_goto hX 4 dX3_kindSet_26 (by decide) ?_
      refine zW.sub [2, 1, 0] rfl ?_
      exact ih (v1 ||| ((1 : Int32) <<< ((g (h + 1) v2.toNatClampNeg) &&& 31))) (v2 + 1) hf
set_option maxHeartbeats 4000000 in
set_option maxRecDepth 100000 in
theorem fX3_kindSet_ok {X : zX} (hX : zCX X cX3_kindSet RX3) (hT : zNT X) (hR : X.2.2.2.1 = zrm 0 0) (hr : X.2.2.2.2.2.2.2.2.1.sig.returnType = (some .int)) (hn : X.2.2.2.2.2.2.2.2.2.1.maxLocals = 3) {h : Nat} (hkh : zK h = 3) {g : zM} {r : Int32} (hf : fX3_kindSet h g = some r) : zW X (zQ X (.inl (some (.int r), g)) 0) 0 0 0 [(0, .ref (zB X + h))] [] g := by
  unfold fX3_kindSet at hf
  refine z_iconst hX dX3_kindSet_0 ci_0 ?_
  refine z_istore_n (lv' := [(1, .int 0), (0, .ref (zB X + h))]) hX dX3_kindSet_1 hn (by decide) rfl ?_
  refine z_iconst hX dX3_kindSet_2 ci_0 ?_
  refine z_istore_n (lv' := [(2, .int 0), (1, .int 0), (0, .ref (zB X + h))]) hX dX3_kindSet_3 hn (by decide) rfl ?_
  refine zW.sub [2, 1, 0] rfl ?_
  exact fX3_kindSet_L4_ok hX hT hR hr hn hkh zFU 0 0 hf
set_option maxHeartbeats 4000000 in
set_option maxRecDepth 100000 in
theorem ct_X3_kindSet {E : zE} {h : Nat} (hkh : zK h = 3) {g : zM} {r : Int32} (hf : fX3_kindSet h g = some r) : zCt yX3_kindSet cX3_kindSet 3 (some .int) 0 0 E [.ref (E.1 + h)] g (.inl (some (.int r), g)) := by
  refine zmet (by decide) (zl rfl) (fun X hE hX hT hR hr hn => ?_)
  subst hE
  exact fX3_kindSet_ok hX hT hR hr hn hkh hf
def fX3_holds (h : Nat) (v1 : Int32) (g : zM) : Option Int32 := zb (fX3_kindSet h g) (fun r_1 => if ((r_1 >>> (v1 &&& 31)) &&& 1) = 1 then some 1 else some 0)
set_option maxHeartbeats 4000000 in
set_option maxRecDepth 100000 in
theorem fX3_holds_ok {X : zX} (hX : zCX X cX3_holds RX3) (hT : zNT X) (hR : X.2.2.2.1 = zrm 1 0) (hr : X.2.2.2.2.2.2.2.2.1.sig.returnType = (some .boolean)) (hn : X.2.2.2.2.2.2.2.2.2.1.maxLocals = 2) {h : Nat} {v1 : Int32} (hkh : zK h = 3) {g : zM} {r : Int32} (hf : fX3_holds h v1 g = some r) : zW X (zQ X (.inl (some (.int r), g)) 0) 0 0 0 [(0, .ref (zB X + h)), (1, .int v1)] [] g := by
  unfold fX3_holds at hf
  refine z_aload_n hX dX3_holds_0 0 rfl ?_
  replace hf := zb_some hf
  obtain ⟨r_1, h1, hf⟩ := hf
  refine z_callV1 hX ok_X3_kindSet q1216 q1217 q1218 (zrm_ok hR (by decide)) (ct_X3_kindSet hkh h1) (zrec_Mail hX hkh) dX3_holds_1 rfl rfl ?_
  refine z_iload_n hX dX3_holds_4 1 rfl ?_
  refine z_ishr hX dX3_holds_5 ?_
  refine z_iconst hX dX3_holds_6 ci_1 ?_
  refine z_iand hX dX3_holds_7 ?_
  refine z_iconst hX dX3_holds_8 ci_1 ?_
  refine z_icmp_ne hX 16 dX3_holds_9 (by decide) (fun h2 => ?_) (fun h2 => ?_)
  · replace hf := zif_neg h2 hf
    refine z_iconst hX dX3_holds_16 ci_0 ?_
    obtain rfl := Option.some.inj hf
    exact z_iret hX hr (zbn (Or.inl rfl)) (zl rfl) (zl rfl) dX3_holds_17
  · replace hf := zif_pos h2 hf
    refine z_iconst hX dX3_holds_12 ci_1 ?_
    refine z_goto hX 17 dX3_holds_13 (by decide) ?_
    obtain rfl := Option.some.inj hf
    exact z_iret hX hr (zbn (Or.inr rfl)) (zl rfl) (zl rfl) dX3_holds_17
set_option maxHeartbeats 4000000 in
set_option maxRecDepth 100000 in
theorem ct_X3_holds {E : zE} {h : Nat} {v1 : Int32} (hkh : zK h = 3) {g : zM} {r : Int32} (hf : fX3_holds h v1 g = some r) : zCt yX3_holds cX3_holds 2 (some .boolean) 1 0 E [.ref (E.1 + h), .int v1] g (.inl (some (.int r), g)) := by
  refine zmet (by decide) (zl rfl) (fun X hE hX hT hR hr hn => ?_)
  subst hE
  exact fX3_holds_ok hX hT hR hr hn hkh hf
def fX11_says_L33 (v2 : Int32) (v3 : Int32) : Nat → Int32 → zM → Option (Except Nat Int32 × zM)
  | 0, _, _ => none
  | n + 1, v5, g => if 40 < v5 then some (.ok ((-1)), g) else zjoin (fun t0_5 => if t0_5 = 0 then zb (fX7_goWeek 446 29 g) (fun g7 => fX11_says_L33 v2 v3 n (v5 + 1) g7) else some (.ok v5, g) : Int32 → Option (Except Nat Int32 × zM)) (fun k77 => if v3 = 0 then zb (fX3_lastKind 447 g) (fun r_9 => if r_9 = v2 then k77 1 else k77 0) else zb (fX3_holds 447 v2 g) (fun r_11 => k77 r_11))
def fX11_says (v1 : Int32) (v2 : Int32) (v3 : Int32) (g : zM) : Option (Except Nat Int32 × zM) := zb3 (fX11_mailOf v1 g) (fun r_1 g1 => zb3 (fX11_needKind v2 g1) (fun _ g2 => zb (fX7_look 446 r_1 (g2 3 2) g2) (fun g3 => fX11_says_L33 v2 v3 zFU 0 g3)))
set_option maxHeartbeats 4000000 in
set_option maxRecDepth 100000 in
theorem fX11_says_L33_ok {X : zX} (hX : zCX X cX11_says RX11) (hT : zNT X) (hR : X.2.2.2.1 = zrm 7 2) (hr : X.2.2.2.2.2.2.2.2.1.sig.returnType = (some .int)) (hn : X.2.2.2.2.2.2.2.2.2.1.maxLocals = 7) {v2 : Int32} {v3 : Int32} {r : Except Nat Int32 × zM}  : ∀ (n : Nat) (v5 : Int32) (g : zM), fX11_says_L33 v2 v3 n v5 g = some r → zW X (zQ X (zoI r) 2) 2 12 33 [(0, .ref (zB X + 0)), (2, .int v2), (3, .int v3), (5, .int v5)] [] g := by
  intro n
  induction n with
  | zero => intro v5 g hf; exact zno hf
  | succ n ih =>
    intro v5 g hf
    rw [fX11_says_L33] at hf
    refine z_iload hX dX11_says_33 3 rfl ?_
    refine z_bipush hX dX11_says_35 cb_40 ?_
    refine z_icmp_gt hX 107 dX11_says_37 (by decide) (fun h4 => ?_) (fun h4 => ?_)
    · replace hf := zif_pos h4 hf
      refine z_iconst hX dX11_says_107 ci_m1 ?_
      obtain rfl := Option.some.inj hf
      exact z_iret hX hr rfl (zl rfl) (zl rfl) dX11_says_108
    · replace hf := zif_neg h4 hf
      refine z_iload_n hX dX11_says_40 2 rfl ?_
      refine zjoin_ok (P := fun (k : Int32 → Option (Except Nat Int32 × zM)) => ∀ (t0_5 : Int32), k t0_5 = some r → zW X (zQ X (zoI r) 2) 2 12 77 [(0, .ref (zB X + 0)), (2, .int v2), (3, .int v3), (5, .int v5)] [.int t0_5] g) hf (fun t0_5 hf => ?_) (fun k77 hk77 hf => ?_)
      · refine z_istore (lv' := [(6, .int t0_5), (0, .ref (zB X + 0)), (2, .int v2), (3, .int v3), (5, .int v5)]) hX dX11_says_77 hn (by decide) rfl ?_
        refine z_iload hX dX11_says_79 0 rfl ?_
        refine z_if_eq hX 87 dX11_says_81 (by decide) (fun h6 => ?_) (fun h6 => ?_)
        · replace hf := zif_pos h6 hf
          refine z_aload_n hX dX11_says_87 1 rfl ?_
          refine gf_Post_sight hX zq_0 q445 dX11_says_88 ?_
          refine z_aload_n hX dX11_says_91 1 rfl ?_
          refine gf_Post_now hX zq_0 q439 dX11_says_92 ?_
          refine gf_World_law_N hX zq_2 qn275 dX11_says_95 ?_
          replace hf := zb_some hf
          obtain ⟨g7, h7, hf⟩ := hf
          refine z_callV0 hX ok_X7_goWeek q525 q526 q527 (zrm_ok hR (by decide)) (ct_X7_goWeek zq_446 zq_29 h7) (zrec_Sight hX zq_446) dX11_says_98 rfl rfl ?_
          refine z_iincc (lv' := [(5, .int (v5 + 1)), (6, .int t0_5), (0, .ref (zB X + 0)), (2, .int v2), (3, .int v3)]) hX dX11_says_101 hn (by decide) 4 rfl ci_1 rfl ?_
          refine z_goto hX 33 dX11_says_104 (by decide) ?_
          refine zW.sub [2, 3, 4, 0] rfl ?_
          exact ih (v5 + 1) g7 hf
        · replace hf := zif_neg h6 hf
          refine z_iload hX dX11_says_84 4 rfl ?_
          obtain rfl := Option.some.inj hf
          exact z_iret hX hr rfl (zl rfl) (zl rfl) dX11_says_86
      · refine z_if_eq hX 58 dX11_says_41 (by decide) (fun h8 => ?_) (fun h8 => ?_)
        · replace hf := zif_pos h8 hf
          refine z_aload_n hX dX11_says_58 0 rfl ?_
          refine gf_Post_sight hX zq_0 q445 dX11_says_59 ?_
          refine gf_Sight_mail_N hX zq_446 qn404 dX11_says_62 ?_
          replace hf := zb_some hf
          obtain ⟨r_9, h9, hf⟩ := hf
          refine z_callV1 hX ok_X3_lastKind q517 q518 q519 (zrm_ok hR (by decide)) (ct_X3_lastKind zq_447 h9) (zrec_Mail hX zq_447) dX11_says_65 rfl rfl ?_
          refine z_iload_n hX dX11_says_68 1 rfl ?_
          refine z_icmp_ne hX 76 dX11_says_69 (by decide) (fun h10 => ?_) (fun h10 => ?_)
          · replace hf := zif_neg h10 hf
            refine z_iconst hX dX11_says_76 ci_0 ?_
            exact hk77 0 hf
          · replace hf := zif_pos h10 hf
            refine z_iconst hX dX11_says_72 ci_1 ?_
            refine z_goto hX 77 dX11_says_73 (by decide) ?_
            exact hk77 1 hf
        · replace hf := zif_neg h8 hf
          refine z_aload_n hX dX11_says_44 0 rfl ?_
          refine gf_Post_sight hX zq_0 q445 dX11_says_45 ?_
          refine gf_Sight_mail_N hX zq_446 qn404 dX11_says_48 ?_
          refine z_iload_n hX dX11_says_51 1 rfl ?_
          replace hf := zb_some hf
          obtain ⟨r_11, h11, hf⟩ := hf
          refine z_callV1 hX ok_X3_holds q1212 q1213 q1214 (zrm_ok hR (by decide)) (ct_X3_holds zq_447 h11) (zrec_Mail hX zq_447) dX11_says_52 rfl rfl ?_
          refine z_goto hX 77 dX11_says_55 (by decide) ?_
          exact hk77 r_11 hf
set_option maxHeartbeats 4000000 in
set_option maxRecDepth 100000 in
theorem fX11_says_ok {X : zX} (hX : zCX X cX11_says RX11) (hT : zNT X) (hR : X.2.2.2.1 = zrm 7 2) (hr : X.2.2.2.2.2.2.2.2.1.sig.returnType = (some .int)) (hn : X.2.2.2.2.2.2.2.2.2.1.maxLocals = 7) {v1 : Int32} {v2 : Int32} {v3 : Int32} {g : zM} {r : Except Nat Int32 × zM} (hf : fX11_says v1 v2 v3 g = some r) : zW X (zQ X (zoI r) 2) 0 0 0 [(0, .ref (zB X + 0)), (1, .int v1), (2, .int v2), (3, .int v3)] [] g := by
  unfold fX11_says at hf
  refine z_aload_n hX dX11_says_0 0 rfl ?_
  refine z_iload_n hX dX11_says_1 1 rfl ?_
  replace hf := zb3_some hf
  rcases hf with ⟨c1, g1, h1, rfl⟩ | ⟨r_1, g1, h1, hf⟩
  · exact z_callV_x hX hT ok_X11_mailOf q974 q976 q25 (zrm_ok hR (by decide)) (ct_X11_mailOf  h1) (zrec_Post hX zq_0) dX11_says_2 rfl rfl (zl rfl) (zl rfl)
  refine z_callV1 hX ok_X11_mailOf q974 q976 q25 (zrm_ok hR (by decide)) (ct_X11_mailOf  h1) (zrec_Post hX zq_0) dX11_says_2 rfl rfl ?_
  refine z_astore (lv' := [(4, .ref (zB X + r_1)), (0, .ref (zB X + 0)), (1, .int v1), (2, .int v2), (3, .int v3)]) hX dX11_says_5 hn (by decide) rfl ?_
  refine z_iload_n hX dX11_says_7 3 rfl ?_
  replace hf := zb3_some hf
  rcases hf with ⟨c2, g2, h2, rfl⟩ | ⟨r_2, g2, h2, hf⟩
  · exact z_callS_x hX hT ok_X11_needKind rfl q1038 q1039 (zrm_ok hR (by decide)) (ct_X11_needKind  h2) dX11_says_8 rfl rfl (zl rfl) (zl rfl)
  refine z_callS0 hX ok_X11_needKind rfl q1038 q1039 (zrm_ok hR (by decide)) (ct_X11_needKind  h2) dX11_says_8 rfl rfl ?_
  refine z_aload_n hX dX11_says_11 1 rfl ?_
  refine gf_Post_sight hX zq_0 q445 dX11_says_12 ?_
  refine z_aload hX dX11_says_15 0 rfl ?_
  refine z_aload_n hX dX11_says_17 1 rfl ?_
  refine gf_Post_now hX zq_0 q439 dX11_says_18 ?_
  refine gf_World_bag_N hX zq_2 qn273 dX11_says_21 ?_
  refine gf_Bag_week_N hX zq_3 qn219 dX11_says_24 ?_
  replace hf := zb_some hf
  obtain ⟨g3, h3, hf⟩ := hf
  refine z_callV0 hX ok_X7_look q506 q507 q508 (zrm_ok hR (by decide)) (ct_X7_look zq_446 (fk_X11_mailOf  h1) h3) (zrec_Sight hX zq_446) dX11_says_27 rfl rfl ?_
  refine z_iconst hX dX11_says_30 ci_0 ?_
  refine z_istore (lv' := [(5, .int 0), (4, .ref (zB X + r_1)), (0, .ref (zB X + 0)), (1, .int v1), (2, .int v2), (3, .int v3)]) hX dX11_says_31 hn (by decide) rfl ?_
  refine zW.sub [2, 4, 5, 0] rfl ?_
  exact fX11_says_L33_ok hX hT hR hr hn  zFU 0 g3 hf
set_option maxHeartbeats 4000000 in
set_option maxRecDepth 100000 in
theorem ct_X11_says {E : zE} {v1 : Int32} {v2 : Int32} {v3 : Int32} {g : zM} {r : Except Nat Int32 × zM} (hf : fX11_says v1 v2 v3 g = some r) : zCt yX11_says cX11_says 7 (some .int) 7 2 E [.ref (E.1 + 0), .int v1, .int v2, .int v3] g (zoI r) := by
  refine zmet (by decide) (zl rfl) (fun X hE hX hT hR hr hn => ?_)
  subst hE
  exact fX11_says_ok hX hT hR hr hn  hf
def fX11_stops_L26  : Nat → Int32 → zM → Option (Except Nat Int32 × zM)
  | 0, _, _ => none
  | n + 1, v3, g => if 40 < v3 then some (.ok ((-1)), g) else zb2 (fX1_growth 29 447 (g 446 1) g) (fun r_4 g4 => if r_4 = ((-1)) then some (.ok v3, g4) else zb (fX7_goWeek 446 29 g4) (fun g6 => fX11_stops_L26 n (v3 + 1) g6))
def fX11_stops (v1 : Int32) (g : zM) : Option (Except Nat Int32 × zM) := zb3 (fX11_mailOf v1 g) (fun r_1 g1 => zb (fX7_look 446 r_1 (g1 3 2) g1) (fun g2 => fX11_stops_L26 zFU 0 g2))
set_option maxHeartbeats 4000000 in
set_option maxRecDepth 100000 in
theorem fX11_stops_L26_ok {X : zX} (hX : zCX X cX11_stops RX11) (hT : zNT X) (hR : X.2.2.2.1 = zrm 7 1) (hr : X.2.2.2.2.2.2.2.2.1.sig.returnType = (some .int)) (hn : X.2.2.2.2.2.2.2.2.2.1.maxLocals = 4)  {r : Except Nat Int32 × zM}  : ∀ (n : Nat) (v3 : Int32) (g : zM), fX11_stops_L26 n v3 g = some r → zW X (zQ X (zoI r) 1) 1 6 26 [(0, .ref (zB X + 0)), (3, .int v3)] [] g := by
  intro n
  induction n with
  | zero => intro v3 g hf; exact zno hf
  | succ n ih =>
    intro v3 g hf
    rw [fX11_stops_L26] at hf
    refine z_iload_n hX dX11_stops_26 1 rfl ?_
    refine z_bipush hX dX11_stops_27 cb_40 ?_
    refine z_icmp_gt hX 82 dX11_stops_29 (by decide) (fun h3 => ?_) (fun h3 => ?_)
    · replace hf := zif_pos h3 hf
      refine z_iconst hX dX11_stops_82 ci_m1 ?_
      obtain rfl := Option.some.inj hf
      exact z_iret hX hr rfl (zl rfl) (zl rfl) dX11_stops_83
    · replace hf := zif_neg h3 hf
      refine z_aload_n hX dX11_stops_32 0 rfl ?_
      refine gf_Post_now hX zq_0 q439 dX11_stops_33 ?_
      refine gf_World_law_N hX zq_2 qn275 dX11_stops_36 ?_
      refine z_aload_n hX dX11_stops_39 0 rfl ?_
      refine gf_Post_sight hX zq_0 q445 dX11_stops_40 ?_
      refine gf_Sight_mail_N hX zq_446 qn404 dX11_stops_43 ?_
      refine z_aload_n hX dX11_stops_46 0 rfl ?_
      refine gf_Post_sight hX zq_0 q445 dX11_stops_47 ?_
      refine gf_Sight_week_N hX zq_446 qn406 dX11_stops_50 ?_
      replace hf := zb2_some hf
      obtain ⟨r_4, g4, h4, hf⟩ := hf
      refine z_callV1 hX ok_X1_growth q998 q530 q531 (zrm_ok hR (by decide)) (ct_X1_growth zq_29 zq_447 h4) (zrec_Law hX zq_29) dX11_stops_53 rfl rfl ?_
      refine z_iconst hX dX11_stops_56 ci_m1 ?_
      refine z_icmp_ne hX 62 dX11_stops_57 (by decide) (fun h5 => ?_) (fun h5 => ?_)
      · replace hf := zif_neg h5 hf
        refine z_aload_n hX dX11_stops_62 0 rfl ?_
        refine gf_Post_sight hX zq_0 q445 dX11_stops_63 ?_
        refine z_aload_n hX dX11_stops_66 0 rfl ?_
        refine gf_Post_now hX zq_0 q439 dX11_stops_67 ?_
        refine gf_World_law_N hX zq_2 qn275 dX11_stops_70 ?_
        replace hf := zb_some hf
        obtain ⟨g6, h6, hf⟩ := hf
        refine z_callV0 hX ok_X7_goWeek q525 q526 q527 (zrm_ok hR (by decide)) (ct_X7_goWeek zq_446 zq_29 h6) (zrec_Sight hX zq_446) dX11_stops_73 rfl rfl ?_
        refine z_iincc (lv' := [(3, .int (v3 + 1)), (0, .ref (zB X + 0))]) hX dX11_stops_76 hn (by decide) 1 rfl ci_1 rfl ?_
        refine z_goto hX 26 dX11_stops_79 (by decide) ?_
        refine zW.sub [1, 0] rfl ?_
        exact ih (v3 + 1) g6 hf
      · replace hf := zif_pos h5 hf
        refine z_iload_n hX dX11_stops_60 1 rfl ?_
        obtain rfl := Option.some.inj hf
        exact z_iret hX hr rfl (zl rfl) (zl rfl) dX11_stops_61
set_option maxHeartbeats 4000000 in
set_option maxRecDepth 100000 in
theorem fX11_stops_ok {X : zX} (hX : zCX X cX11_stops RX11) (hT : zNT X) (hR : X.2.2.2.1 = zrm 7 1) (hr : X.2.2.2.2.2.2.2.2.1.sig.returnType = (some .int)) (hn : X.2.2.2.2.2.2.2.2.2.1.maxLocals = 4) {v1 : Int32} {g : zM} {r : Except Nat Int32 × zM} (hf : fX11_stops v1 g = some r) : zW X (zQ X (zoI r) 1) 0 0 0 [(0, .ref (zB X + 0)), (1, .int v1)] [] g := by
  unfold fX11_stops at hf
  refine z_aload_n hX dX11_stops_0 0 rfl ?_
  refine z_iload_n hX dX11_stops_1 1 rfl ?_
  replace hf := zb3_some hf
  rcases hf with ⟨c1, g1, h1, rfl⟩ | ⟨r_1, g1, h1, hf⟩
  · exact z_callV_x hX hT ok_X11_mailOf q974 q976 q25 (zrm_ok hR (by decide)) (ct_X11_mailOf  h1) (zrec_Post hX zq_0) dX11_stops_2 rfl rfl (zl rfl) (zl rfl)
  refine z_callV1 hX ok_X11_mailOf q974 q976 q25 (zrm_ok hR (by decide)) (ct_X11_mailOf  h1) (zrec_Post hX zq_0) dX11_stops_2 rfl rfl ?_
  refine z_astore_n (lv' := [(2, .ref (zB X + r_1)), (0, .ref (zB X + 0)), (1, .int v1)]) hX dX11_stops_5 hn (by decide) rfl ?_
  refine z_aload_n hX dX11_stops_6 1 rfl ?_
  refine gf_Post_sight hX zq_0 q445 dX11_stops_7 ?_
  refine z_aload_n hX dX11_stops_10 0 rfl ?_
  refine z_aload_n hX dX11_stops_11 1 rfl ?_
  refine gf_Post_now hX zq_0 q439 dX11_stops_12 ?_
  refine gf_World_bag_N hX zq_2 qn273 dX11_stops_15 ?_
  refine gf_Bag_week_N hX zq_3 qn219 dX11_stops_18 ?_
  replace hf := zb_some hf
  obtain ⟨g2, h2, hf⟩ := hf
  refine z_callV0 hX ok_X7_look q506 q507 q508 (zrm_ok hR (by decide)) (ct_X7_look zq_446 (fk_X11_mailOf  h1) h2) (zrec_Sight hX zq_446) dX11_stops_21 rfl rfl ?_
  refine z_iconst hX dX11_stops_24 ci_0 ?_
  refine z_istore_n (lv' := [(3, .int 0), (2, .ref (zB X + r_1)), (0, .ref (zB X + 0)), (1, .int v1)]) hX dX11_stops_25 hn (by decide) rfl ?_
  refine zW.sub [2, 0] rfl ?_
  exact fX11_stops_L26_ok hX hT hR hr hn  zFU 0 g2 hf
set_option maxHeartbeats 4000000 in
set_option maxRecDepth 100000 in
theorem ct_X11_stops {E : zE} {v1 : Int32} {g : zM} {r : Except Nat Int32 × zM} (hf : fX11_stops v1 g = some r) : zCt yX11_stops cX11_stops 4 (some .int) 7 1 E [.ref (E.1 + 0), .int v1] g (zoI r) := by
  refine zmet (by decide) (zl rfl) (fun X hE hX hT hR hr hn => ?_)
  subst hE
  exact fX11_stops_ok hX hT hR hr hn  hf
def fX11_stays_L34 (v2 : Int32) : Nat → Int32 → Int32 → zM → Option (Except Nat Int32 × zM)
  | 0, _, _, _ => none
  | n + 1, v4, v5, g => if 40 < v5 then some (.ok v4, g) else zb (fX3_lastKind 447 g) (fun r_5 => if r_5 = v2 then zb (fX7_goWeek 446 29 g) (fun g9 => fX11_stays_L34 v2 n (v4 + 1) (v5 + 1) g9) else if v4 ≤ 0 then zb (fX7_goWeek 446 29 g) (fun g8 => fX11_stays_L34 v2 n v4 (v5 + 1) g8) else some (.ok v4, g))
def fX11_stays (v1 : Int32) (v2 : Int32) (g : zM) : Option (Except Nat Int32 × zM) := zb3 (fX11_mailOf v1 g) (fun r_1 g1 => zb3 (fX11_needKind v2 g1) (fun _ g2 => zb (fX7_look 446 r_1 (g2 3 2) g2) (fun g3 => fX11_stays_L34 v2 zFU 0 0 g3)))
set_option maxHeartbeats 4000000 in
set_option maxRecDepth 100000 in
theorem fX11_stays_L34_ok {X : zX} (hX : zCX X cX11_stays RX11) (hT : zNT X) (hR : X.2.2.2.1 = zrm 7 2) (hr : X.2.2.2.2.2.2.2.2.1.sig.returnType = (some .int)) (hn : X.2.2.2.2.2.2.2.2.2.1.maxLocals = 6) {v2 : Int32} {r : Except Nat Int32 × zM}  : ∀ (n : Nat) (v4 : Int32) (v5 : Int32) (g : zM), fX11_stays_L34 v2 n v4 v5 g = some r → zW X (zQ X (zoI r) 2) 2 12 34 [(0, .ref (zB X + 0)), (2, .int v2), (4, .int v4), (5, .int v5)] [] g := by
  intro n
  induction n with
  | zero => intro v4 v5 g hf; exact zno hf
  | succ n ih =>
    intro v4 v5 g hf
    rw [fX11_stays_L34] at hf
    refine z_iload hX dX11_stays_34 3 rfl ?_
    refine z_bipush hX dX11_stays_36 cb_40 ?_
    refine z_icmp_gt hX 89 dX11_stays_38 (by decide) (fun h4 => ?_) (fun h4 => ?_)
    · replace hf := zif_pos h4 hf
      refine z_iload hX dX11_stays_89 2 rfl ?_
      obtain rfl := Option.some.inj hf
      exact z_iret hX hr rfl (zl rfl) (zl rfl) dX11_stays_91
    · replace hf := zif_neg h4 hf
      refine z_aload_n hX dX11_stays_41 0 rfl ?_
      refine gf_Post_sight hX zq_0 q445 dX11_stays_42 ?_
      refine gf_Sight_mail_N hX zq_446 qn404 dX11_stays_45 ?_
      replace hf := zb_some hf
      obtain ⟨r_5, h5, hf⟩ := hf
      refine z_callV1 hX ok_X3_lastKind q517 q518 q519 (zrm_ok hR (by decide)) (ct_X3_lastKind zq_447 h5) (zrec_Mail hX zq_447) dX11_stays_48 rfl rfl ?_
      refine z_iload_n hX dX11_stays_51 1 rfl ?_
      refine z_icmp_ne hX 61 dX11_stays_52 (by decide) (fun h6 => ?_) (fun h6 => ?_)
      · replace hf := zif_neg h6 hf
        refine z_iload hX dX11_stays_61 2 rfl ?_
        refine z_if_le hX 69 dX11_stays_63 (by decide) (fun h7 => ?_) (fun h7 => ?_)
        · replace hf := zif_pos h7 hf
          refine z_aload_n hX dX11_stays_69 0 rfl ?_
          refine gf_Post_sight hX zq_0 q445 dX11_stays_70 ?_
          refine z_aload_n hX dX11_stays_73 0 rfl ?_
          refine gf_Post_now hX zq_0 q439 dX11_stays_74 ?_
          refine gf_World_law_N hX zq_2 qn275 dX11_stays_77 ?_
          replace hf := zb_some hf
          obtain ⟨g8, h8, hf⟩ := hf
          refine z_callV0 hX ok_X7_goWeek q525 q526 q527 (zrm_ok hR (by decide)) (ct_X7_goWeek zq_446 zq_29 h8) (zrec_Sight hX zq_446) dX11_stays_80 rfl rfl ?_
          refine z_iincc (lv' := [(5, .int (v5 + 1)), (0, .ref (zB X + 0)), (2, .int v2), (4, .int v4)]) hX dX11_stays_83 hn (by decide) 3 rfl ci_1 rfl ?_
          refine z_goto hX 34 dX11_stays_86 (by decide) ?_
          refine zW.sub [1, 2, 3, 0] rfl ?_
          exact ih v4 (v5 + 1) g8 hf
        · replace hf := zif_neg h7 hf
          refine z_iload hX dX11_stays_66 2 rfl ?_
          obtain rfl := Option.some.inj hf
          exact z_iret hX hr rfl (zl rfl) (zl rfl) dX11_stays_68
      · replace hf := zif_pos h6 hf
        refine z_iincc (lv' := [(4, .int (v4 + 1)), (0, .ref (zB X + 0)), (2, .int v2), (5, .int v5)]) hX dX11_stays_55 hn (by decide) 2 rfl ci_1 rfl ?_
        refine z_goto hX 69 dX11_stays_58 (by decide) ?_
        refine z_aload_n hX dX11_stays_69 1 rfl ?_
        refine gf_Post_sight hX zq_0 q445 dX11_stays_70 ?_
        refine z_aload_n hX dX11_stays_73 1 rfl ?_
        refine gf_Post_now hX zq_0 q439 dX11_stays_74 ?_
        refine gf_World_law_N hX zq_2 qn275 dX11_stays_77 ?_
        replace hf := zb_some hf
        obtain ⟨g9, h9, hf⟩ := hf
        refine z_callV0 hX ok_X7_goWeek q525 q526 q527 (zrm_ok hR (by decide)) (ct_X7_goWeek zq_446 zq_29 h9) (zrec_Sight hX zq_446) dX11_stays_80 rfl rfl ?_
        refine z_iincc (lv' := [(5, .int (v5 + 1)), (4, .int (v4 + 1)), (0, .ref (zB X + 0)), (2, .int v2)]) hX dX11_stays_83 hn (by decide) 3 rfl ci_1 rfl ?_
        refine z_goto hX 34 dX11_stays_86 (by decide) ?_
        refine zW.sub [2, 3, 1, 0] rfl ?_
        exact ih (v4 + 1) (v5 + 1) g9 hf
set_option maxHeartbeats 4000000 in
set_option maxRecDepth 100000 in
theorem fX11_stays_ok {X : zX} (hX : zCX X cX11_stays RX11) (hT : zNT X) (hR : X.2.2.2.1 = zrm 7 2) (hr : X.2.2.2.2.2.2.2.2.1.sig.returnType = (some .int)) (hn : X.2.2.2.2.2.2.2.2.2.1.maxLocals = 6) {v1 : Int32} {v2 : Int32} {g : zM} {r : Except Nat Int32 × zM} (hf : fX11_stays v1 v2 g = some r) : zW X (zQ X (zoI r) 2) 0 0 0 [(0, .ref (zB X + 0)), (1, .int v1), (2, .int v2)] [] g := by
  unfold fX11_stays at hf
  refine z_aload_n hX dX11_stays_0 0 rfl ?_
  refine z_iload_n hX dX11_stays_1 1 rfl ?_
  replace hf := zb3_some hf
  rcases hf with ⟨c1, g1, h1, rfl⟩ | ⟨r_1, g1, h1, hf⟩
  · exact z_callV_x hX hT ok_X11_mailOf q974 q976 q25 (zrm_ok hR (by decide)) (ct_X11_mailOf  h1) (zrec_Post hX zq_0) dX11_stays_2 rfl rfl (zl rfl) (zl rfl)
  refine z_callV1 hX ok_X11_mailOf q974 q976 q25 (zrm_ok hR (by decide)) (ct_X11_mailOf  h1) (zrec_Post hX zq_0) dX11_stays_2 rfl rfl ?_
  refine z_astore_n (lv' := [(3, .ref (zB X + r_1)), (0, .ref (zB X + 0)), (1, .int v1), (2, .int v2)]) hX dX11_stays_5 hn (by decide) rfl ?_
  refine z_iload_n hX dX11_stays_6 3 rfl ?_
  replace hf := zb3_some hf
  rcases hf with ⟨c2, g2, h2, rfl⟩ | ⟨r_2, g2, h2, hf⟩
  · exact z_callS_x hX hT ok_X11_needKind rfl q1038 q1039 (zrm_ok hR (by decide)) (ct_X11_needKind  h2) dX11_stays_7 rfl rfl (zl rfl) (zl rfl)
  refine z_callS0 hX ok_X11_needKind rfl q1038 q1039 (zrm_ok hR (by decide)) (ct_X11_needKind  h2) dX11_stays_7 rfl rfl ?_
  refine z_aload_n hX dX11_stays_10 1 rfl ?_
  refine gf_Post_sight hX zq_0 q445 dX11_stays_11 ?_
  refine z_aload_n hX dX11_stays_14 0 rfl ?_
  refine z_aload_n hX dX11_stays_15 1 rfl ?_
  refine gf_Post_now hX zq_0 q439 dX11_stays_16 ?_
  refine gf_World_bag_N hX zq_2 qn273 dX11_stays_19 ?_
  refine gf_Bag_week_N hX zq_3 qn219 dX11_stays_22 ?_
  replace hf := zb_some hf
  obtain ⟨g3, h3, hf⟩ := hf
  refine z_callV0 hX ok_X7_look q506 q507 q508 (zrm_ok hR (by decide)) (ct_X7_look zq_446 (fk_X11_mailOf  h1) h3) (zrec_Sight hX zq_446) dX11_stays_25 rfl rfl ?_
  refine z_iconst hX dX11_stays_28 ci_0 ?_
  refine z_istore (lv' := [(4, .int 0), (3, .ref (zB X + r_1)), (0, .ref (zB X + 0)), (1, .int v1), (2, .int v2)]) hX dX11_stays_29 hn (by decide) rfl ?_
  refine z_iconst hX dX11_stays_31 ci_0 ?_
  refine z_istore (lv' := [(5, .int 0), (4, .int 0), (3, .ref (zB X + r_1)), (0, .ref (zB X + 0)), (1, .int v1), (2, .int v2)]) hX dX11_stays_32 hn (by decide) rfl ?_
  refine zW.sub [3, 5, 1, 0] rfl ?_
  exact fX11_stays_L34_ok hX hT hR hr hn  zFU 0 0 g3 hf
set_option maxHeartbeats 4000000 in
set_option maxRecDepth 100000 in
theorem ct_X11_stays {E : zE} {v1 : Int32} {v2 : Int32} {g : zM} {r : Except Nat Int32 × zM} (hf : fX11_stays v1 v2 g = some r) : zCt yX11_stays cX11_stays 6 (some .int) 7 2 E [.ref (E.1 + 0), .int v1, .int v2] g (zoI r) := by
  refine zmet (by decide) (zl rfl) (fun X hE hX hT hR hr hn => ?_)
  subst hE
  exact fX11_stays_ok hX hT hR hr hn  hf
def fX11_needDigit (v0 : Int32) (g : zM) : Option (Except Nat Unit × zM) := zb (fX11_isNoDigit v0 g) (fun r_1 => if r_1 = 0 then some (.ok (()), g) else some (.error 2, g))
set_option maxHeartbeats 4000000 in
set_option maxRecDepth 100000 in
theorem fX11_needDigit_ok {X : zX} (hX : zCX X cX11_needDigit RX11) (hT : zNT X) (hR : X.2.2.2.1 = zrm 1 1) (hr : X.2.2.2.2.2.2.2.2.1.sig.returnType = none) (hn : X.2.2.2.2.2.2.2.2.2.1.maxLocals = 1) {v0 : Int32} {g : zM} {r : Except Nat Unit × zM} (hf : fX11_needDigit v0 g = some r) : zW X (zQ X (zoU r) 1) 0 0 0 [(0, .int v0)] [] g := by
  unfold fX11_needDigit at hf
  refine z_iload_n hX dX11_needDigit_0 0 rfl ?_
  replace hf := zb_some hf
  obtain ⟨r_1, h1, hf⟩ := hf
  refine z_callS1 hX ok_X11_isNoDigit rfl q1079 q1080 (zrm_ok hR (by decide)) (ct_X11_isNoDigit  h1) dX11_needDigit_1 rfl rfl ?_
  refine z_if_eq hX 18 dX11_needDigit_4 (by decide) (fun h2 => ?_) (fun h2 => ?_)
  · replace hf := zif_pos h2 hf
    obtain rfl := Option.some.inj hf
    exact z_vret hX hr (zl rfl) (zl rfl) dX11_needDigit_18
  · replace hf := zif_neg h2 hf
    obtain rfl := Option.some.inj hf
    exact z_throwW hX hT hR at_2_114 (i := 17) rfl dX11_needDigit_7 dX11_needDigit_10 dX11_needDigit_11 dX11_needDigit_14 dX11_needDigit_17 (zl rfl) (zl rfl) (zl rfl) (zl rfl)
set_option maxHeartbeats 4000000 in
set_option maxRecDepth 100000 in
theorem ct_X11_needDigit {E : zE} {v0 : Int32} {g : zM} {r : Except Nat Unit × zM} (hf : fX11_needDigit v0 g = some r) : zCt yX11_needDigit cX11_needDigit 1 none 1 1 E [.int v0] g (zoU r) := by
  refine zmet (by decide) (zl rfl) (fun X hE hX hT hR hr hn => ?_)
  subst hE
  exact fX11_needDigit_ok hX hT hR hr hn  hf
def fX7_lookAtRow (h : Nat) (v1 : Int32) (v2 : Int32) (v3 : Int32) (v4 : Int32) (g : zM) : Option zM := zb (fX3_begin (h + 1) v2 v3 g) (fun g1 => zjoin (fun g2 => zb (fX3_add (h + 1) (v1 - v1 / 12 * 12) v4 g2) (fun g3 => zput g3 h 1 v4 (fun g4 => zput g4 h 2 ((-1)) (fun g5 => some g5))) : zM → Option zM) (fun k30 => if v1 < 12 then k30 g1 else zb (fX3_add (h + 1) ((v1 / 12) - 1) v4 g1) (fun g7 => k30 g7)))
set_option maxHeartbeats 4000000 in
set_option maxRecDepth 100000 in
theorem fX7_lookAtRow_ok {X : zX} (hX : zCX X cX7_lookAtRow RX7) (hT : zNT X) (hR : X.2.2.2.1 = zrm 1 0) (hr : X.2.2.2.2.2.2.2.2.1.sig.returnType = none) (hn : X.2.2.2.2.2.2.2.2.2.1.maxLocals = 5) {h : Nat} {v1 : Int32} {v2 : Int32} {v3 : Int32} {v4 : Int32} (hkh : zK h = 7) {g : zM} {r : zM} (hf : fX7_lookAtRow h v1 v2 v3 v4 g = some r) : zW X (zQ X (.inl (none, r)) 0) 0 0 0 [(0, .ref (zB X + h)), (1, .int v1), (2, .int v2), (3, .int v3), (4, .int v4)] [] g := by
  unfold fX7_lookAtRow at hf
  refine z_aload_n hX dX7_lookAtRow_0 0 rfl ?_
  refine gf_Sight_mail hX hkh q403 dX7_lookAtRow_1 ?_
  refine z_iload_n hX dX7_lookAtRow_4 2 rfl ?_
  refine z_iload_n hX dX7_lookAtRow_5 3 rfl ?_
  replace hf := zb_some hf
  obtain ⟨g1, h1, hf⟩ := hf
  refine z_callV0 hX ok_X3_begin q1249 q823 q824 (zrm_ok hR (by decide)) (ct_X3_begin (zk_Sight_mail hkh) h1) (zrec_Mail hX (zk_Sight_mail hkh)) dX7_lookAtRow_6 rfl rfl ?_
  refine z_iload_n hX dX7_lookAtRow_9 1 rfl ?_
  refine z_bipush hX dX7_lookAtRow_10 cb_12 ?_
  refine zjoin_ok (P := fun (k : zM → Option zM) => ∀ (g2 : zM), k g2 = some r → zW X (zQ X (.inl (none, r)) 0) 0 0 30 [(0, .ref (zB X + h)), (1, .int v1), (4, .int v4)] [] g2) hf (fun g2 hf => ?_) (fun k30 hk30 hf => ?_)
  · refine z_aload_n hX dX7_lookAtRow_30 0 rfl ?_
    refine gf_Sight_mail hX hkh q403 dX7_lookAtRow_31 ?_
    refine z_iload_n hX dX7_lookAtRow_34 1 rfl ?_
    refine z_bipush hX dX7_lookAtRow_35 cb_12 ?_
    refine z_irem hX dX7_lookAtRow_37 (by decide) ?_
    refine z_iload hX dX7_lookAtRow_38 2 rfl ?_
    replace hf := zb_some hf
    obtain ⟨g3, h3, hf⟩ := hf
    refine z_callV0 hX ok_X3_add q552 q553 q554 (zrm_ok hR (by decide)) (ct_X3_add (zk_Sight_mail hkh) h3) (zrec_Mail hX (zk_Sight_mail hkh)) dX7_lookAtRow_40 rfl rfl ?_
    refine z_aload_n hX dX7_lookAtRow_43 0 rfl ?_
    refine z_iload hX dX7_lookAtRow_44 2 rfl ?_
    replace hf := zput_some hf
    obtain ⟨g4, eg4, hf⟩ := hf
    refine gp_Sight_week hX hkh q405 dX7_lookAtRow_46 (zW.eqg eg4 ?_)
    refine z_aload_n hX dX7_lookAtRow_49 0 rfl ?_
    refine z_iconst hX dX7_lookAtRow_50 ci_m1 ?_
    replace hf := zput_some hf
    obtain ⟨g5, eg5, hf⟩ := hf
    refine gp_Sight_fork hX hkh q407 dX7_lookAtRow_51 (zW.eqg eg5 ?_)
    obtain rfl := Option.some.inj hf
    exact z_vret hX hr (zl rfl) (zl rfl) dX7_lookAtRow_54
  · refine z_icmp_lt hX 30 dX7_lookAtRow_12 (by decide) (fun h6 => ?_) (fun h6 => ?_)
    · replace hf := zif_pos h6 hf
      refine zW.sub [0, 1, 4] rfl ?_
      exact hk30 g1 hf
    · replace hf := zif_neg h6 hf
      refine z_aload_n hX dX7_lookAtRow_15 0 rfl ?_
      refine gf_Sight_mail hX hkh q403 dX7_lookAtRow_16 ?_
      refine z_iload_n hX dX7_lookAtRow_19 1 rfl ?_
      refine z_bipush hX dX7_lookAtRow_20 cb_12 ?_
      refine z_idiv hX dX7_lookAtRow_22 (by decide) ?_
      refine z_iconst hX dX7_lookAtRow_23 ci_1 ?_
      refine z_isub hX dX7_lookAtRow_24 ?_
      refine z_iload hX dX7_lookAtRow_25 4 rfl ?_
      replace hf := zb_some hf
      obtain ⟨g7, h7, hf⟩ := hf
      refine z_callV0 hX ok_X3_add q552 q553 q554 (zrm_ok hR (by decide)) (ct_X3_add (zk_Sight_mail hkh) h7) (zrec_Mail hX (zk_Sight_mail hkh)) dX7_lookAtRow_27 rfl rfl ?_
      refine zW.sub [0, 1, 4] rfl ?_
      exact hk30 g7 hf
set_option maxHeartbeats 4000000 in
set_option maxRecDepth 100000 in
theorem ct_X7_lookAtRow {E : zE} {h : Nat} {v1 : Int32} {v2 : Int32} {v3 : Int32} {v4 : Int32} (hkh : zK h = 7) {g : zM} {r : zM} (hf : fX7_lookAtRow h v1 v2 v3 v4 g = some r) : zCt yX7_lookAtRow cX7_lookAtRow 5 none 1 0 E [.ref (E.1 + h), .int v1, .int v2, .int v3, .int v4] g (.inl (none, r)) := by
  refine zmet (by decide) (zl rfl) (fun X hE hX hT hR hr hn => ?_)
  subst hE
  exact fX7_lookAtRow_ok hX hT hR hr hn hkh hf
def fX11_send_L24 (v1 : Int32) (v2 : Int32) (v3 : Int32) (v4 : Int32) (v5 : Int32) (k100 : Int32 → zM → Option (Except Nat Int32 × zM)) : Nat → Int32 → Int32 → zM → Option (Except Nat Int32 × zM)
  | 0, _, _, _ => none
  | n + 1, v6, v7, g => if 156 ≤ v7 then k100 v6 g else zb (fX7_lookAtRow 446 v7 v1 v2 (g 3 2) g) (fun g6 => zb (fX7_go 446 29 v4 g6) (fun g7 => zb (fX3_lastKind 447 g7) (fun r_8 => if r_8 = v3 then if v5 = 0 then some (.ok v7, g7) else fX11_send_L24 v1 v2 v3 v4 v5 k100 n (v6 + 1) (v7 + 1) g7 else fX11_send_L24 v1 v2 v3 v4 v5 k100 n v6 (v7 + 1) g7)))
def fX11_send (v1 : Int32) (v2 : Int32) (v3 : Int32) (v4 : Int32) (v5 : Int32) (g : zM) : Option (Except Nat Int32 × zM) := zb3 (fX11_needKind v3 g) (fun _ g1 => zb3 (fX11_needDigit v1 g1) (fun _ g2 => zb3 (fX11_needDigit v2 g2) (fun _ g3 => zb3 (fX11_needAhead v4 0 g3) (fun _ g4 => fX11_send_L24 v1 v2 v3 v4 v5 (fun v6_11 g11 => if v5 = 0 then some (.ok ((-1)), g11) else some (.ok v6_11, g11)) zFU 0 0 g4))))
set_option maxHeartbeats 4000000 in
set_option maxRecDepth 100000 in
theorem fX11_send_L24_ok {X : zX} (hX : zCX X cX11_send RX11) (hT : zNT X) (hR : X.2.2.2.1 = zrm 7 4) (hr : X.2.2.2.2.2.2.2.2.1.sig.returnType = (some .int)) (hn : X.2.2.2.2.2.2.2.2.2.1.maxLocals = 8) {v1 : Int32} {v2 : Int32} {v3 : Int32} {v4 : Int32} {v5 : Int32} {k100 : Int32 → zM → Option (Except Nat Int32 × zM)} {r : Except Nat Int32 × zM} (hk100 : ∀ (v6 : Int32) (g : zM), k100 v6 g = some r → zW X (zQ X (zoI r) 4) 4 24 100 [(5, .int v5), (6, .int v6)] [] g) : ∀ (n : Nat) (v6 : Int32) (v7 : Int32) (g : zM), fX11_send_L24 v1 v2 v3 v4 v5 k100 n v6 v7 g = some r → zW X (zQ X (zoI r) 4) 4 24 24 [(0, .ref (zB X + 0)), (1, .int v1), (2, .int v2), (3, .int v3), (4, .int v4), (5, .int v5), (6, .int v6), (7, .int v7)] [] g := by
  intro n
  induction n with
  | zero => intro v6 v7 g hf; exact zno hf
  | succ n ih =>
    intro v6 v7 g hf
    rw [fX11_send_L24] at hf
    refine z_iload hX dX11_send_24 7 rfl ?_
    refine z_sipush hX dX11_send_26 cs_156 ?_
    refine z_icmp_ge hX 100 dX11_send_29 (by decide) (fun h5 => ?_) (fun h5 => ?_)
    · replace hf := zif_pos h5 hf
      refine zW.sub [5, 6] rfl ?_
      exact hk100 v6 g hf
    · replace hf := zif_neg h5 hf
      refine z_aload_n hX dX11_send_32 0 rfl ?_
      refine gf_Post_sight hX zq_0 q445 dX11_send_33 ?_
      refine z_iload hX dX11_send_36 7 rfl ?_
      refine z_iload_n hX dX11_send_38 1 rfl ?_
      refine z_iload_n hX dX11_send_39 2 rfl ?_
      refine z_aload_n hX dX11_send_40 0 rfl ?_
      refine gf_Post_now hX zq_0 q439 dX11_send_41 ?_
      refine gf_World_bag_N hX zq_2 qn273 dX11_send_44 ?_
      refine gf_Bag_week_N hX zq_3 qn219 dX11_send_47 ?_
      replace hf := zb_some hf
      obtain ⟨g6, h6, hf⟩ := hf
      refine z_callV0 hX ok_X7_lookAtRow q1245 q1246 q1247 (zrm_ok hR (by decide)) (ct_X7_lookAtRow zq_446 h6) (zrec_Sight hX zq_446) dX11_send_50 rfl rfl ?_
      refine z_aload_n hX dX11_send_53 0 rfl ?_
      refine gf_Post_sight hX zq_0 q445 dX11_send_54 ?_
      refine z_aload_n hX dX11_send_57 0 rfl ?_
      refine gf_Post_now hX zq_0 q439 dX11_send_58 ?_
      refine gf_World_law_N hX zq_2 qn275 dX11_send_61 ?_
      refine z_iload hX dX11_send_64 4 rfl ?_
      replace hf := zb_some hf
      obtain ⟨g7, h7, hf⟩ := hf
      refine z_callV0 hX ok_X7_go q1200 q1201 q1202 (zrm_ok hR (by decide)) (ct_X7_go zq_446 zq_29 h7) (zrec_Sight hX zq_446) dX11_send_66 rfl rfl ?_
      refine z_aload_n hX dX11_send_69 0 rfl ?_
      refine gf_Post_sight hX zq_0 q445 dX11_send_70 ?_
      refine gf_Sight_mail_N hX zq_446 qn404 dX11_send_73 ?_
      replace hf := zb_some hf
      obtain ⟨r_8, h8, hf⟩ := hf
      refine z_callV1 hX ok_X3_lastKind q517 q518 q519 (zrm_ok hR (by decide)) (ct_X3_lastKind zq_447 h8) (zrec_Mail hX zq_447) dX11_send_76 rfl rfl ?_
      refine z_iload_n hX dX11_send_79 3 rfl ?_
      refine z_icmp_ne hX 94 dX11_send_80 (by decide) (fun h9 => ?_) (fun h9 => ?_)
      · replace hf := zif_neg h9 hf
        refine z_iincc (lv' := [(7, .int (v7 + 1)), (0, .ref (zB X + 0)), (1, .int v1), (2, .int v2), (3, .int v3), (4, .int v4), (5, .int v5), (6, .int v6)]) hX dX11_send_94 hn (by decide) 7 rfl ci_1 rfl ?_
        refine z_goto hX 24 dX11_send_97 (by decide) ?_
        refine zW.sub [1, 2, 3, 4, 5, 6, 7, 0] rfl ?_
        exact ih v6 (v7 + 1) g7 hf
      · replace hf := zif_pos h9 hf
        refine z_iload hX dX11_send_83 5 rfl ?_
        refine z_if_ne hX 91 dX11_send_85 (by decide) (fun h10 => ?_) (fun h10 => ?_)
        · replace hf := zif_neg h10 hf
          refine z_iincc (lv' := [(6, .int (v6 + 1)), (0, .ref (zB X + 0)), (1, .int v1), (2, .int v2), (3, .int v3), (4, .int v4), (5, .int v5), (7, .int v7)]) hX dX11_send_91 hn (by decide) 6 rfl ci_1 rfl ?_
          refine z_iincc (lv' := [(7, .int (v7 + 1)), (6, .int (v6 + 1)), (0, .ref (zB X + 0)), (1, .int v1), (2, .int v2), (3, .int v3), (4, .int v4), (5, .int v5)]) hX dX11_send_94 hn (by decide) 7 rfl ci_1 rfl ?_
          refine z_goto hX 24 dX11_send_97 (by decide) ?_
          refine zW.sub [2, 3, 4, 5, 6, 7, 1, 0] rfl ?_
          exact ih (v6 + 1) (v7 + 1) g7 hf
        · replace hf := zif_pos h10 hf
          refine z_iload hX dX11_send_88 7 rfl ?_
          obtain rfl := Option.some.inj hf
          exact z_iret hX hr rfl (zl rfl) (zl rfl) dX11_send_90
set_option maxHeartbeats 4000000 in
set_option maxRecDepth 100000 in
theorem fX11_send_ok {X : zX} (hX : zCX X cX11_send RX11) (hT : zNT X) (hR : X.2.2.2.1 = zrm 7 4) (hr : X.2.2.2.2.2.2.2.2.1.sig.returnType = (some .int)) (hn : X.2.2.2.2.2.2.2.2.2.1.maxLocals = 8) {v1 : Int32} {v2 : Int32} {v3 : Int32} {v4 : Int32} {v5 : Int32} {g : zM} {r : Except Nat Int32 × zM} (hf : fX11_send v1 v2 v3 v4 v5 g = some r) : zW X (zQ X (zoI r) 4) 0 0 0 [(0, .ref (zB X + 0)), (1, .int v1), (2, .int v2), (3, .int v3), (4, .int v4), (5, .int v5)] [] g := by
  unfold fX11_send at hf
  refine z_iload_n hX dX11_send_0 3 rfl ?_
  replace hf := zb3_some hf
  rcases hf with ⟨c1, g1, h1, rfl⟩ | ⟨r_1, g1, h1, hf⟩
  · exact z_callS_x hX hT ok_X11_needKind rfl q1038 q1039 (zrm_ok hR (by decide)) (ct_X11_needKind  h1) dX11_send_1 rfl rfl (zl rfl) (zl rfl)
  refine z_callS0 hX ok_X11_needKind rfl q1038 q1039 (zrm_ok hR (by decide)) (ct_X11_needKind  h1) dX11_send_1 rfl rfl ?_
  refine z_iload_n hX dX11_send_4 1 rfl ?_
  replace hf := zb3_some hf
  rcases hf with ⟨c2, g2, h2, rfl⟩ | ⟨r_2, g2, h2, hf⟩
  · exact z_callS_x hX hT ok_X11_needDigit rfl q1241 q1242 (zrm_ok hR (by decide)) (ct_X11_needDigit  h2) dX11_send_5 rfl rfl (zl rfl) (zl rfl)
  refine z_callS0 hX ok_X11_needDigit rfl q1241 q1242 (zrm_ok hR (by decide)) (ct_X11_needDigit  h2) dX11_send_5 rfl rfl ?_
  refine z_iload_n hX dX11_send_8 2 rfl ?_
  replace hf := zb3_some hf
  rcases hf with ⟨c3, g3, h3, rfl⟩ | ⟨r_3, g3, h3, hf⟩
  · exact z_callS_x hX hT ok_X11_needDigit rfl q1241 q1242 (zrm_ok hR (by decide)) (ct_X11_needDigit  h3) dX11_send_9 rfl rfl (zl rfl) (zl rfl)
  refine z_callS0 hX ok_X11_needDigit rfl q1241 q1242 (zrm_ok hR (by decide)) (ct_X11_needDigit  h3) dX11_send_9 rfl rfl ?_
  refine z_iload hX dX11_send_12 4 rfl ?_
  refine z_iconst hX dX11_send_14 ci_0 ?_
  replace hf := zb3_some hf
  rcases hf with ⟨c4, g4, h4, rfl⟩ | ⟨r_4, g4, h4, hf⟩
  · exact z_callS_x hX hT ok_X11_needAhead rfl q1195 q1196 (zrm_ok hR (by decide)) (ct_X11_needAhead  h4) dX11_send_15 rfl rfl (zl rfl) (zl rfl)
  refine z_callS0 hX ok_X11_needAhead rfl q1195 q1196 (zrm_ok hR (by decide)) (ct_X11_needAhead  h4) dX11_send_15 rfl rfl ?_
  refine z_iconst hX dX11_send_18 ci_0 ?_
  refine z_istore (lv' := [(6, .int 0), (0, .ref (zB X + 0)), (1, .int v1), (2, .int v2), (3, .int v3), (4, .int v4), (5, .int v5)]) hX dX11_send_19 hn (by decide) rfl ?_
  refine z_iconst hX dX11_send_21 ci_0 ?_
  refine z_istore (lv' := [(7, .int 0), (6, .int 0), (0, .ref (zB X + 0)), (1, .int v1), (2, .int v2), (3, .int v3), (4, .int v4), (5, .int v5)]) hX dX11_send_22 hn (by decide) rfl ?_
  refine zW.sub [2, 3, 4, 5, 6, 7, 1, 0] rfl ?_
  refine fX11_send_L24_ok hX hT hR hr hn (fun v6_11 g11 hf => ?_) zFU 0 0 g4 hf
  · refine z_iload hX dX11_send_100 0 rfl ?_
    refine z_if_eq hX 110 dX11_send_102 (by decide) (fun h12 => ?_) (fun h12 => ?_)
    · replace hf := zif_pos h12 hf
      refine z_iconst hX dX11_send_110 ci_m1 ?_
      obtain rfl := Option.some.inj hf
      exact z_iret hX hr rfl (zl rfl) (zl rfl) dX11_send_111
    · replace hf := zif_neg h12 hf
      refine z_iload hX dX11_send_105 1 rfl ?_
      refine z_goto hX 111 dX11_send_107 (by decide) ?_
      obtain rfl := Option.some.inj hf
      exact z_iret hX hr rfl (zl rfl) (zl rfl) dX11_send_111
set_option maxHeartbeats 4000000 in
set_option maxRecDepth 100000 in
theorem ct_X11_send {E : zE} {v1 : Int32} {v2 : Int32} {v3 : Int32} {v4 : Int32} {v5 : Int32} {g : zM} {r : Except Nat Int32 × zM} (hf : fX11_send v1 v2 v3 v4 v5 g = some r) : zCt yX11_send cX11_send 8 (some .int) 7 4 E [.ref (E.1 + 0), .int v1, .int v2, .int v3, .int v4, .int v5] g (zoI r) := by
  refine zmet (by decide) (zl rfl) (fun X hE hX hT hR hr hn => ?_)
  subst hE
  exact fX11_send_ok hX hT hR hr hn  hf
def fX11_cuts_L19 (v2 : Int32) (v3 : Int32) (v4 : Int32) (r5 : Nat) : Nat → Int32 → zM → Option (Except Nat Int32 × zM)
  | 0, _, _ => none
  | n + 1, v6, g => if (g r5 2) ≤ v6 then some (.ok ((-1)), g) else zb (fX7_look 446 r5 (g 3 2) g) (fun g5 => zb (fX3_shorten 447 v6 g5) (fun g6 => zb (fX7_go 446 29 v3 g6) (fun g7 => zb (fX3_lastKind 447 g7) (fun r_8 => if r_8 = v2 then if (1 : Int32) = v4 then fX11_cuts_L19 v2 v3 v4 r5 n (v6 + 1) g7 else some (.ok v6, g7) else if (0 : Int32) = v4 then fX11_cuts_L19 v2 v3 v4 r5 n (v6 + 1) g7 else some (.ok v6, g7)))))
def fX11_cuts (v1 : Int32) (v2 : Int32) (v3 : Int32) (v4 : Int32) (g : zM) : Option (Except Nat Int32 × zM) := zb3 (fX11_mailOf v1 g) (fun r_1 g1 => zb3 (fX11_needKind v2 g1) (fun _ g2 => zb3 (fX11_needAhead v3 0 g2) (fun _ g3 => fX11_cuts_L19 v2 v3 v4 r_1 zFU 0 g3)))
set_option maxHeartbeats 4000000 in
set_option maxRecDepth 100000 in
theorem fX11_cuts_L19_ok {X : zX} (hX : zCX X cX11_cuts RX11) (hT : zNT X) (hR : X.2.2.2.1 = zrm 7 3) (hr : X.2.2.2.2.2.2.2.2.1.sig.returnType = (some .int)) (hn : X.2.2.2.2.2.2.2.2.2.1.maxLocals = 7) {v2 : Int32} {v3 : Int32} {v4 : Int32} {r5 : Nat} (hkr5 : zK r5 = 3) {r : Except Nat Int32 × zM}  : ∀ (n : Nat) (v6 : Int32) (g : zM), fX11_cuts_L19 v2 v3 v4 r5 n v6 g = some r → zW X (zQ X (zoI r) 3) 3 18 19 [(0, .ref (zB X + 0)), (2, .int v2), (3, .int v3), (4, .int v4), (5, .ref (zB X + r5)), (6, .int v6)] [] g := by
  intro n
  induction n with
  | zero => intro v6 g hf; exact zno hf
  | succ n ih =>
    intro v6 g hf
    rw [fX11_cuts_L19] at hf
    refine z_iload hX dX11_cuts_19 5 rfl ?_
    refine z_aload hX dX11_cuts_21 4 rfl ?_
    refine gf_Mail_lines_N hX hkr5 qn176 dX11_cuts_23 ?_
    refine z_icmp_ge hX 108 dX11_cuts_26 (by decide) (fun h4 => ?_) (fun h4 => ?_)
    · replace hf := zif_pos h4 hf
      refine z_iconst hX dX11_cuts_108 ci_m1 ?_
      obtain rfl := Option.some.inj hf
      exact z_iret hX hr rfl (zl rfl) (zl rfl) dX11_cuts_109
    · replace hf := zif_neg h4 hf
      refine z_aload_n hX dX11_cuts_29 0 rfl ?_
      refine gf_Post_sight hX zq_0 q445 dX11_cuts_30 ?_
      refine z_aload hX dX11_cuts_33 4 rfl ?_
      refine z_aload_n hX dX11_cuts_35 0 rfl ?_
      refine gf_Post_now hX zq_0 q439 dX11_cuts_36 ?_
      refine gf_World_bag_N hX zq_2 qn273 dX11_cuts_39 ?_
      refine gf_Bag_week_N hX zq_3 qn219 dX11_cuts_42 ?_
      replace hf := zb_some hf
      obtain ⟨g5, h5, hf⟩ := hf
      refine z_callV0 hX ok_X7_look q506 q507 q508 (zrm_ok hR (by decide)) (ct_X7_look zq_446 hkr5 h5) (zrec_Sight hX zq_446) dX11_cuts_45 rfl rfl ?_
      refine z_aload_n hX dX11_cuts_48 0 rfl ?_
      refine gf_Post_sight hX zq_0 q445 dX11_cuts_49 ?_
      refine gf_Sight_mail_N hX zq_446 qn404 dX11_cuts_52 ?_
      refine z_iload hX dX11_cuts_55 5 rfl ?_
      replace hf := zb_some hf
      obtain ⟨g6, h6, hf⟩ := hf
      refine z_callV0 hX ok_X3_shorten q1114 q1115 q1116 (zrm_ok hR (by decide)) (ct_X3_shorten zq_447 h6) (zrec_Mail hX zq_447) dX11_cuts_57 rfl rfl ?_
      refine z_aload_n hX dX11_cuts_60 0 rfl ?_
      refine gf_Post_sight hX zq_0 q445 dX11_cuts_61 ?_
      refine z_aload_n hX dX11_cuts_64 0 rfl ?_
      refine gf_Post_now hX zq_0 q439 dX11_cuts_65 ?_
      refine gf_World_law_N hX zq_2 qn275 dX11_cuts_68 ?_
      refine z_iload_n hX dX11_cuts_71 2 rfl ?_
      replace hf := zb_some hf
      obtain ⟨g7, h7, hf⟩ := hf
      refine z_callV0 hX ok_X7_go q1200 q1201 q1202 (zrm_ok hR (by decide)) (ct_X7_go zq_446 zq_29 h7) (zrec_Sight hX zq_446) dX11_cuts_72 rfl rfl ?_
      refine z_aload_n hX dX11_cuts_75 0 rfl ?_
      refine gf_Post_sight hX zq_0 q445 dX11_cuts_76 ?_
      refine gf_Sight_mail_N hX zq_446 qn404 dX11_cuts_79 ?_
      replace hf := zb_some hf
      obtain ⟨r_8, h8, hf⟩ := hf
      refine z_callV1 hX ok_X3_lastKind q517 q518 q519 (zrm_ok hR (by decide)) (ct_X3_lastKind zq_447 h8) (zrec_Mail hX zq_447) dX11_cuts_82 rfl rfl ?_
      refine z_iload_n hX dX11_cuts_85 1 rfl ?_
      refine z_icmp_ne hX 93 dX11_cuts_86 (by decide) (fun h9 => ?_) (fun h9 => ?_)
      · replace hf := zif_neg h9 hf
        refine z_iconst hX dX11_cuts_93 ci_0 ?_
        refine z_iload hX dX11_cuts_94 3 rfl ?_
        refine z_icmp_eq hX 102 dX11_cuts_96 (by decide) (fun h10 => ?_) (fun h10 => ?_)
        · replace hf := zif_pos h10 hf
          refine z_iincc (lv' := [(6, .int (v6 + 1)), (0, .ref (zB X + 0)), (2, .int v2), (3, .int v3), (4, .int v4), (5, .ref (zB X + r5))]) hX dX11_cuts_102 hn (by decide) 5 rfl ci_1 rfl ?_
          refine z_goto hX 19 dX11_cuts_105 (by decide) ?_
          refine zW.sub [1, 2, 3, 4, 5, 0] rfl ?_
          exact ih (v6 + 1) g7 hf
        · replace hf := zif_neg h10 hf
          refine z_iload hX dX11_cuts_99 5 rfl ?_
          obtain rfl := Option.some.inj hf
          exact z_iret hX hr rfl (zl rfl) (zl rfl) dX11_cuts_101
      · replace hf := zif_pos h9 hf
        refine z_iconst hX dX11_cuts_89 ci_1 ?_
        refine z_goto hX 94 dX11_cuts_90 (by decide) ?_
        refine z_iload hX dX11_cuts_94 3 rfl ?_
        refine z_icmp_eq hX 102 dX11_cuts_96 (by decide) (fun h11 => ?_) (fun h11 => ?_)
        · replace hf := zif_pos h11 hf
          refine z_iincc (lv' := [(6, .int (v6 + 1)), (0, .ref (zB X + 0)), (2, .int v2), (3, .int v3), (4, .int v4), (5, .ref (zB X + r5))]) hX dX11_cuts_102 hn (by decide) 5 rfl ci_1 rfl ?_
          refine z_goto hX 19 dX11_cuts_105 (by decide) ?_
          refine zW.sub [1, 2, 3, 4, 5, 0] rfl ?_
          exact ih (v6 + 1) g7 hf
        · replace hf := zif_neg h11 hf
          refine z_iload hX dX11_cuts_99 5 rfl ?_
          obtain rfl := Option.some.inj hf
          exact z_iret hX hr rfl (zl rfl) (zl rfl) dX11_cuts_101
set_option maxHeartbeats 4000000 in
set_option maxRecDepth 100000 in
theorem fX11_cuts_ok {X : zX} (hX : zCX X cX11_cuts RX11) (hT : zNT X) (hR : X.2.2.2.1 = zrm 7 3) (hr : X.2.2.2.2.2.2.2.2.1.sig.returnType = (some .int)) (hn : X.2.2.2.2.2.2.2.2.2.1.maxLocals = 7) {v1 : Int32} {v2 : Int32} {v3 : Int32} {v4 : Int32} {g : zM} {r : Except Nat Int32 × zM} (hf : fX11_cuts v1 v2 v3 v4 g = some r) : zW X (zQ X (zoI r) 3) 0 0 0 [(0, .ref (zB X + 0)), (1, .int v1), (2, .int v2), (3, .int v3), (4, .int v4)] [] g := by
  unfold fX11_cuts at hf
  refine z_aload_n hX dX11_cuts_0 0 rfl ?_
  refine z_iload_n hX dX11_cuts_1 1 rfl ?_
  replace hf := zb3_some hf
  rcases hf with ⟨c1, g1, h1, rfl⟩ | ⟨r_1, g1, h1, hf⟩
  · exact z_callV_x hX hT ok_X11_mailOf q974 q976 q25 (zrm_ok hR (by decide)) (ct_X11_mailOf  h1) (zrec_Post hX zq_0) dX11_cuts_2 rfl rfl (zl rfl) (zl rfl)
  refine z_callV1 hX ok_X11_mailOf q974 q976 q25 (zrm_ok hR (by decide)) (ct_X11_mailOf  h1) (zrec_Post hX zq_0) dX11_cuts_2 rfl rfl ?_
  refine z_astore (lv' := [(5, .ref (zB X + r_1)), (0, .ref (zB X + 0)), (1, .int v1), (2, .int v2), (3, .int v3), (4, .int v4)]) hX dX11_cuts_5 hn (by decide) rfl ?_
  refine z_iload_n hX dX11_cuts_7 3 rfl ?_
  replace hf := zb3_some hf
  rcases hf with ⟨c2, g2, h2, rfl⟩ | ⟨r_2, g2, h2, hf⟩
  · exact z_callS_x hX hT ok_X11_needKind rfl q1038 q1039 (zrm_ok hR (by decide)) (ct_X11_needKind  h2) dX11_cuts_8 rfl rfl (zl rfl) (zl rfl)
  refine z_callS0 hX ok_X11_needKind rfl q1038 q1039 (zrm_ok hR (by decide)) (ct_X11_needKind  h2) dX11_cuts_8 rfl rfl ?_
  refine z_iload_n hX dX11_cuts_11 4 rfl ?_
  refine z_iconst hX dX11_cuts_12 ci_0 ?_
  replace hf := zb3_some hf
  rcases hf with ⟨c3, g3, h3, rfl⟩ | ⟨r_3, g3, h3, hf⟩
  · exact z_callS_x hX hT ok_X11_needAhead rfl q1195 q1196 (zrm_ok hR (by decide)) (ct_X11_needAhead  h3) dX11_cuts_13 rfl rfl (zl rfl) (zl rfl)
  refine z_callS0 hX ok_X11_needAhead rfl q1195 q1196 (zrm_ok hR (by decide)) (ct_X11_needAhead  h3) dX11_cuts_13 rfl rfl ?_
  refine z_iconst hX dX11_cuts_16 ci_0 ?_
  refine z_istore (lv' := [(6, .int 0), (5, .ref (zB X + r_1)), (0, .ref (zB X + 0)), (1, .int v1), (2, .int v2), (3, .int v3), (4, .int v4)]) hX dX11_cuts_17 hn (by decide) rfl ?_
  refine zW.sub [2, 4, 5, 6, 1, 0] rfl ?_
  exact fX11_cuts_L19_ok hX hT hR hr hn (fk_X11_mailOf  h1) zFU 0 g3 hf
set_option maxHeartbeats 4000000 in
set_option maxRecDepth 100000 in
theorem ct_X11_cuts {E : zE} {v1 : Int32} {v2 : Int32} {v3 : Int32} {v4 : Int32} {g : zM} {r : Except Nat Int32 × zM} (hf : fX11_cuts v1 v2 v3 v4 g = some r) : zCt yX11_cuts cX11_cuts 7 (some .int) 7 3 E [.ref (E.1 + 0), .int v1, .int v2, .int v3, .int v4] g (zoI r) := by
  refine zmet (by decide) (zl rfl) (fun X hE hX hT hR hr hn => ?_)
  subst hE
  exact fX11_cuts_ok hX hT hR hr hn  hf
def fX11_out_L22 (v2 : Int32) (v3 : Int32) (v4 : Int32) (r5 : Nat) : Nat → Int32 → Int32 → zM → Option (Except Nat Int32 × zM)
  | 0, _, _, _ => none
  | n + 1, v6, v7, g => if (g r5 2) ≤ v7 then some (.ok v6, g) else if (g r5 2) ≤ 1 then some (.ok v6, g) else zb (fX7_look 446 r5 (g 3 2) g) (fun g6 => zb (fX3_drop 447 v7 g6) (fun g7 => zb (fX7_go 446 29 v3 g7) (fun g8 => zb (fX3_lastKind 447 g8) (fun r_9 => zjoin (fun t0_10 => if t0_10 = v4 then fX11_out_L22 v2 v3 v4 r5 n v6 (v7 + 1) g8 else fX11_out_L22 v2 v3 v4 r5 n (v6 ||| ((1 : Int32) <<< (v7 &&& 31))) (v7 + 1) g8 : Int32 → Option (Except Nat Int32 × zM)) (fun k106 => if r_9 = v2 then k106 1 else k106 0)))))
def fX11_out (v1 : Int32) (v2 : Int32) (v3 : Int32) (v4 : Int32) (g : zM) : Option (Except Nat Int32 × zM) := zb3 (fX11_mailOf v1 g) (fun r_1 g1 => zb3 (fX11_needKind v2 g1) (fun _ g2 => zb3 (fX11_needAhead v3 0 g2) (fun _ g3 => fX11_out_L22 v2 v3 v4 r_1 zFU 0 0 g3)))
set_option maxHeartbeats 4000000 in
set_option maxRecDepth 100000 in
theorem fX11_out_L22_ok {X : zX} (hX : zCX X cX11_out RX11) (hT : zNT X) (hR : X.2.2.2.1 = zrm 7 3) (hr : X.2.2.2.2.2.2.2.2.1.sig.returnType = (some .int)) (hn : X.2.2.2.2.2.2.2.2.2.1.maxLocals = 8) {v2 : Int32} {v3 : Int32} {v4 : Int32} {r5 : Nat} (hkr5 : zK r5 = 3) {r : Except Nat Int32 × zM}  : ∀ (n : Nat) (v6 : Int32) (v7 : Int32) (g : zM), fX11_out_L22 v2 v3 v4 r5 n v6 v7 g = some r → zW X (zQ X (zoI r) 3) 3 18 22 [(0, .ref (zB X + 0)), (2, .int v2), (3, .int v3), (4, .int v4), (5, .ref (zB X + r5)), (6, .int v6), (7, .int v7)] [] g := by
  intro n
  induction n with
  | zero => intro v6 v7 g hf; exact zno hf
  | succ n ih =>
    intro v6 v7 g hf
    rw [fX11_out_L22] at hf
    refine z_iload hX dX11_out_22 6 rfl ?_
    refine z_aload hX dX11_out_24 4 rfl ?_
    refine gf_Mail_lines_N hX hkr5 qn176 dX11_out_26 ?_
    refine z_icmp_ge hX 126 dX11_out_29 (by decide) (fun h4 => ?_) (fun h4 => ?_)
    · replace hf := zif_pos h4 hf
      refine z_iload hX dX11_out_126 5 rfl ?_
      obtain rfl := Option.some.inj hf
      exact z_iret hX hr rfl (zl rfl) (zl rfl) dX11_out_128
    · replace hf := zif_neg h4 hf
      refine z_aload hX dX11_out_32 4 rfl ?_
      refine gf_Mail_lines_N hX hkr5 qn176 dX11_out_34 ?_
      refine z_iconst hX dX11_out_37 ci_1 ?_
      refine z_icmp_le hX 126 dX11_out_38 (by decide) (fun h5 => ?_) (fun h5 => ?_)
      · replace hf := zif_pos h5 hf
        refine z_iload hX dX11_out_126 5 rfl ?_
        obtain rfl := Option.some.inj hf
        exact z_iret hX hr rfl (zl rfl) (zl rfl) dX11_out_128
      · replace hf := zif_neg h5 hf
        refine z_aload_n hX dX11_out_41 0 rfl ?_
        refine gf_Post_sight hX zq_0 q445 dX11_out_42 ?_
        refine z_aload hX dX11_out_45 4 rfl ?_
        refine z_aload_n hX dX11_out_47 0 rfl ?_
        refine gf_Post_now hX zq_0 q439 dX11_out_48 ?_
        refine gf_World_bag_N hX zq_2 qn273 dX11_out_51 ?_
        refine gf_Bag_week_N hX zq_3 qn219 dX11_out_54 ?_
        replace hf := zb_some hf
        obtain ⟨g6, h6, hf⟩ := hf
        refine z_callV0 hX ok_X7_look q506 q507 q508 (zrm_ok hR (by decide)) (ct_X7_look zq_446 hkr5 h6) (zrec_Sight hX zq_446) dX11_out_57 rfl rfl ?_
        refine z_aload_n hX dX11_out_60 0 rfl ?_
        refine gf_Post_sight hX zq_0 q445 dX11_out_61 ?_
        refine gf_Sight_mail_N hX zq_446 qn404 dX11_out_64 ?_
        refine z_iload hX dX11_out_67 6 rfl ?_
        replace hf := zb_some hf
        obtain ⟨g7, h7, hf⟩ := hf
        refine z_callV0 hX ok_X3_drop q1142 q1143 q1144 (zrm_ok hR (by decide)) (ct_X3_drop zq_447 h7) (zrec_Mail hX zq_447) dX11_out_69 rfl rfl ?_
        refine z_aload_n hX dX11_out_72 0 rfl ?_
        refine gf_Post_sight hX zq_0 q445 dX11_out_73 ?_
        refine z_aload_n hX dX11_out_76 0 rfl ?_
        refine gf_Post_now hX zq_0 q439 dX11_out_77 ?_
        refine gf_World_law_N hX zq_2 qn275 dX11_out_80 ?_
        refine z_iload_n hX dX11_out_83 2 rfl ?_
        replace hf := zb_some hf
        obtain ⟨g8, h8, hf⟩ := hf
        refine z_callV0 hX ok_X7_go q1200 q1201 q1202 (zrm_ok hR (by decide)) (ct_X7_go zq_446 zq_29 h8) (zrec_Sight hX zq_446) dX11_out_84 rfl rfl ?_
        refine z_aload_n hX dX11_out_87 0 rfl ?_
        refine gf_Post_sight hX zq_0 q445 dX11_out_88 ?_
        refine gf_Sight_mail_N hX zq_446 qn404 dX11_out_91 ?_
        replace hf := zb_some hf
        obtain ⟨r_9, h9, hf⟩ := hf
        refine z_callV1 hX ok_X3_lastKind q517 q518 q519 (zrm_ok hR (by decide)) (ct_X3_lastKind zq_447 h9) (zrec_Mail hX zq_447) dX11_out_94 rfl rfl ?_
        refine z_iload_n hX dX11_out_97 1 rfl ?_
        refine zjoin_ok (P := fun (k : Int32 → Option (Except Nat Int32 × zM)) => ∀ (t0_10 : Int32), k t0_10 = some r → zW X (zQ X (zoI r) 3) 3 18 106 [(0, .ref (zB X + 0)), (2, .int v2), (3, .int v3), (4, .int v4), (5, .ref (zB X + r5)), (6, .int v6), (7, .int v7)] [.int t0_10] g8) hf (fun t0_10 hf => ?_) (fun k106 hk106 hf => ?_)
        · refine z_iload hX dX11_out_106 3 rfl ?_
          refine z_icmp_eq hX 120 dX11_out_108 (by decide) (fun h11 => ?_) (fun h11 => ?_)
          · replace hf := zif_pos h11 hf
            refine z_iincc (lv' := [(7, .int (v7 + 1)), (0, .ref (zB X + 0)), (2, .int v2), (3, .int v3), (4, .int v4), (5, .ref (zB X + r5)), (6, .int v6)]) hX dX11_out_120 hn (by decide) 6 rfl ci_1 rfl ?_
            refine z_goto hX 22 dX11_out_123 (by decide) ?_
            refine zW.sub [1, 2, 3, 4, 5, 6, 0] rfl ?_
            exact ih v6 (v7 + 1) g8 hf
          · replace hf := zif_neg h11 hf
            refine z_iload hX dX11_out_111 5 rfl ?_
            refine z_iconst hX dX11_out_113 ci_1 ?_
            refine z_iload hX dX11_out_114 6 rfl ?_
            refine z_ishl hX dX11_out_116 ?_
            refine z_ior hX dX11_out_117 ?_
            refine z_istore (lv' := [(6, .int (v6 ||| ((1 : Int32) <<< (v7 &&& 31)))), (0, .ref (zB X + 0)), (2, .int v2), (3, .int v3), (4, .int v4), (5, .ref (zB X + r5)), (7, .int v7)]) hX dX11_out_118 hn (by decide) rfl ?_
            refine z_iincc (lv' := [(7, .int (v7 + 1)), (6, .int (v6 ||| ((1 : Int32) <<< (v7 &&& 31)))), (0, .ref (zB X + 0)), (2, .int v2), (3, .int v3), (4, .int v4), (5, .ref (zB X + r5))]) hX dX11_out_120 hn (by decide) 6 rfl ci_1 rfl ?_
            refine z_goto hX 22 dX11_out_123 (by decide) ?_
            refine zW.sub [2, 3, 4, 5, 6, 1, 0] rfl ?_
            exact ih (v6 ||| ((1 : Int32) <<< (v7 &&& 31))) (v7 + 1) g8 hf
        · refine z_icmp_ne hX 105 dX11_out_98 (by decide) (fun h12 => ?_) (fun h12 => ?_)
          · replace hf := zif_neg h12 hf
            refine z_iconst hX dX11_out_105 ci_0 ?_
            exact hk106 0 hf
          · replace hf := zif_pos h12 hf
            refine z_iconst hX dX11_out_101 ci_1 ?_
            refine z_goto hX 106 dX11_out_102 (by decide) ?_
            exact hk106 1 hf
set_option maxHeartbeats 4000000 in
set_option maxRecDepth 100000 in
theorem fX11_out_ok {X : zX} (hX : zCX X cX11_out RX11) (hT : zNT X) (hR : X.2.2.2.1 = zrm 7 3) (hr : X.2.2.2.2.2.2.2.2.1.sig.returnType = (some .int)) (hn : X.2.2.2.2.2.2.2.2.2.1.maxLocals = 8) {v1 : Int32} {v2 : Int32} {v3 : Int32} {v4 : Int32} {g : zM} {r : Except Nat Int32 × zM} (hf : fX11_out v1 v2 v3 v4 g = some r) : zW X (zQ X (zoI r) 3) 0 0 0 [(0, .ref (zB X + 0)), (1, .int v1), (2, .int v2), (3, .int v3), (4, .int v4)] [] g := by
  unfold fX11_out at hf
  refine z_aload_n hX dX11_out_0 0 rfl ?_
  refine z_iload_n hX dX11_out_1 1 rfl ?_
  replace hf := zb3_some hf
  rcases hf with ⟨c1, g1, h1, rfl⟩ | ⟨r_1, g1, h1, hf⟩
  · exact z_callV_x hX hT ok_X11_mailOf q974 q976 q25 (zrm_ok hR (by decide)) (ct_X11_mailOf  h1) (zrec_Post hX zq_0) dX11_out_2 rfl rfl (zl rfl) (zl rfl)
  refine z_callV1 hX ok_X11_mailOf q974 q976 q25 (zrm_ok hR (by decide)) (ct_X11_mailOf  h1) (zrec_Post hX zq_0) dX11_out_2 rfl rfl ?_
  refine z_astore (lv' := [(5, .ref (zB X + r_1)), (0, .ref (zB X + 0)), (1, .int v1), (2, .int v2), (3, .int v3), (4, .int v4)]) hX dX11_out_5 hn (by decide) rfl ?_
  refine z_iload_n hX dX11_out_7 3 rfl ?_
  replace hf := zb3_some hf
  rcases hf with ⟨c2, g2, h2, rfl⟩ | ⟨r_2, g2, h2, hf⟩
  · exact z_callS_x hX hT ok_X11_needKind rfl q1038 q1039 (zrm_ok hR (by decide)) (ct_X11_needKind  h2) dX11_out_8 rfl rfl (zl rfl) (zl rfl)
  refine z_callS0 hX ok_X11_needKind rfl q1038 q1039 (zrm_ok hR (by decide)) (ct_X11_needKind  h2) dX11_out_8 rfl rfl ?_
  refine z_iload_n hX dX11_out_11 4 rfl ?_
  refine z_iconst hX dX11_out_12 ci_0 ?_
  replace hf := zb3_some hf
  rcases hf with ⟨c3, g3, h3, rfl⟩ | ⟨r_3, g3, h3, hf⟩
  · exact z_callS_x hX hT ok_X11_needAhead rfl q1195 q1196 (zrm_ok hR (by decide)) (ct_X11_needAhead  h3) dX11_out_13 rfl rfl (zl rfl) (zl rfl)
  refine z_callS0 hX ok_X11_needAhead rfl q1195 q1196 (zrm_ok hR (by decide)) (ct_X11_needAhead  h3) dX11_out_13 rfl rfl ?_
  refine z_iconst hX dX11_out_16 ci_0 ?_
  refine z_istore (lv' := [(6, .int 0), (5, .ref (zB X + r_1)), (0, .ref (zB X + 0)), (1, .int v1), (2, .int v2), (3, .int v3), (4, .int v4)]) hX dX11_out_17 hn (by decide) rfl ?_
  refine z_iconst hX dX11_out_19 ci_0 ?_
  refine z_istore (lv' := [(7, .int 0), (6, .int 0), (5, .ref (zB X + r_1)), (0, .ref (zB X + 0)), (1, .int v1), (2, .int v2), (3, .int v3), (4, .int v4)]) hX dX11_out_20 hn (by decide) rfl ?_
  refine zW.sub [3, 5, 6, 7, 2, 1, 0] rfl ?_
  exact fX11_out_L22_ok hX hT hR hr hn (fk_X11_mailOf  h1) zFU 0 0 g3 hf
set_option maxHeartbeats 4000000 in
set_option maxRecDepth 100000 in
theorem ct_X11_out {E : zE} {v1 : Int32} {v2 : Int32} {v3 : Int32} {v4 : Int32} {g : zM} {r : Except Nat Int32 × zM} (hf : fX11_out v1 v2 v3 v4 g = some r) : zCt yX11_out cX11_out 8 (some .int) 7 3 E [.ref (E.1 + 0), .int v1, .int v2, .int v3, .int v4] g (zoI r) := by
  refine zmet (by decide) (zl rfl) (fun X hE hX hT hR hr hn => ?_)
  subst hE
  exact fX11_out_ok hX hT hR hr hn  hf
def fX1_astrayIn_L4 (h : Nat) (r1 : Nat) : Nat → Int32 → Int32 → zM → Option (Int32 × zM)
  | 0, _, _, _ => none
  | n + 1, v2, v3, g => if (g r1 2) ≤ v3 then some (v2, g) else zb (fX3_weekAt r1 v3 g) (fun r_2 => zb2 (fX1_follows h r1 v3 r_2 g) (fun r_3 g3 => zb (fX3_kindAt r1 v3 g3) (fun r_4 => if r_3 = r_4 then fX1_astrayIn_L4 h r1 n v2 (v3 + 1) g3 else fX1_astrayIn_L4 h r1 n (v2 ||| ((1 : Int32) <<< (v3 &&& 31))) (v3 + 1) g3)))
def fX1_astrayIn (h : Nat) (r1 : Nat) (g : zM) : Option (Int32 × zM) := fX1_astrayIn_L4 h r1 zFU 0 1 g
set_option maxHeartbeats 4000000 in
set_option maxRecDepth 100000 in
theorem fX1_astrayIn_L4_ok {X : zX} (hX : zCX X cX1_astrayIn RX1) (hT : zNT X) (hR : X.2.2.2.1 = zrm 3 0) (hr : X.2.2.2.2.2.2.2.2.1.sig.returnType = (some .int)) (hn : X.2.2.2.2.2.2.2.2.2.1.maxLocals = 4) {h : Nat} {r1 : Nat} (hkh : zK h = 1) (hkr1 : zK r1 = 3) {r : Int32 × zM}  : ∀ (n : Nat) (v2 : Int32) (v3 : Int32) (g : zM), fX1_astrayIn_L4 h r1 n v2 v3 g = some r → zW X (zQ X (.inl (some (.int r.1), r.2)) 0) 0 0 4 [(0, .ref (zB X + h)), (1, .ref (zB X + r1)), (2, .int v2), (3, .int v3)] [] g := by
  intro n
  induction n with
  | zero => intro v2 v3 g hf; exact zno hf
  | succ n ih =>
    intro v2 v3 g hf
    rw [fX1_astrayIn_L4] at hf
    refine z_iload_n hX dX1_astrayIn_4 3 rfl ?_
    refine z_aload_n hX dX1_astrayIn_5 1 rfl ?_
    refine gf_Mail_lines_N hX hkr1 qn175 dX1_astrayIn_6 ?_
    refine z_icmp_ge hX 43 dX1_astrayIn_9 (by decide) (fun h1 => ?_) (fun h1 => ?_)
    · replace hf := zif_pos h1 hf
      refine z_iload_n hX dX1_astrayIn_43 2 rfl ?_
      obtain rfl := Option.some.inj hf
      exact z_iret hX hr rfl (zl rfl) (zl rfl) dX1_astrayIn_44
    · replace hf := zif_neg h1 hf
      refine z_aload_n hX dX1_astrayIn_12 0 rfl ?_
      refine z_aload_n hX dX1_astrayIn_13 1 rfl ?_
      refine z_iload_n hX dX1_astrayIn_14 3 rfl ?_
      refine z_aload_n hX dX1_astrayIn_15 1 rfl ?_
      refine z_iload_n hX dX1_astrayIn_16 3 rfl ?_
      replace hf := zb_some hf
      obtain ⟨r_2, h2, hf⟩ := hf
      refine z_callV1 hX ok_X3_weekAt q1275 q1027 q1028 (zrm_ok hR (by decide)) (ct_X3_weekAt hkr1 h2) (zrec_Mail hX hkr1) dX1_astrayIn_17 rfl rfl ?_
      replace hf := zb2_some hf
      obtain ⟨r_3, g3, h3, hf⟩ := hf
      refine z_callV1 hX ok_X1_follows q533 q535 q2 (zrm_ok hR (by decide)) (ct_X1_follows hkh hkr1 h3) (zrec_Law hX hkh) dX1_astrayIn_20 rfl rfl ?_
      refine z_aload_n hX dX1_astrayIn_23 1 rfl ?_
      refine z_iload_n hX dX1_astrayIn_24 3 rfl ?_
      replace hf := zb_some hf
      obtain ⟨r_4, h4, hf⟩ := hf
      refine z_callV1 hX ok_X3_kindAt q537 q522 q523 (zrm_ok hR (by decide)) (ct_X3_kindAt hkr1 h4) (zrec_Mail hX hkr1) dX1_astrayIn_25 rfl rfl ?_
      refine z_icmp_eq hX 37 dX1_astrayIn_28 (by decide) (fun h5 => ?_) (fun h5 => ?_)
      · replace hf := zif_pos h5 hf
        refine z_iincc (lv' := [(3, .int (v3 + 1)), (0, .ref (zB X + h)), (1, .ref (zB X + r1)), (2, .int v2)]) hX dX1_astrayIn_37 hn (by decide) 3 rfl ci_1 rfl ?_
        refine z_goto hX 4 dX1_astrayIn_40 (by decide) ?_
        refine zW.sub [1, 2, 3, 0] rfl ?_
        exact ih v2 (v3 + 1) g3 hf
      · replace hf := zif_neg h5 hf
        refine z_iload_n hX dX1_astrayIn_31 2 rfl ?_
        refine z_iconst hX dX1_astrayIn_32 ci_1 ?_
        refine z_iload_n hX dX1_astrayIn_33 3 rfl ?_
        refine z_ishl hX dX1_astrayIn_34 ?_
        refine z_ior hX dX1_astrayIn_35 ?_
        refine z_istore_n (lv' := [(2, .int (v2 ||| ((1 : Int32) <<< (v3 &&& 31)))), (0, .ref (zB X + h)), (1, .ref (zB X + r1)), (3, .int v3)]) hX dX1_astrayIn_36 hn (by decide) rfl ?_
        refine z_iincc (lv' := [(3, .int (v3 + 1)), (2, .int (v2 ||| ((1 : Int32) <<< (v3 &&& 31)))), (0, .ref (zB X + h)), (1, .ref (zB X + r1))]) hX dX1_astrayIn_37 hn (by decide) 3 rfl ci_1 rfl ?_
        refine z_goto hX 4 dX1_astrayIn_40 (by decide) ?_
        refine zW.sub [2, 3, 1, 0] rfl ?_
        exact ih (v2 ||| ((1 : Int32) <<< (v3 &&& 31))) (v3 + 1) g3 hf
set_option maxHeartbeats 4000000 in
set_option maxRecDepth 100000 in
theorem fX1_astrayIn_ok {X : zX} (hX : zCX X cX1_astrayIn RX1) (hT : zNT X) (hR : X.2.2.2.1 = zrm 3 0) (hr : X.2.2.2.2.2.2.2.2.1.sig.returnType = (some .int)) (hn : X.2.2.2.2.2.2.2.2.2.1.maxLocals = 4) {h : Nat} {r1 : Nat} (hkh : zK h = 1) (hk1 : zK r1 = 3) {g : zM} {r : Int32 × zM} (hf : fX1_astrayIn h r1 g = some r) : zW X (zQ X (.inl (some (.int r.1), r.2)) 0) 0 0 0 [(0, .ref (zB X + h)), (1, .ref (zB X + r1))] [] g := by
  unfold fX1_astrayIn at hf
  refine z_iconst hX dX1_astrayIn_0 ci_0 ?_
  refine z_istore_n (lv' := [(2, .int 0), (0, .ref (zB X + h)), (1, .ref (zB X + r1))]) hX dX1_astrayIn_1 hn (by decide) rfl ?_
  refine z_iconst hX dX1_astrayIn_2 ci_1 ?_
  refine z_istore_n (lv' := [(3, .int 1), (2, .int 0), (0, .ref (zB X + h)), (1, .ref (zB X + r1))]) hX dX1_astrayIn_3 hn (by decide) rfl ?_
  refine zW.sub [2, 3, 1, 0] rfl ?_
  exact fX1_astrayIn_L4_ok hX hT hR hr hn hkh hk1 zFU 0 1 g hf
set_option maxHeartbeats 4000000 in
set_option maxRecDepth 100000 in
theorem ct_X1_astrayIn {E : zE} {h : Nat} {r1 : Nat} (hkh : zK h = 1) (hk1 : zK r1 = 3) {g : zM} {r : Int32 × zM} (hf : fX1_astrayIn h r1 g = some r) : zCt yX1_astrayIn cX1_astrayIn 4 (some .int) 3 0 E [.ref (E.1 + h), .ref (E.1 + r1)] g (.inl (some (.int r.1), r.2)) := by
  refine zmet (by decide) (zl rfl) (fun X hE hX hT hR hr hn => ?_)
  subst hE
  exact fX1_astrayIn_ok hX hT hR hr hn hkh hk1 hf
def fX11_astray (v1 : Int32) (g : zM) : Option (Except Nat Int32 × zM) := zb3 (fX11_mailOf v1 g) (fun r_1 g1 => zb2 (fX1_astrayIn 29 r_1 g1) (fun r_2 g2 => some (.ok r_2, g2)))
set_option maxHeartbeats 4000000 in
set_option maxRecDepth 100000 in
theorem fX11_astray_ok {X : zX} (hX : zCX X cX11_astray RX11) (hT : zNT X) (hR : X.2.2.2.1 = zrm 4 1) (hr : X.2.2.2.2.2.2.2.2.1.sig.returnType = (some .int)) (hn : X.2.2.2.2.2.2.2.2.2.1.maxLocals = 2) {v1 : Int32} {g : zM} {r : Except Nat Int32 × zM} (hf : fX11_astray v1 g = some r) : zW X (zQ X (zoI r) 1) 0 0 0 [(0, .ref (zB X + 0)), (1, .int v1)] [] g := by
  unfold fX11_astray at hf
  refine z_aload_n hX dX11_astray_0 0 rfl ?_
  refine gf_Post_now hX zq_0 q439 dX11_astray_1 ?_
  refine gf_World_law_N hX zq_2 qn275 dX11_astray_4 ?_
  refine z_aload_n hX dX11_astray_7 0 rfl ?_
  refine z_iload_n hX dX11_astray_8 1 rfl ?_
  replace hf := zb3_some hf
  rcases hf with ⟨c1, g1, h1, rfl⟩ | ⟨r_1, g1, h1, hf⟩
  · exact z_callV_x hX hT ok_X11_mailOf q974 q976 q25 (zrm_ok hR (by decide)) (ct_X11_mailOf  h1) (zrec_Post hX zq_0) dX11_astray_9 rfl rfl (zl rfl) (zl rfl)
  refine z_callV1 hX ok_X11_mailOf q974 q976 q25 (zrm_ok hR (by decide)) (ct_X11_mailOf  h1) (zrec_Post hX zq_0) dX11_astray_9 rfl rfl ?_
  replace hf := zb2_some hf
  obtain ⟨r_2, g2, h2, hf⟩ := hf
  refine z_callV1 hX ok_X1_astrayIn q1271 q1272 q1273 (zrm_ok hR (by decide)) (ct_X1_astrayIn zq_29 (fk_X11_mailOf  h1) h2) (zrec_Law hX zq_29) dX11_astray_12 rfl rfl ?_
  obtain rfl := Option.some.inj hf
  exact z_iret hX hr rfl (zl rfl) (zl rfl) dX11_astray_15
set_option maxHeartbeats 4000000 in
set_option maxRecDepth 100000 in
theorem ct_X11_astray {E : zE} {v1 : Int32} {g : zM} {r : Except Nat Int32 × zM} (hf : fX11_astray v1 g = some r) : zCt yX11_astray cX11_astray 2 (some .int) 4 1 E [.ref (E.1 + 0), .int v1] g (zoI r) := by
  refine zmet (by decide) (zl rfl) (fun X hE hX hT hR hr hn => ?_)
  subst hE
  exact fX11_astray_ok hX hT hR hr hn  hf
def fX11_written_L19 (v2 : Int32) (g : zM) (k32 : Int32 → Option (Except Nat Int32 × zM)) : Nat → Int32 → Option (Except Nat Int32 × zM)
  | 0, _ => none
  | n + 1, v3 => if v3 ≤ 0 then some (.ok 1, g) else if ((v2 >>> (v3 &&& 31)) &&& 1) = 1 then k32 v3 else fX11_written_L19 v2 g k32 n (v3 + (-1))
def fX11_written (v1 : Int32) (g : zM) : Option (Except Nat Int32 × zM) := zb3 (fX11_mailOf v1 g) (fun r_1 g1 => zb2 (fX1_astrayIn 29 r_1 g1) (fun r_2 g2 => fX11_written_L19 r_2 g2 (fun v3_5 => some (.ok (v3_5 + 1), g2)) zFU 23))
set_option maxHeartbeats 4000000 in
set_option maxRecDepth 100000 in
theorem fX11_written_L19_ok {X : zX} (hX : zCX X cX11_written RX11) (hT : zNT X) (hR : X.2.2.2.1 = zrm 4 1) (hr : X.2.2.2.2.2.2.2.2.1.sig.returnType = (some .int)) (hn : X.2.2.2.2.2.2.2.2.2.1.maxLocals = 4) {v2 : Int32} {g : zM} {k32 : Int32 → Option (Except Nat Int32 × zM)} {r : Except Nat Int32 × zM} (hk32 : ∀ (v3 : Int32), k32 v3 = some r → zW X (zQ X (zoI r) 1) 1 6 32 [(3, .int v3)] [] g) : ∀ (n : Nat) (v3 : Int32), fX11_written_L19 v2 g k32 n v3 = some r → zW X (zQ X (zoI r) 1) 1 6 19 [(2, .int v2), (3, .int v3)] [] g := by
  intro n
  induction n with
  | zero => intro v3 hf; exact zno hf
  | succ n ih =>
    intro v3 hf
    rw [fX11_written_L19] at hf
    refine z_iload_n hX dX11_written_19 1 rfl ?_
    refine z_if_le hX 42 dX11_written_20 (by decide) (fun h3 => ?_) (fun h3 => ?_)
    · replace hf := zif_pos h3 hf
      refine z_iconst hX dX11_written_42 ci_1 ?_
      obtain rfl := Option.some.inj hf
      exact z_iret hX hr rfl (zl rfl) (zl rfl) dX11_written_43
    · replace hf := zif_neg h3 hf
      refine z_iload_n hX dX11_written_23 0 rfl ?_
      refine z_iload_n hX dX11_written_24 1 rfl ?_
      refine z_ishr hX dX11_written_25 ?_
      refine z_iconst hX dX11_written_26 ci_1 ?_
      refine z_iand hX dX11_written_27 ?_
      refine z_iconst hX dX11_written_28 ci_1 ?_
      refine z_icmp_ne hX 36 dX11_written_29 (by decide) (fun h4 => ?_) (fun h4 => ?_)
      · replace hf := zif_neg h4 hf
        refine z_iincc (lv' := [(3, .int (v3 + (-1))), (2, .int v2)]) hX dX11_written_36 hn (by decide) 1 rfl ci_m1 rfl ?_
        refine z_goto hX 19 dX11_written_39 (by decide) ?_
        refine zW.sub [1, 0] rfl ?_
        exact ih (v3 + (-1)) hf
      · replace hf := zif_pos h4 hf
        refine zW.sub [1] rfl ?_
        exact hk32 v3 hf
set_option maxHeartbeats 4000000 in
set_option maxRecDepth 100000 in
theorem fX11_written_ok {X : zX} (hX : zCX X cX11_written RX11) (hT : zNT X) (hR : X.2.2.2.1 = zrm 4 1) (hr : X.2.2.2.2.2.2.2.2.1.sig.returnType = (some .int)) (hn : X.2.2.2.2.2.2.2.2.2.1.maxLocals = 4) {v1 : Int32} {g : zM} {r : Except Nat Int32 × zM} (hf : fX11_written v1 g = some r) : zW X (zQ X (zoI r) 1) 0 0 0 [(0, .ref (zB X + 0)), (1, .int v1)] [] g := by
  unfold fX11_written at hf
  refine z_aload_n hX dX11_written_0 0 rfl ?_
  refine gf_Post_now hX zq_0 q439 dX11_written_1 ?_
  refine gf_World_law_N hX zq_2 qn275 dX11_written_4 ?_
  refine z_aload_n hX dX11_written_7 0 rfl ?_
  refine z_iload_n hX dX11_written_8 1 rfl ?_
  replace hf := zb3_some hf
  rcases hf with ⟨c1, g1, h1, rfl⟩ | ⟨r_1, g1, h1, hf⟩
  · exact z_callV_x hX hT ok_X11_mailOf q974 q976 q25 (zrm_ok hR (by decide)) (ct_X11_mailOf  h1) (zrec_Post hX zq_0) dX11_written_9 rfl rfl (zl rfl) (zl rfl)
  refine z_callV1 hX ok_X11_mailOf q974 q976 q25 (zrm_ok hR (by decide)) (ct_X11_mailOf  h1) (zrec_Post hX zq_0) dX11_written_9 rfl rfl ?_
  replace hf := zb2_some hf
  obtain ⟨r_2, g2, h2, hf⟩ := hf
  refine z_callV1 hX ok_X1_astrayIn q1271 q1272 q1273 (zrm_ok hR (by decide)) (ct_X1_astrayIn zq_29 (fk_X11_mailOf  h1) h2) (zrec_Law hX zq_29) dX11_written_12 rfl rfl ?_
  refine z_istore_n (lv' := [(2, .int r_2), (0, .ref (zB X + 0)), (1, .int v1)]) hX dX11_written_15 hn (by decide) rfl ?_
  refine z_bipush hX dX11_written_16 cb_23 ?_
  refine z_istore_n (lv' := [(3, .int 23), (2, .int r_2), (0, .ref (zB X + 0)), (1, .int v1)]) hX dX11_written_18 hn (by decide) rfl ?_
  refine zW.sub [1, 0] rfl ?_
  refine fX11_written_L19_ok hX hT hR hr hn (fun v3_5 hf => ?_) zFU 23 hf
  · refine z_iload_n hX dX11_written_32 0 rfl ?_
    refine z_iconst hX dX11_written_33 ci_1 ?_
    refine z_iadd hX dX11_written_34 ?_
    obtain rfl := Option.some.inj hf
    exact z_iret hX hr rfl (zl rfl) (zl rfl) dX11_written_35
set_option maxHeartbeats 4000000 in
set_option maxRecDepth 100000 in
theorem ct_X11_written {E : zE} {v1 : Int32} {g : zM} {r : Except Nat Int32 × zM} (hf : fX11_written v1 g = some r) : zCt yX11_written cX11_written 4 (some .int) 4 1 E [.ref (E.1 + 0), .int v1] g (zoI r) := by
  refine zmet (by decide) (zl rfl) (fun X hE hX hT hR hr hn => ?_)
  subst hE
  exact fX11_written_ok hX hT hR hr hn  hf
def fX1_leads_L2 (h : Nat) (v1 : Int32) (v2 : Int32) (g : zM) : Nat → Int32 → Option Int32
  | 0, _ => none
  | n + 1, v3 => if (g h 7) ≤ v3 then some 0 else zchk v3 12 (if (g (h + 1) v3.toNatClampNeg) = v1 then zchk v3 12 (if (g (h + 2) v3.toNatClampNeg) = v2 then some 1 else fX1_leads_L2 h v1 v2 g n (v3 + 1)) else fX1_leads_L2 h v1 v2 g n (v3 + 1))
def fX1_leads (h : Nat) (v1 : Int32) (v2 : Int32) (g : zM) : Option Int32 := fX1_leads_L2 h v1 v2 g zFU 0
set_option maxHeartbeats 4000000 in
set_option maxRecDepth 100000 in
theorem fX1_leads_L2_ok {X : zX} (hX : zCX X cX1_leads RX1) (hT : zNT X) (hR : X.2.2.2.1 = zrm 0 0) (hr : X.2.2.2.2.2.2.2.2.1.sig.returnType = (some .boolean)) (hn : X.2.2.2.2.2.2.2.2.2.1.maxLocals = 4) {h : Nat} {v1 : Int32} {v2 : Int32} (hkh : zK h = 1) {g : zM} {r : Int32}  : ∀ (n : Nat) (v3 : Int32), fX1_leads_L2 h v1 v2 g n v3 = some r → zW X (zQ X (.inl (some (.int r), g)) 0) 0 0 2 [(0, .ref (zB X + h)), (1, .int v1), (2, .int v2), (3, .int v3)] [] g := by
  intro n
  induction n with
  | zero => intro v3 hf; exact zno hf
  | succ n ih =>
    intro v3 hf
    rw [fX1_leads_L2] at hf
    refine z_iload_n hX dX1_leads_2 3 rfl ?_
    refine z_aload_n hX dX1_leads_3 0 rfl ?_
    refine gf_Law_size hX hkh q248 dX1_leads_4 ?_
    refine z_icmp_ge hX 38 dX1_leads_7 (by decide) (fun h1 => ?_) (fun h1 => ?_)
    · replace hf := zif_pos h1 hf
      refine z_iconst hX dX1_leads_38 ci_0 ?_
      obtain rfl := Option.some.inj hf
      exact z_iret hX hr (zbn (Or.inl rfl)) (zl rfl) (zl rfl) dX1_leads_39
    · replace hf := zif_neg h1 hf
      refine z_aload_n hX dX1_leads_10 0 rfl ?_
      refine gf_Law_froms hX hkh q241 dX1_leads_11 ?_
      refine z_iload_n hX dX1_leads_14 3 rfl ?_
      replace hf := zchk_some hf
      obtain ⟨h2, hf⟩ := hf
      refine z_iald hX (zk_Law_froms hkh) (by decide) (zc_1012 _ _ _) h2 dX1_leads_15 ?_
      refine z_iload_n hX dX1_leads_16 1 rfl ?_
      refine z_icmp_ne hX 32 dX1_leads_17 (by decide) (fun h3 => ?_) (fun h3 => ?_)
      · replace hf := zif_neg h3 hf
        refine z_iincc (lv' := [(3, .int (v3 + 1)), (0, .ref (zB X + h)), (1, .int v1), (2, .int v2)]) hX dX1_leads_32 hn (by decide) 3 rfl ci_1 rfl ?_
        refine z_goto hX 2 dX1_leads_35 (by decide) ?_
        refine zW.sub [1, 2, 3, 0] rfl ?_
        exact ih (v3 + 1) hf
      · replace hf := zif_pos h3 hf
        refine z_aload_n hX dX1_leads_20 0 rfl ?_
        refine gf_Law_tos hX hkh q242 dX1_leads_21 ?_
        refine z_iload_n hX dX1_leads_24 3 rfl ?_
        replace hf := zchk_some hf
        obtain ⟨h4, hf⟩ := hf
        refine z_iald hX (zk_Law_tos hkh) (by decide) (zc_1012 _ _ _) h4 dX1_leads_25 ?_
        refine z_iload_n hX dX1_leads_26 2 rfl ?_
        refine z_icmp_ne hX 32 dX1_leads_27 (by decide) (fun h5 => ?_) (fun h5 => ?_)
        · replace hf := zif_neg h5 hf
          refine z_iincc (lv' := [(3, .int (v3 + 1)), (0, .ref (zB X + h)), (1, .int v1), (2, .int v2)]) hX dX1_leads_32 hn (by decide) 3 rfl ci_1 rfl ?_
          refine z_goto hX 2 dX1_leads_35 (by decide) ?_
          refine zW.sub [1, 2, 3, 0] rfl ?_
          exact ih (v3 + 1) hf
        · replace hf := zif_pos h5 hf
          refine z_iconst hX dX1_leads_30 ci_1 ?_
          obtain rfl := Option.some.inj hf
          exact z_iret hX hr (zbn (Or.inr rfl)) (zl rfl) (zl rfl) dX1_leads_31
set_option maxHeartbeats 4000000 in
set_option maxRecDepth 100000 in
theorem fX1_leads_ok {X : zX} (hX : zCX X cX1_leads RX1) (hT : zNT X) (hR : X.2.2.2.1 = zrm 0 0) (hr : X.2.2.2.2.2.2.2.2.1.sig.returnType = (some .boolean)) (hn : X.2.2.2.2.2.2.2.2.2.1.maxLocals = 4) {h : Nat} {v1 : Int32} {v2 : Int32} (hkh : zK h = 1) {g : zM} {r : Int32} (hf : fX1_leads h v1 v2 g = some r) : zW X (zQ X (.inl (some (.int r), g)) 0) 0 0 0 [(0, .ref (zB X + h)), (1, .int v1), (2, .int v2)] [] g := by
  unfold fX1_leads at hf
  refine z_iconst hX dX1_leads_0 ci_0 ?_
  refine z_istore_n (lv' := [(3, .int 0), (0, .ref (zB X + h)), (1, .int v1), (2, .int v2)]) hX dX1_leads_1 hn (by decide) rfl ?_
  refine zW.sub [1, 2, 3, 0] rfl ?_
  exact fX1_leads_L2_ok hX hT hR hr hn hkh zFU 0 hf
set_option maxHeartbeats 4000000 in
set_option maxRecDepth 100000 in
theorem ct_X1_leads {E : zE} {h : Nat} {v1 : Int32} {v2 : Int32} (hkh : zK h = 1) {g : zM} {r : Int32} (hf : fX1_leads h v1 v2 g = some r) : zCt yX1_leads cX1_leads 4 (some .boolean) 0 0 E [.ref (E.1 + h), .int v1, .int v2] g (.inl (some (.int r), g)) := by
  refine zmet (by decide) (zl rfl) (fun X hE hX hT hR hr hn => ?_)
  subst hE
  exact fX1_leads_ok hX hT hR hr hn hkh hf
def fX11_senseless_L8 (r2 : Nat) (g : zM) : Nat → Int32 → Option (Except Nat Int32 × zM)
  | 0, _ => none
  | n + 1, v3 => if (g r2 2) ≤ v3 then some (.ok ((-1)), g) else zb (fX3_kindAt r2 (v3 - 1) g) (fun r_3 => zb (fX3_kindAt r2 v3 g) (fun r_4 => zb (fX1_leads 29 r_3 r_4 g) (fun r_5 => if r_5 = 0 then some (.ok v3, g) else fX11_senseless_L8 r2 g n (v3 + 1))))
def fX11_senseless (v1 : Int32) (g : zM) : Option (Except Nat Int32 × zM) := zb3 (fX11_mailOf v1 g) (fun r_1 g1 => fX11_senseless_L8 r_1 g1 zFU 1)
set_option maxHeartbeats 4000000 in
set_option maxRecDepth 100000 in
theorem fX11_senseless_L8_ok {X : zX} (hX : zCX X cX11_senseless RX11) (hT : zNT X) (hR : X.2.2.2.1 = zrm 2 1) (hr : X.2.2.2.2.2.2.2.2.1.sig.returnType = (some .int)) (hn : X.2.2.2.2.2.2.2.2.2.1.maxLocals = 4) {r2 : Nat} (hkr2 : zK r2 = 3) {g : zM} {r : Except Nat Int32 × zM}  : ∀ (n : Nat) (v3 : Int32), fX11_senseless_L8 r2 g n v3 = some r → zW X (zQ X (zoI r) 1) 1 6 8 [(0, .ref (zB X + 0)), (2, .ref (zB X + r2)), (3, .int v3)] [] g := by
  intro n
  induction n with
  | zero => intro v3 hf; exact zno hf
  | succ n ih =>
    intro v3 hf
    rw [fX11_senseless_L8] at hf
    refine z_iload_n hX dX11_senseless_8 2 rfl ?_
    refine z_aload_n hX dX11_senseless_9 1 rfl ?_
    refine gf_Mail_lines_N hX hkr2 qn176 dX11_senseless_10 ?_
    refine z_icmp_ge hX 49 dX11_senseless_13 (by decide) (fun h2 => ?_) (fun h2 => ?_)
    · replace hf := zif_pos h2 hf
      refine z_iconst hX dX11_senseless_49 ci_m1 ?_
      obtain rfl := Option.some.inj hf
      exact z_iret hX hr rfl (zl rfl) (zl rfl) dX11_senseless_50
    · replace hf := zif_neg h2 hf
      refine z_aload_n hX dX11_senseless_16 0 rfl ?_
      refine gf_Post_now hX zq_0 q439 dX11_senseless_17 ?_
      refine gf_World_law_N hX zq_2 qn275 dX11_senseless_20 ?_
      refine z_aload_n hX dX11_senseless_23 1 rfl ?_
      refine z_iload_n hX dX11_senseless_24 2 rfl ?_
      refine z_iconst hX dX11_senseless_25 ci_1 ?_
      refine z_isub hX dX11_senseless_26 ?_
      replace hf := zb_some hf
      obtain ⟨r_3, h3, hf⟩ := hf
      refine z_callV1 hX ok_X3_kindAt q1030 q522 q523 (zrm_ok hR (by decide)) (ct_X3_kindAt hkr2 h3) (zrec_Mail hX hkr2) dX11_senseless_27 rfl rfl ?_
      refine z_aload_n hX dX11_senseless_30 1 rfl ?_
      refine z_iload_n hX dX11_senseless_31 2 rfl ?_
      replace hf := zb_some hf
      obtain ⟨r_4, h4, hf⟩ := hf
      refine z_callV1 hX ok_X3_kindAt q1030 q522 q523 (zrm_ok hR (by decide)) (ct_X3_kindAt hkr2 h4) (zrec_Mail hX hkr2) dX11_senseless_32 rfl rfl ?_
      replace hf := zb_some hf
      obtain ⟨r_5, h5, hf⟩ := hf
      refine z_callV1 hX ok_X1_leads q1290 q1291 q1292 (zrm_ok hR (by decide)) (ct_X1_leads zq_29 h5) (zrec_Law hX zq_29) dX11_senseless_35 rfl rfl ?_
      refine z_if_ne hX 43 dX11_senseless_38 (by decide) (fun h6 => ?_) (fun h6 => ?_)
      · replace hf := zif_neg h6 hf
        refine z_iincc (lv' := [(3, .int (v3 + 1)), (0, .ref (zB X + 0)), (2, .ref (zB X + r2))]) hX dX11_senseless_43 hn (by decide) 2 rfl ci_1 rfl ?_
        refine z_goto hX 8 dX11_senseless_46 (by decide) ?_
        refine zW.sub [1, 2, 0] rfl ?_
        exact ih (v3 + 1) hf
      · replace hf := zif_pos h6 hf
        refine z_iload_n hX dX11_senseless_41 2 rfl ?_
        obtain rfl := Option.some.inj hf
        exact z_iret hX hr rfl (zl rfl) (zl rfl) dX11_senseless_42
set_option maxHeartbeats 4000000 in
set_option maxRecDepth 100000 in
theorem fX11_senseless_ok {X : zX} (hX : zCX X cX11_senseless RX11) (hT : zNT X) (hR : X.2.2.2.1 = zrm 2 1) (hr : X.2.2.2.2.2.2.2.2.1.sig.returnType = (some .int)) (hn : X.2.2.2.2.2.2.2.2.2.1.maxLocals = 4) {v1 : Int32} {g : zM} {r : Except Nat Int32 × zM} (hf : fX11_senseless v1 g = some r) : zW X (zQ X (zoI r) 1) 0 0 0 [(0, .ref (zB X + 0)), (1, .int v1)] [] g := by
  unfold fX11_senseless at hf
  refine z_aload_n hX dX11_senseless_0 0 rfl ?_
  refine z_iload_n hX dX11_senseless_1 1 rfl ?_
  replace hf := zb3_some hf
  rcases hf with ⟨c1, g1, h1, rfl⟩ | ⟨r_1, g1, h1, hf⟩
  · exact z_callV_x hX hT ok_X11_mailOf q974 q976 q25 (zrm_ok hR (by decide)) (ct_X11_mailOf  h1) (zrec_Post hX zq_0) dX11_senseless_2 rfl rfl (zl rfl) (zl rfl)
  refine z_callV1 hX ok_X11_mailOf q974 q976 q25 (zrm_ok hR (by decide)) (ct_X11_mailOf  h1) (zrec_Post hX zq_0) dX11_senseless_2 rfl rfl ?_
  refine z_astore_n (lv' := [(2, .ref (zB X + r_1)), (0, .ref (zB X + 0)), (1, .int v1)]) hX dX11_senseless_5 hn (by decide) rfl ?_
  refine z_iconst hX dX11_senseless_6 ci_1 ?_
  refine z_istore_n (lv' := [(3, .int 1), (2, .ref (zB X + r_1)), (0, .ref (zB X + 0)), (1, .int v1)]) hX dX11_senseless_7 hn (by decide) rfl ?_
  refine zW.sub [2, 1, 0] rfl ?_
  exact fX11_senseless_L8_ok hX hT hR hr hn (fk_X11_mailOf  h1) zFU 1 hf
set_option maxHeartbeats 4000000 in
set_option maxRecDepth 100000 in
theorem ct_X11_senseless {E : zE} {v1 : Int32} {g : zM} {r : Except Nat Int32 × zM} (hf : fX11_senseless v1 g = some r) : zCt yX11_senseless cX11_senseless 4 (some .int) 2 1 E [.ref (E.1 + 0), .int v1] g (zoI r) := by
  refine zmet (by decide) (zl rfl) (fun X hE hX hT hR hr hn => ?_)
  subst hE
  exact fX11_senseless_ok hX hT hR hr hn  hf
def fX11_needTwo (v0 : Int32) (v1 : Int32) (g : zM) : Option (Except Nat Unit × zM) := if v0 = v1 then some (.error 2, g) else some (.ok (()), g)
set_option maxHeartbeats 4000000 in
set_option maxRecDepth 100000 in
theorem fX11_needTwo_ok {X : zX} (hX : zCX X cX11_needTwo RX11) (hT : zNT X) (hR : X.2.2.2.1 = zrm 0 1) (hr : X.2.2.2.2.2.2.2.2.1.sig.returnType = none) (hn : X.2.2.2.2.2.2.2.2.2.1.maxLocals = 2) {v0 : Int32} {v1 : Int32} {g : zM} {r : Except Nat Unit × zM} (hf : fX11_needTwo v0 v1 g = some r) : zW X (zQ X (zoU r) 1) 0 0 0 [(0, .int v0), (1, .int v1)] [] g := by
  unfold fX11_needTwo at hf
  refine z_iload_n hX dX11_needTwo_0 0 rfl ?_
  refine z_iload_n hX dX11_needTwo_1 1 rfl ?_
  refine z_icmp_ne hX 16 dX11_needTwo_2 (by decide) (fun h1 => ?_) (fun h1 => ?_)
  · replace hf := zif_neg h1 hf
    obtain rfl := Option.some.inj hf
    exact z_vret hX hr (zl rfl) (zl rfl) dX11_needTwo_16
  · replace hf := zif_pos h1 hf
    obtain rfl := Option.some.inj hf
    exact z_throwW hX hT hR at_2_114 (i := 18) rfl dX11_needTwo_5 dX11_needTwo_8 dX11_needTwo_9 dX11_needTwo_12 dX11_needTwo_15 (zl rfl) (zl rfl) (zl rfl) (zl rfl)
set_option maxHeartbeats 4000000 in
set_option maxRecDepth 100000 in
theorem ct_X11_needTwo {E : zE} {v0 : Int32} {v1 : Int32} {g : zM} {r : Except Nat Unit × zM} (hf : fX11_needTwo v0 v1 g = some r) : zCt yX11_needTwo cX11_needTwo 2 none 0 1 E [.int v0, .int v1] g (zoU r) := by
  refine zmet (by decide) (zl rfl) (fun X hE hX hT hR hr hn => ?_)
  subst hE
  exact fX11_needTwo_ok hX hT hR hr hn  hf
