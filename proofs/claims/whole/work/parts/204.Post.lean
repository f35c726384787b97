def fX11_tallyTempers_L2 (r1 : Nat) (v2 : Int32) (k21 : zM → Option zM) : Nat → Int32 → zM → Option zM
  | 0, _, _ => none
  | n + 1, v3, g => if 12 ≤ v3 then k21 g else zchk v3 12 (zput g 492 v3.toNatClampNeg 0 (fun g3 => fX11_tallyTempers_L2 r1 v2 k21 n (v3 + 1) g3))
def fX11_tallyTempers_L23 (r1 : Nat) (v2 : Int32) : Nat → Int32 → zM → Option zM
  | 0, _, _ => none
  | n + 1, v3, g => if 10 ≤ v3 then some g else zb (fX7_look 446 r1 (g 3 2) g) (fun g6 => zput g6 447 3 v3 (fun g7 => zb (fX7_go 446 29 v2 g7) (fun g8 => zb (fX3_lastKind 447 g8) (fun r_9 => if r_9 < 0 then fX11_tallyTempers_L23 r1 v2 n (v3 + 1) g8 else if 12 ≤ r_9 then fX11_tallyTempers_L23 r1 v2 n (v3 + 1) g8 else zchk r_9 12 (zchk r_9 12 (zput g8 492 r_9.toNatClampNeg ((g8 492 r_9.toNatClampNeg) + 1) (fun g14 => fX11_tallyTempers_L23 r1 v2 n (v3 + 1) g14)))))))
def fX11_tallyTempers (r1 : Nat) (v2 : Int32) (g : zM) : Option zM := fX11_tallyTempers_L2 r1 v2 (fun g4 => fX11_tallyTempers_L23 r1 v2 zFU 0 g4) zFU 0 g
set_option maxHeartbeats 4000000 in
set_option maxRecDepth 100000 in
theorem fX11_tallyTempers_L2_ok {X : zX} (hX : zCX X cX11_tallyTempers RX11) (hT : zNT X) (hR : X.2.2.2.1 = zrm 7 0) (hr : X.2.2.2.2.2.2.2.2.1.sig.returnType = none) (hn : X.2.2.2.2.2.2.2.2.2.1.maxLocals = 5) {r1 : Nat} {v2 : Int32} (hkr1 : zK r1 = 3) {k21 : zM → Option zM} {r : zM} (hk21 : ∀ (g : zM), k21 g = some r → zW X (zQ X (.inl (none, r)) 0) 0 0 21 [(0, .ref (zB X + 0)), (1, .ref (zB X + r1)), (2, .int v2)] [] g) : ∀ (n : Nat) (v3 : Int32) (g : zM), fX11_tallyTempers_L2 r1 v2 k21 n v3 g = some r → zW X (zQ X (.inl (none, r)) 0) 0 0 2 [(0, .ref (zB X + 0)), (1, .ref (zB X + r1)), (2, .int v2), (3, .int v3)] [] g := by
  intro n
  induction n with
  | zero => intro v3 g hf; exact zno hf
  | succ n ih =>
    intro v3 g hf
    rw [fX11_tallyTempers_L2] at hf
    refine z_iload_n hX dX11_tallyTempers_2 3 rfl ?_
    refine z_bipush hX dX11_tallyTempers_3 cb_12 ?_
    refine z_icmp_ge hX 21 dX11_tallyTempers_5 (by decide) (fun h1 => ?_) (fun h1 => ?_)
    · replace hf := zif_pos h1 hf
      refine zW.sub [0, 1, 2] rfl ?_
      exact hk21 g hf
    · replace hf := zif_neg h1 hf
      refine z_aload_n hX dX11_tallyTempers_8 0 rfl ?_
      refine gf_Post_tally hX zq_0 q450 dX11_tallyTempers_9 ?_
      refine z_iload_n hX dX11_tallyTempers_12 3 rfl ?_
      refine z_iconst hX dX11_tallyTempers_13 ci_0 ?_
      replace hf := zchk_some hf
      obtain ⟨h2, hf⟩ := hf
      replace hf := zput_some hf
      obtain ⟨g3, eg3, hf⟩ := hf
      refine z_iast hX zq_492 (by decide) (zc_1012 _ _) h2 dX11_tallyTempers_14 (zW.eqg eg3 ?_)
      refine z_iincc (lv' := [(3, .int (v3 + 1)), (0, .ref (zB X + 0)), (1, .ref (zB X + r1)), (2, .int v2)]) hX dX11_tallyTempers_15 hn (by decide) 3 rfl ci_1 rfl ?_
      refine z_goto hX 2 dX11_tallyTempers_18 (by decide) ?_
      refine zW.sub [1, 2, 3, 0] rfl ?_
      exact ih (v3 + 1) g3 hf
set_option maxHeartbeats 4000000 in
set_option maxRecDepth 100000 in
theorem fX11_tallyTempers_L23_ok {X : zX} (hX : zCX X cX11_tallyTempers RX11) (hT : zNT X) (hR : X.2.2.2.1 = zrm 7 0) (hr : X.2.2.2.2.2.2.2.2.1.sig.returnType = none) (hn : X.2.2.2.2.2.2.2.2.2.1.maxLocals = 5) {r1 : Nat} {v2 : Int32} (hkr1 : zK r1 = 3) {r : zM}  : ∀ (n : Nat) (v3 : Int32) (g : zM), fX11_tallyTempers_L23 r1 v2 n v3 g = some r → zW X (zQ X (.inl (none, r)) 0) 0 0 23 [(0, .ref (zB X + 0)), (1, .ref (zB X + r1)), (2, .int v2), (3, .int v3)] [] g := by
  intro n
  induction n with
  | zero => intro v3 g hf; exact zno hf
  | succ n ih =>
    intro v3 g hf
    rw [fX11_tallyTempers_L23] at hf
    refine z_iload_n hX dX11_tallyTempers_23 3 rfl ?_
    refine z_bipush hX dX11_tallyTempers_24 cb_10 ?_
    refine z_icmp_ge hX 114 dX11_tallyTempers_26 (by decide) (fun h5 => ?_) (fun h5 => ?_)
    · replace hf := zif_pos h5 hf
      obtain rfl := Option.some.inj hf
      exact z_vret hX hr (zl rfl) (zl rfl) dX11_tallyTempers_114
    · replace hf := zif_neg h5 hf
      refine z_aload_n hX dX11_tallyTempers_29 0 rfl ?_
      refine gf_Post_sight hX zq_0 q445 dX11_tallyTempers_30 ?_
      refine z_aload_n hX dX11_tallyTempers_33 1 rfl ?_
      refine z_aload_n hX dX11_tallyTempers_34 0 rfl ?_
      refine gf_Post_now hX zq_0 q439 dX11_tallyTempers_35 ?_
      refine gf_World_bag_N hX zq_2 qn273 dX11_tallyTempers_38 ?_
      refine gf_Bag_week_N hX zq_3 qn219 dX11_tallyTempers_41 ?_
      replace hf := zb_some hf
      obtain ⟨g6, h6, hf⟩ := hf
      refine z_callV0 hX ok_X7_look q506 q507 q508 (zrm_ok hR (by decide)) (ct_X7_look zq_446 hkr1 h6) (zrec_Sight hX zq_446) dX11_tallyTempers_44 rfl rfl ?_
      refine z_aload_n hX dX11_tallyTempers_47 0 rfl ?_
      refine gf_Post_sight hX zq_0 q445 dX11_tallyTempers_48 ?_
      refine gf_Sight_mail_N hX zq_446 qn404 dX11_tallyTempers_51 ?_
      refine z_iload_n hX dX11_tallyTempers_54 3 rfl ?_
      replace hf := zput_some hf
      obtain ⟨g7, eg7, hf⟩ := hf
      refine gp_Mail_temper_N hX zq_447 qn179 dX11_tallyTempers_55 (zW.eqg eg7 ?_)
      refine z_aload_n hX dX11_tallyTempers_58 0 rfl ?_
      refine gf_Post_sight hX zq_0 q445 dX11_tallyTempers_59 ?_
      refine z_aload_n hX dX11_tallyTempers_62 0 rfl ?_
      refine gf_Post_now hX zq_0 q439 dX11_tallyTempers_63 ?_
      refine gf_World_law_N hX zq_2 qn275 dX11_tallyTempers_66 ?_
      refine z_iload_n hX dX11_tallyTempers_69 2 rfl ?_
      replace hf := zb_some hf
      obtain ⟨g8, h8, hf⟩ := hf
      refine z_callV0 hX ok_X7_go q1200 q1201 q1202 (zrm_ok hR (by decide)) (ct_X7_go zq_446 zq_29 h8) (zrec_Sight hX zq_446) dX11_tallyTempers_70 rfl rfl ?_
      refine z_aload_n hX dX11_tallyTempers_73 0 rfl ?_
      refine gf_Post_sight hX zq_0 q445 dX11_tallyTempers_74 ?_
      refine gf_Sight_mail_N hX zq_446 qn404 dX11_tallyTempers_77 ?_
      replace hf := zb_some hf
      obtain ⟨r_9, h9, hf⟩ := hf
      refine z_callV1 hX ok_X3_lastKind q517 q518 q519 (zrm_ok hR (by decide)) (ct_X3_lastKind zq_447 h9) (zrec_Mail hX zq_447) dX11_tallyTempers_80 rfl rfl ?_
      refine z_istore (lv' := [(4, .int r_9), (0, .ref (zB X + 0)), (1, .ref (zB X + r1)), (2, .int v2), (3, .int v3)]) hX dX11_tallyTempers_83 hn (by decide) rfl ?_
      refine z_iload hX dX11_tallyTempers_85 0 rfl ?_
      refine z_if_lt hX 108 dX11_tallyTempers_87 (by decide) (fun h10 => ?_) (fun h10 => ?_)
      · replace hf := zif_pos h10 hf
        refine z_iincc (lv' := [(3, .int (v3 + 1)), (4, .int r_9), (0, .ref (zB X + 0)), (1, .ref (zB X + r1)), (2, .int v2)]) hX dX11_tallyTempers_108 hn (by decide) 4 rfl ci_1 rfl ?_
        refine z_goto hX 23 dX11_tallyTempers_111 (by decide) ?_
        refine zW.sub [2, 3, 4, 0] rfl ?_
        exact ih (v3 + 1) g8 hf
      · replace hf := zif_neg h10 hf
        refine z_iload hX dX11_tallyTempers_90 0 rfl ?_
        refine z_bipush hX dX11_tallyTempers_92 cb_12 ?_
        refine z_icmp_ge hX 108 dX11_tallyTempers_94 (by decide) (fun h11 => ?_) (fun h11 => ?_)
        · replace hf := zif_pos h11 hf
          refine z_iincc (lv' := [(3, .int (v3 + 1)), (4, .int r_9), (0, .ref (zB X + 0)), (1, .ref (zB X + r1)), (2, .int v2)]) hX dX11_tallyTempers_108 hn (by decide) 4 rfl ci_1 rfl ?_
          refine z_goto hX 23 dX11_tallyTempers_111 (by decide) ?_
          refine zW.sub [2, 3, 4, 0] rfl ?_
          exact ih (v3 + 1) g8 hf
        · replace hf := zif_neg h11 hf
          refine z_aload_n hX dX11_tallyTempers_97 1 rfl ?_
          refine gf_Post_tally hX zq_0 q450 dX11_tallyTempers_98 ?_
          refine z_iload hX dX11_tallyTempers_101 0 rfl ?_
          refine z_dup2 hX dX11_tallyTempers_103 rfl rfl ?_
          replace hf := zchk_some hf
          obtain ⟨h12, hf⟩ := hf
          refine z_iald hX zq_492 (by decide) (zc_1012 _ _ _) h12 dX11_tallyTempers_104 ?_
          refine z_iconst hX dX11_tallyTempers_105 ci_1 ?_
          refine z_iadd hX dX11_tallyTempers_106 ?_
          replace hf := zchk_some hf
          obtain ⟨h13, hf⟩ := hf
          replace hf := zput_some hf
          obtain ⟨g14, eg14, hf⟩ := hf
          refine z_iast hX zq_492 (by decide) (zc_1012 _ _) h13 dX11_tallyTempers_107 (zW.eqg eg14 ?_)
          refine z_iincc (lv' := [(3, .int (v3 + 1)), (4, .int r_9), (0, .ref (zB X + 0)), (1, .ref (zB X + r1)), (2, .int v2)]) hX dX11_tallyTempers_108 hn (by decide) 4 rfl ci_1 rfl ?_
          refine z_goto hX 23 dX11_tallyTempers_111 (by decide) ?_
          refine zW.sub [2, 3, 4, 0] rfl ?_
          exact ih (v3 + 1) g14 hf
set_option maxHeartbeats 4000000 in
set_option maxRecDepth 100000 in
theorem fX11_tallyTempers_ok {X : zX} (hX : zCX X cX11_tallyTempers RX11) (hT : zNT X) (hR : X.2.2.2.1 = zrm 7 0) (hr : X.2.2.2.2.2.2.2.2.1.sig.returnType = none) (hn : X.2.2.2.2.2.2.2.2.2.1.maxLocals = 5) {r1 : Nat} {v2 : Int32} (hk1 : zK r1 = 3) {g : zM} {r : zM} (hf : fX11_tallyTempers r1 v2 g = some r) : zW X (zQ X (.inl (none, r)) 0) 0 0 0 [(0, .ref (zB X + 0)), (1, .ref (zB X + r1)), (2, .int v2)] [] g := by
  unfold fX11_tallyTempers at hf
  refine z_iconst hX dX11_tallyTempers_0 ci_0 ?_
  refine z_istore_n (lv' := [(3, .int 0), (0, .ref (zB X + 0)), (1, .ref (zB X + r1)), (2, .int v2)]) hX dX11_tallyTempers_1 hn (by decide) rfl ?_
  refine zW.sub [1, 2, 3, 0] rfl ?_
  refine fX11_tallyTempers_L2_ok hX hT hR hr hn hk1 (fun g4 hf => ?_) zFU 0 g hf
  · refine z_iconst hX dX11_tallyTempers_21 ci_0 ?_
    refine z_istore_n (lv' := [(3, .int 0), (0, .ref (zB X + 0)), (1, .ref (zB X + r1)), (2, .int v2)]) hX dX11_tallyTempers_22 hn (by decide) rfl ?_
    refine zW.sub [1, 2, 3, 0] rfl ?_
    exact fX11_tallyTempers_L23_ok hX hT hR hr hn hk1 zFU 0 g4 hf
set_option maxHeartbeats 4000000 in
set_option maxRecDepth 100000 in
theorem ct_X11_tallyTempers {E : zE} {r1 : Nat} {v2 : Int32} (hk1 : zK r1 = 3) {g : zM} {r : zM} (hf : fX11_tallyTempers r1 v2 g = some r) : zCt yX11_tallyTempers cX11_tallyTempers 5 none 7 0 E [.ref (E.1 + 0), .ref (E.1 + r1), .int v2] g (.inl (none, r)) := by
  refine zmet (by decide) (zl rfl) (fun X hE hX hT hR hr hn => ?_)
  subst hE
  exact fX11_tallyTempers_ok hX hT hR hr hn hk1 hf
def fX11_tempers_L51 (g : zM) : Nat → Int32 → Int32 → Option (Except Nat Int32 × zM)
  | 0, _, _ => none
  | n + 1, v5, v6 => if 12 ≤ v6 then some (.ok v5, g) else zchk v6 12 (zchk v5 12 (if (g 492 v6.toNatClampNeg) ≤ (g 492 v5.toNatClampNeg) then fX11_tempers_L51 g n v5 (v6 + 1) else fX11_tempers_L51 g n v6 (v6 + 1)))
def fX11_tempers (v1 : Int32) (v2 : Int32) (v3 : Int32) (g : zM) : Option (Except Nat Int32 × zM) := zb3 (fX11_mailOf v1 g) (fun r_1 g1 => zjoin (fun g2 => zb3 (fX11_needAhead v2 0 g2) (fun _ g3 => zb (fX11_tallyTempers r_1 v2 g3) (fun g4 => if v3 < 0 then fX11_tempers_L51 g4 zFU 0 1 else if 12 ≤ v3 then fX11_tempers_L51 g4 zFU 0 1 else zchk v3 12 (some (.ok (g4 492 v3.toNatClampNeg), g4)))) : zM → Option (Except Nat Int32 × zM)) (fun k16 => if v3 = ((-1)) then k16 g1 else zb3 (fX11_needKind v3 g1) (fun _ g13 => k16 g13)))
set_option maxHeartbeats 4000000 in
set_option maxRecDepth 100000 in
theorem fX11_tempers_L51_ok {X : zX} (hX : zCX X cX11_tempers RX11) (hT : zNT X) (hR : X.2.2.2.1 = zrm 8 3) (hr : X.2.2.2.2.2.2.2.2.1.sig.returnType = (some .int)) (hn : X.2.2.2.2.2.2.2.2.2.1.maxLocals = 7) {g : zM} {r : Except Nat Int32 × zM}  : ∀ (n : Nat) (v5 : Int32) (v6 : Int32), fX11_tempers_L51 g n v5 v6 = some r → zW X (zQ X (zoI r) 3) 3 18 51 [(0, .ref (zB X + 0)), (5, .int v5), (6, .int v6)] [] g := by
  intro n
  induction n with
  | zero => intro v5 v6 hf; exact zno hf
  | succ n ih =>
    intro v5 v6 hf
    rw [fX11_tempers_L51] at hf
    refine z_iload hX dX11_tempers_51 2 rfl ?_
    refine z_bipush hX dX11_tempers_53 cb_12 ?_
    refine z_icmp_ge hX 85 dX11_tempers_55 (by decide) (fun h6 => ?_) (fun h6 => ?_)
    · replace hf := zif_pos h6 hf
      refine z_iload hX dX11_tempers_85 1 rfl ?_
      obtain rfl := Option.some.inj hf
      exact z_iret hX hr rfl (zl rfl) (zl rfl) dX11_tempers_87
    · replace hf := zif_neg h6 hf
      refine z_aload_n hX dX11_tempers_58 0 rfl ?_
      refine gf_Post_tally hX zq_0 q450 dX11_tempers_59 ?_
      refine z_iload hX dX11_tempers_62 2 rfl ?_
      replace hf := zchk_some hf
      obtain ⟨h7, hf⟩ := hf
      refine z_iald hX zq_492 (by decide) (zc_1012 _ _ _) h7 dX11_tempers_64 ?_
      refine z_aload_n hX dX11_tempers_65 0 rfl ?_
      refine gf_Post_tally hX zq_0 q450 dX11_tempers_66 ?_
      refine z_iload hX dX11_tempers_69 1 rfl ?_
      replace hf := zchk_some hf
      obtain ⟨h8, hf⟩ := hf
      refine z_iald hX zq_492 (by decide) (zc_1012 _ _ _) h8 dX11_tempers_71 ?_
      refine z_icmp_le hX 79 dX11_tempers_72 (by decide) (fun h9 => ?_) (fun h9 => ?_)
      · replace hf := zif_pos h9 hf
        refine z_iincc (lv' := [(6, .int (v6 + 1)), (0, .ref (zB X + 0)), (5, .int v5)]) hX dX11_tempers_79 hn (by decide) 2 rfl ci_1 rfl ?_
        refine z_goto hX 51 dX11_tempers_82 (by decide) ?_
        refine zW.sub [1, 2, 0] rfl ?_
        exact ih v5 (v6 + 1) hf
      · replace hf := zif_neg h9 hf
        refine z_iload hX dX11_tempers_75 2 rfl ?_
        refine z_istore (lv' := [(5, .int v6), (0, .ref (zB X + 0)), (6, .int v6)]) hX dX11_tempers_77 hn (by decide) rfl ?_
        refine z_iincc (lv' := [(6, .int (v6 + 1)), (5, .int v6), (0, .ref (zB X + 0))]) hX dX11_tempers_79 hn (by decide) 2 rfl ci_1 rfl ?_
        refine z_goto hX 51 dX11_tempers_82 (by decide) ?_
        refine zW.sub [2, 1, 0] rfl ?_
        exact ih v6 (v6 + 1) hf
set_option maxHeartbeats 4000000 in
set_option maxRecDepth 100000 in
theorem fX11_tempers_ok {X : zX} (hX : zCX X cX11_tempers RX11) (hT : zNT X) (hR : X.2.2.2.1 = zrm 8 3) (hr : X.2.2.2.2.2.2.2.2.1.sig.returnType = (some .int)) (hn : X.2.2.2.2.2.2.2.2.2.1.maxLocals = 7) {v1 : Int32} {v2 : Int32} {v3 : Int32} {g : zM} {r : Except Nat Int32 × zM} (hf : fX11_tempers v1 v2 v3 g = some r) : zW X (zQ X (zoI r) 3) 0 0 0 [(0, .ref (zB X + 0)), (1, .int v1), (2, .int v2), (3, .int v3)] [] g := by
  unfold fX11_tempers at hf
  refine z_aload_n hX dX11_tempers_0 0 rfl ?_
  refine z_iload_n hX dX11_tempers_1 1 rfl ?_
  replace hf := zb3_some hf
  rcases hf with ⟨c1, g1, h1, rfl⟩ | ⟨r_1, g1, h1, hf⟩
  · exact z_callV_x hX hT ok_X11_mailOf q974 q976 q25 (zrm_ok hR (by decide)) (ct_X11_mailOf  h1) (zrec_Post hX zq_0) dX11_tempers_2 rfl rfl (zl rfl) (zl rfl)
  refine z_callV1 hX ok_X11_mailOf q974 q976 q25 (zrm_ok hR (by decide)) (ct_X11_mailOf  h1) (zrec_Post hX zq_0) dX11_tempers_2 rfl rfl ?_
  refine z_astore (lv' := [(4, .ref (zB X + r_1)), (0, .ref (zB X + 0)), (1, .int v1), (2, .int v2), (3, .int v3)]) hX dX11_tempers_5 hn (by decide) rfl ?_
  refine z_iload_n hX dX11_tempers_7 4 rfl ?_
  refine z_iconst hX dX11_tempers_8 ci_m1 ?_
  refine zjoin_ok (P := fun (k : zM → Option (Except Nat Int32 × zM)) => ∀ (g2 : zM), k g2 = some r → zW X (zQ X (zoI r) 3) 2 12 16 [(0, .ref (zB X + 0)), (2, .int v2), (3, .int v3), (4, .ref (zB X + r_1))] [] g2) hf (fun g2 hf => ?_) (fun k16 hk16 hf => ?_)
  · refine z_iload_n hX dX11_tempers_16 1 rfl ?_
    refine z_iconst hX dX11_tempers_17 ci_0 ?_
    replace hf := zb3_some hf
    rcases hf with ⟨c3, g3, h3, rfl⟩ | ⟨r_3, g3, h3, hf⟩
    · exact z_callS_x hX hT ok_X11_needAhead rfl q1195 q1196 (zrm_ok hR (by decide)) (ct_X11_needAhead  h3) dX11_tempers_18 rfl rfl (zl rfl) (zl rfl)
    refine z_callS0 hX ok_X11_needAhead rfl q1195 q1196 (zrm_ok hR (by decide)) (ct_X11_needAhead  h3) dX11_tempers_18 rfl rfl ?_
    refine z_aload_n hX dX11_tempers_21 0 rfl ?_
    refine z_aload hX dX11_tempers_22 3 rfl ?_
    refine z_iload_n hX dX11_tempers_24 1 rfl ?_
    replace hf := zb_some hf
    obtain ⟨g4, h4, hf⟩ := hf
    refine z_callV0 hX ok_X11_tallyTempers q1460 q1462 q32 (zrm_ok hR (by decide)) (ct_X11_tallyTempers (fk_X11_mailOf  h1) h4) (zrec_Post hX zq_0) dX11_tempers_25 rfl rfl ?_
    refine z_iload_n hX dX11_tempers_28 2 rfl ?_
    refine z_if_lt hX 45 dX11_tempers_29 (by decide) (fun h5 => ?_) (fun h5 => ?_)
    · replace hf := zif_pos h5 hf
      refine z_iconst hX dX11_tempers_45 ci_0 ?_
      refine z_istore (lv' := [(5, .int 0), (0, .ref (zB X + 0)), (2, .int v2), (3, .int v3), (4, .ref (zB X + r_1))]) hX dX11_tempers_46 hn (by decide) rfl ?_
      refine z_iconst hX dX11_tempers_48 ci_1 ?_
      refine z_istore (lv' := [(6, .int 1), (5, .int 0), (0, .ref (zB X + 0)), (2, .int v2), (3, .int v3), (4, .ref (zB X + r_1))]) hX dX11_tempers_49 hn (by decide) rfl ?_
      refine zW.sub [2, 1, 0] rfl ?_
      exact fX11_tempers_L51_ok hX hT hR hr hn  zFU 0 1 hf
    · replace hf := zif_neg h5 hf
      refine z_iload_n hX dX11_tempers_32 2 rfl ?_
      refine z_bipush hX dX11_tempers_33 cb_12 ?_
      refine z_icmp_ge hX 45 dX11_tempers_35 (by decide) (fun h10 => ?_) (fun h10 => ?_)
      · replace hf := zif_pos h10 hf
        refine z_iconst hX dX11_tempers_45 ci_0 ?_
        refine z_istore (lv' := [(5, .int 0), (0, .ref (zB X + 0)), (2, .int v2), (3, .int v3), (4, .ref (zB X + r_1))]) hX dX11_tempers_46 hn (by decide) rfl ?_
        refine z_iconst hX dX11_tempers_48 ci_1 ?_
        refine z_istore (lv' := [(6, .int 1), (5, .int 0), (0, .ref (zB X + 0)), (2, .int v2), (3, .int v3), (4, .ref (zB X + r_1))]) hX dX11_tempers_49 hn (by decide) rfl ?_
        refine zW.sub [2, 1, 0] rfl ?_
        exact fX11_tempers_L51_ok hX hT hR hr hn  zFU 0 1 hf
      · replace hf := zif_neg h10 hf
        refine z_aload_n hX dX11_tempers_38 0 rfl ?_
        refine gf_Post_tally hX zq_0 q450 dX11_tempers_39 ?_
        refine z_iload_n hX dX11_tempers_42 2 rfl ?_
        replace hf := zchk_some hf
        obtain ⟨h11, hf⟩ := hf
        refine z_iald hX zq_492 (by decide) (zc_1012 _ _ _) h11 dX11_tempers_43 ?_
        obtain rfl := Option.some.inj hf
        exact z_iret hX hr rfl (zl rfl) (zl rfl) dX11_tempers_44
  · refine z_icmp_eq hX 16 dX11_tempers_9 (by decide) (fun h12 => ?_) (fun h12 => ?_)
    · replace hf := zif_pos h12 hf
      refine zW.sub [1, 3, 4, 0] rfl ?_
      refine zW.widen (k' := 2) (n' := 12) (zl rfl) (zl rfl) ?_
      exact hk16 g1 hf
    · replace hf := zif_neg h12 hf
      refine z_iload_n hX dX11_tempers_12 4 rfl ?_
      replace hf := zb3_some hf
      rcases hf with ⟨c13, g13, h13, rfl⟩ | ⟨r_13, g13, h13, hf⟩
      · exact z_callS_x hX hT ok_X11_needKind rfl q1038 q1039 (zrm_ok hR (by decide)) (ct_X11_needKind  h13) dX11_tempers_13 rfl rfl (zl rfl) (zl rfl)
      refine z_callS0 hX ok_X11_needKind rfl q1038 q1039 (zrm_ok hR (by decide)) (ct_X11_needKind  h13) dX11_tempers_13 rfl rfl ?_
      refine zW.sub [1, 3, 4, 0] rfl ?_
      exact hk16 g13 hf
set_option maxHeartbeats 4000000 in
set_option maxRecDepth 100000 in
theorem ct_X11_tempers {E : zE} {v1 : Int32} {v2 : Int32} {v3 : Int32} {g : zM} {r : Except Nat Int32 × zM} (hf : fX11_tempers v1 v2 v3 g = some r) : zCt yX11_tempers cX11_tempers 7 (some .int) 8 3 E [.ref (E.1 + 0), .int v1, .int v2, .int v3] g (zoI r) := by
  refine zmet (by decide) (zl rfl) (fun X hE hX hT hR hr hn => ?_)
  subst hE
  exact fX11_tempers_ok hX hT hR hr hn  hf
def fX11_tryWeeks_L24 (v1 : Int32) : Nat → Int32 → zM → Option zM
  | 0, _, _ => none
  | n + 1, v3, g => if v1 ≤ v3 then some g else zb2 (fX0_passWeek 454 29 (g 2 6) g) (fun r_4 g4 => fX11_tryWeeks_L24 v1 n (v3 + 1) g4)
def fX11_tryWeeks (v1 : Int32) (v2 : Int32) (g : zM) : Option zM := zb (fX0_become 454 3 g) (fun g1 => zput g1 454 3 v2 (fun g2 => fX11_tryWeeks_L24 v1 zFU 0 g2))
set_option maxHeartbeats 4000000 in
set_option maxRecDepth 100000 in
theorem fX11_tryWeeks_L24_ok {X : zX} (hX : zCX X cX11_tryWeeks RX11) (hT : zNT X) (hR : X.2.2.2.1 = zrm 7 0) (hr : X.2.2.2.2.2.2.2.2.1.sig.returnType = none) (hn : X.2.2.2.2.2.2.2.2.2.1.maxLocals = 4) {v1 : Int32} {r : zM}  : ∀ (n : Nat) (v3 : Int32) (g : zM), fX11_tryWeeks_L24 v1 n v3 g = some r → zW X (zQ X (.inl (none, r)) 0) 0 0 24 [(0, .ref (zB X + 0)), (1, .int v1), (3, .int v3)] [] g := by
  intro n
  induction n with
  | zero => intro v3 g hf; exact zno hf
  | succ n ih =>
    intro v3 g hf
    rw [fX11_tryWeeks_L24] at hf
    refine z_iload_n hX dX11_tryWeeks_24 2 rfl ?_
    refine z_iload_n hX dX11_tryWeeks_25 1 rfl ?_
    refine z_icmp_ge hX 57 dX11_tryWeeks_26 (by decide) (fun h3 => ?_) (fun h3 => ?_)
    · replace hf := zif_pos h3 hf
      obtain rfl := Option.some.inj hf
      exact z_vret hX hr (zl rfl) (zl rfl) dX11_tryWeeks_57
    · replace hf := zif_neg h3 hf
      refine z_aload_n hX dX11_tryWeeks_29 0 rfl ?_
      refine gf_Post_trialBag hX zq_0 q447 dX11_tryWeeks_30 ?_
      refine z_aload_n hX dX11_tryWeeks_33 0 rfl ?_
      refine gf_Post_now hX zq_0 q439 dX11_tryWeeks_34 ?_
      refine gf_World_law_N hX zq_2 qn275 dX11_tryWeeks_37 ?_
      refine z_aload_n hX dX11_tryWeeks_40 0 rfl ?_
      refine gf_Post_now hX zq_0 q439 dX11_tryWeeks_41 ?_
      refine gf_World_slip_N hX zq_2 qn284 dX11_tryWeeks_44 ?_
      replace hf := zb2_some hf
      obtain ⟨r_4, g4, h4, hf⟩ := hf
      refine z_callV1 hX ok_X0_passWeek q1172 q1173 q1174 (zrm_ok hR (by decide)) (ct_X0_passWeek zq_454 zq_29 h4) (zrec_Bag hX zq_454) dX11_tryWeeks_47 rfl rfl ?_
      refine z_pop hX dX11_tryWeeks_50 rfl ?_
      refine z_iincc (lv' := [(3, .int (v3 + 1)), (0, .ref (zB X + 0)), (1, .int v1)]) hX dX11_tryWeeks_51 hn (by decide) 2 rfl ci_1 rfl ?_
      refine z_goto hX 24 dX11_tryWeeks_54 (by decide) ?_
      refine zW.sub [1, 2, 0] rfl ?_
      exact ih (v3 + 1) g4 hf
set_option maxHeartbeats 4000000 in
set_option maxRecDepth 100000 in
theorem fX11_tryWeeks_ok {X : zX} (hX : zCX X cX11_tryWeeks RX11) (hT : zNT X) (hR : X.2.2.2.1 = zrm 7 0) (hr : X.2.2.2.2.2.2.2.2.1.sig.returnType = none) (hn : X.2.2.2.2.2.2.2.2.2.1.maxLocals = 4) {v1 : Int32} {v2 : Int32} {g : zM} {r : zM} (hf : fX11_tryWeeks v1 v2 g = some r) : zW X (zQ X (.inl (none, r)) 0) 0 0 0 [(0, .ref (zB X + 0)), (1, .int v1), (2, .int v2)] [] g := by
  unfold fX11_tryWeeks at hf
  refine z_aload_n hX dX11_tryWeeks_0 0 rfl ?_
  refine gf_Post_trialBag hX zq_0 q447 dX11_tryWeeks_1 ?_
  refine z_aload_n hX dX11_tryWeeks_4 0 rfl ?_
  refine gf_Post_now hX zq_0 q439 dX11_tryWeeks_5 ?_
  refine gf_World_bag_N hX zq_2 qn273 dX11_tryWeeks_8 ?_
  replace hf := zb_some hf
  obtain ⟨g1, h1, hf⟩ := hf
  refine z_callV0 hX ok_X0_become q1475 q604 q605 (zrm_ok hR (by decide)) (ct_X0_become zq_454 zq_3 h1) (zrec_Bag hX zq_454) dX11_tryWeeks_11 rfl rfl ?_
  refine z_aload_n hX dX11_tryWeeks_14 0 rfl ?_
  refine gf_Post_trialBag hX zq_0 q447 dX11_tryWeeks_15 ?_
  refine z_iload_n hX dX11_tryWeeks_18 2 rfl ?_
  replace hf := zput_some hf
  obtain ⟨g2, eg2, hf⟩ := hf
  refine gp_Bag_seed_N hX zq_454 qn221 dX11_tryWeeks_19 (zW.eqg eg2 ?_)
  refine z_iconst hX dX11_tryWeeks_22 ci_0 ?_
  refine z_istore_n (lv' := [(3, .int 0), (0, .ref (zB X + 0)), (1, .int v1), (2, .int v2)]) hX dX11_tryWeeks_23 hn (by decide) rfl ?_
  refine zW.sub [1, 2, 0] rfl ?_
  exact fX11_tryWeeks_L24_ok hX hT hR hr hn  zFU 0 g2 hf
set_option maxHeartbeats 4000000 in
set_option maxRecDepth 100000 in
theorem ct_X11_tryWeeks {E : zE} {v1 : Int32} {v2 : Int32} {g : zM} {r : zM} (hf : fX11_tryWeeks v1 v2 g = some r) : zCt yX11_tryWeeks cX11_tryWeeks 4 none 7 0 E [.ref (E.1 + 0), .int v1, .int v2] g (.inl (none, r)) := by
  refine zmet (by decide) (zl rfl) (fun X hE hX hT hR hr hn => ?_)
  subst hE
  exact fX11_tryWeeks_ok hX hT hR hr hn  hf
def fX0_linesInAll_L4 (h : Nat) (g : zM) : Nat → Int32 → Int32 → Option Int32
  | 0, _, _ => none
  | n + 1, v1, v2 => if (g h 1) ≤ v2 then some v1 else zchk v2 8 (fX0_linesInAll_L4 h g n (v1 + (g (h + 1 + 1 + 3 * v2.toNatClampNeg) 2)) (v2 + 1))
def fX0_linesInAll (h : Nat) (g : zM) : Option Int32 := fX0_linesInAll_L4 h g zFU 0 0
set_option maxHeartbeats 4000000 in
set_option maxRecDepth 100000 in
theorem fX0_linesInAll_L4_ok {X : zX} (hX : zCX X cX0_linesInAll RX0) (hT : zNT X) (hR : X.2.2.2.1 = zrm 0 0) (hr : X.2.2.2.2.2.2.2.2.1.sig.returnType = (some .int)) (hn : X.2.2.2.2.2.2.2.2.2.1.maxLocals = 3) {h : Nat} (hkh : zK h = 0) {g : zM} {r : Int32}  : ∀ (n : Nat) (v1 : Int32) (v2 : Int32), fX0_linesInAll_L4 h g n v1 v2 = some r → zW X (zQ X (.inl (some (.int r), g)) 0) 0 0 4 [(0, .ref (zB X + h)), (1, .int v1), (2, .int v2)] [] g := by
  intro n
  induction n with
  | zero => intro v1 v2 hf; exact zno hf
  | succ n ih =>
    intro v1 v2 hf
    rw [fX0_linesInAll_L4] at hf
    refine z_iload_n hX dX0_linesInAll_4 2 rfl ?_
    refine z_aload_n hX dX0_linesInAll_5 0 rfl ?_
    refine gf_Bag_size hX hkh q214 dX0_linesInAll_6 ?_
    refine z_icmp_ge hX 30 dX0_linesInAll_9 (by decide) (fun h1 => ?_) (fun h1 => ?_)
    · replace hf := zif_pos h1 hf
      refine z_iload_n hX dX0_linesInAll_30 1 rfl ?_
      obtain rfl := Option.some.inj hf
      exact z_iret hX hr rfl (zl rfl) (zl rfl) dX0_linesInAll_31
    · replace hf := zif_neg h1 hf
      refine z_iload_n hX dX0_linesInAll_12 1 rfl ?_
      refine z_aload_n hX dX0_linesInAll_13 0 rfl ?_
      refine gf_Bag_mails hX hkh q211 dX0_linesInAll_14 ?_
      refine z_iload_n hX dX0_linesInAll_17 2 rfl ?_
      replace hf := zchk_some hf
      obtain ⟨h2, hf⟩ := hf
      refine z_aald_mail hX (zk_Bag_mails hkh) h2 dX0_linesInAll_18 ?_
      refine gf_Mail_lines_N hX (zk_el22 (zk_Bag_mails hkh) h2) qn177 dX0_linesInAll_19 ?_
      refine z_iadd hX dX0_linesInAll_22 ?_
      refine z_istore_n (lv' := [(1, .int (v1 + (g (h + 1 + 1 + 3 * v2.toNatClampNeg) 2))), (0, .ref (zB X + h)), (2, .int v2)]) hX dX0_linesInAll_23 hn (by decide) rfl ?_
      refine z_iincc (lv' := [(2, .int (v2 + 1)), (1, .int (v1 + (g (h + 1 + 1 + 3 * v2.toNatClampNeg) 2))), (0, .ref (zB X + h))]) hX dX0_linesInAll_24 hn (by decide) 2 rfl ci_1 rfl ?_
      refine z_goto hX 4 dX0_linesInAll_27 (by decide) ?_
      refine zW.sub [2, 1, 0] rfl ?_
      exact ih (v1 + (g (h + 1 + 1 + 3 * v2.toNatClampNeg) 2)) (v2 + 1) hf
set_option maxHeartbeats 4000000 in
set_option maxRecDepth 100000 in
theorem fX0_linesInAll_ok {X : zX} (hX : zCX X cX0_linesInAll RX0) (hT : zNT X) (hR : X.2.2.2.1 = zrm 0 0) (hr : X.2.2.2.2.2.2.2.2.1.sig.returnType = (some .int)) (hn : X.2.2.2.2.2.2.2.2.2.1.maxLocals = 3) {h : Nat} (hkh : zK h = 0) {g : zM} {r : Int32} (hf : fX0_linesInAll h g = some r) : zW X (zQ X (.inl (some (.int r), g)) 0) 0 0 0 [(0, .ref (zB X + h))] [] g := by
  unfold fX0_linesInAll at hf
  refine z_iconst hX dX0_linesInAll_0 ci_0 ?_
  refine z_istore_n (lv' := [(1, .int 0), (0, .ref (zB X + h))]) hX dX0_linesInAll_1 hn (by decide) rfl ?_
  refine z_iconst hX dX0_linesInAll_2 ci_0 ?_
  refine z_istore_n (lv' := [(2, .int 0), (1, .int 0), (0, .ref (zB X + h))]) hX dX0_linesInAll_3 hn (by decide) rfl ?_
  refine zW.sub [2, 1, 0] rfl ?_
  exact fX0_linesInAll_L4_ok hX hT hR hr hn hkh zFU 0 0 hf
set_option maxHeartbeats 4000000 in
set_option maxRecDepth 100000 in
theorem ct_X0_linesInAll {E : zE} {h : Nat} (hkh : zK h = 0) {g : zM} {r : Int32} (hf : fX0_linesInAll h g = some r) : zCt yX0_linesInAll cX0_linesInAll 3 (some .int) 0 0 E [.ref (E.1 + h)] g (.inl (some (.int r), g)) := by
  refine zmet (by decide) (zl rfl) (fun X hE hX hT hR hr hn => ?_)
  subst hE
  exact fX0_linesInAll_ok hX hT hR hr hn hkh hf
def fX11_trial (v1 : Int32) (v2 : Int32) (g : zM) : Option (Except Nat Int32 × zM) := zjoin (fun g1 => zb3 (fX11_needAhead v1 0 g1) (fun _ g2 => zb (fX11_tryWeeks v1 (g2 3 3) g2) (fun g3 => if 0 ≤ v2 then zchk v2 8 (zb (fX3_lastKind (455 + 1 + 3 * v2.toNatClampNeg) g3) (fun r_6 => some (.ok r_6, g3))) else zb (fX0_linesInAll 454 g3) (fun r_7 => some (.ok r_7, g3)))) : zM → Option (Except Nat Int32 × zM)) (fun k10 => if v2 = ((-1)) then k10 g else zb3 (fX11_needLetter v2 g) (fun _ g9 => k10 g9))
set_option maxHeartbeats 4000000 in
set_option maxRecDepth 100000 in
theorem fX11_trial_ok {X : zX} (hX : zCX X cX11_trial RX11) (hT : zNT X) (hR : X.2.2.2.1 = zrm 8 2) (hr : X.2.2.2.2.2.2.2.2.1.sig.returnType = (some .int)) (hn : X.2.2.2.2.2.2.2.2.2.1.maxLocals = 3) {v1 : Int32} {v2 : Int32} {g : zM} {r : Except Nat Int32 × zM} (hf : fX11_trial v1 v2 g = some r) : zW X (zQ X (zoI r) 2) 0 0 0 [(0, .ref (zB X + 0)), (1, .int v1), (2, .int v2)] [] g := by
  unfold fX11_trial at hf
  refine z_iload_n hX dX11_trial_0 2 rfl ?_
  refine z_iconst hX dX11_trial_1 ci_m1 ?_
  refine zjoin_ok (P := fun (k : zM → Option (Except Nat Int32 × zM)) => ∀ (g1 : zM), k g1 = some r → zW X (zQ X (zoI r) 2) 1 6 10 [(0, .ref (zB X + 0)), (1, .int v1), (2, .int v2)] [] g1) hf (fun g1 hf => ?_) (fun k10 hk10 hf => ?_)
  · refine z_iload_n hX dX11_trial_10 1 rfl ?_
    refine z_iconst hX dX11_trial_11 ci_0 ?_
    replace hf := zb3_some hf
    rcases hf with ⟨c2, g2, h2, rfl⟩ | ⟨r_2, g2, h2, hf⟩
    · exact z_callS_x hX hT ok_X11_needAhead rfl q1195 q1196 (zrm_ok hR (by decide)) (ct_X11_needAhead  h2) dX11_trial_12 rfl rfl (zl rfl) (zl rfl)
    refine z_callS0 hX ok_X11_needAhead rfl q1195 q1196 (zrm_ok hR (by decide)) (ct_X11_needAhead  h2) dX11_trial_12 rfl rfl ?_
    refine z_aload_n hX dX11_trial_15 0 rfl ?_
    refine z_iload_n hX dX11_trial_16 1 rfl ?_
    refine z_aload_n hX dX11_trial_17 0 rfl ?_
    refine gf_Post_now hX zq_0 q439 dX11_trial_18 ?_
    refine gf_World_bag_N hX zq_2 qn273 dX11_trial_21 ?_
    refine gf_Bag_seed_N hX zq_3 qn221 dX11_trial_24 ?_
    replace hf := zb_some hf
    obtain ⟨g3, h3, hf⟩ := hf
    refine z_callV0 hX ok_X11_tryWeeks q1471 q1473 q33 (zrm_ok hR (by decide)) (ct_X11_tryWeeks  h3) (zrec_Post hX zq_0) dX11_trial_27 rfl rfl ?_
    refine z_iload_n hX dX11_trial_30 2 rfl ?_
    refine z_if_ge hX 44 dX11_trial_31 (by decide) (fun h4 => ?_) (fun h4 => ?_)
    · replace hf := zif_pos h4 hf
      refine z_aload_n hX dX11_trial_44 0 rfl ?_
      refine gf_Post_trialBag hX zq_0 q447 dX11_trial_45 ?_
      refine gf_Bag_mails_N hX zq_454 qn213 dX11_trial_48 ?_
      refine z_iload_n hX dX11_trial_51 2 rfl ?_
      replace hf := zchk_some hf
      obtain ⟨h5, hf⟩ := hf
      refine z_aald_mail hX zq_455 h5 dX11_trial_52 ?_
      replace hf := zb_some hf
      obtain ⟨r_6, h6, hf⟩ := hf
      refine z_callV1 hX ok_X3_lastKind q517 q518 q519 (zrm_ok hR (by decide)) (ct_X3_lastKind (zk_el22 zq_455 h5) h6) (zrec_Mail hX (zk_el22 zq_455 h5)) dX11_trial_53 rfl rfl ?_
      obtain rfl := Option.some.inj hf
      exact z_iret hX hr rfl (zl rfl) (zl rfl) dX11_trial_56
    · replace hf := zif_neg h4 hf
      refine z_aload_n hX dX11_trial_34 0 rfl ?_
      refine gf_Post_trialBag hX zq_0 q447 dX11_trial_35 ?_
      replace hf := zb_some hf
      obtain ⟨r_7, h7, hf⟩ := hf
      refine z_callV1 hX ok_X0_linesInAll q635 q636 q637 (zrm_ok hR (by decide)) (ct_X0_linesInAll zq_454 h7) (zrec_Bag hX zq_454) dX11_trial_38 rfl rfl ?_
      refine z_goto hX 56 dX11_trial_41 (by decide) ?_
      obtain rfl := Option.some.inj hf
      exact z_iret hX hr rfl (zl rfl) (zl rfl) dX11_trial_56
  · refine z_icmp_eq hX 10 dX11_trial_2 (by decide) (fun h8 => ?_) (fun h8 => ?_)
    · replace hf := zif_pos h8 hf
      refine zW.widen (k' := 1) (n' := 6) (zl rfl) (zl rfl) ?_
      exact hk10 g hf
    · replace hf := zif_neg h8 hf
      refine z_aload_n hX dX11_trial_5 0 rfl ?_
      refine z_iload_n hX dX11_trial_6 2 rfl ?_
      replace hf := zb3_some hf
      rcases hf with ⟨c9, g9, h9, rfl⟩ | ⟨r_9, g9, h9, hf⟩
      · exact z_callV_x hX hT ok_X11_needLetter q978 q980 q26 (zrm_ok hR (by decide)) (ct_X11_needLetter  h9) (zrec_Post hX zq_0) dX11_trial_7 rfl rfl (zl rfl) (zl rfl)
      refine z_callV0 hX ok_X11_needLetter q978 q980 q26 (zrm_ok hR (by decide)) (ct_X11_needLetter  h9) (zrec_Post hX zq_0) dX11_trial_7 rfl rfl ?_
      exact hk10 g9 hf
set_option maxHeartbeats 4000000 in
set_option maxRecDepth 100000 in
theorem ct_X11_trial {E : zE} {v1 : Int32} {v2 : Int32} {g : zM} {r : Except Nat Int32 × zM} (hf : fX11_trial v1 v2 g = some r) : zCt yX11_trial cX11_trial 3 (some .int) 8 2 E [.ref (E.1 + 0), .int v1, .int v2] g (zoI r) := by
  refine zmet (by decide) (zl rfl) (fun X hE hX hT hR hr hn => ?_)
  subst hE
  exact fX11_trial_ok hX hT hR hr hn  hf
def fX11_span_L15 (v1 : Int32) (v2 : Int32) (k60 : Int32 → Int32 → zM → Option (Except Nat Int32 × zM)) : Nat → Int32 → Int32 → Int32 → zM → Option (Except Nat Int32 × zM)
  | 0, _, _, _, _ => none
  | n + 1, v3, v4, v5, g => if 6 < v5 then k60 v3 v4 g else zb (fX11_tryWeeks v1 v5 g) (fun g3 => zb (fX0_linesInAll 454 g3) (fun r_4 => fX11_span_L15 v1 v2 k60 n (if r_4 < v3 then r_4 else v3) (if v4 < r_4 then r_4 else v4) (v5 + 1) g3))
def fX11_span (v1 : Int32) (v2 : Int32) (g : zM) : Option (Except Nat Int32 × zM) := zb3 (fX11_needAhead v1 0 g) (fun _ g1 => fX11_span_L15 v1 v2 (fun v3_5 v4_5 g5 => if v2 = 0 then some (.ok v3_5, g5) else some (.ok v4_5, g5)) zFU 192 0 1 g1)
set_option maxHeartbeats 4000000 in
set_option maxRecDepth 100000 in
theorem fX11_span_L15_ok {X : zX} (hX : zCX X cX11_span RX11) (hT : zNT X) (hR : X.2.2.2.1 = zrm 8 1) (hr : X.2.2.2.2.2.2.2.2.1.sig.returnType = (some .int)) (hn : X.2.2.2.2.2.2.2.2.2.1.maxLocals = 7) {v1 : Int32} {v2 : Int32} {k60 : Int32 → Int32 → zM → Option (Except Nat Int32 × zM)} {r : Except Nat Int32 × zM} (hk60 : ∀ (v3 : Int32) (v4 : Int32) (g : zM), k60 v3 v4 g = some r → zW X (zQ X (zoI r) 1) 1 6 60 [(2, .int v2), (3, .int v3), (4, .int v4)] [] g) : ∀ (n : Nat) (v3 : Int32) (v4 : Int32) (v5 : Int32) (g : zM), fX11_span_L15 v1 v2 k60 n v3 v4 v5 g = some r → zW X (zQ X (zoI r) 1) 1 6 15 [(0, .ref (zB X + 0)), (1, .int v1), (2, .int v2), (3, .int v3), (4, .int v4), (5, .int v5)] [] g := by
  intro n
  induction n with
  | zero => intro v3 v4 v5 g hf; exact zno hf
  | succ n ih =>
    intro v3 v4 v5 g hf
    rw [fX11_span_L15] at hf
    refine z_iload hX dX11_span_15 5 rfl ?_
    refine z_bipush hX dX11_span_17 cb_6 ?_
    refine z_icmp_gt hX 60 dX11_span_19 (by decide) (fun h2 => ?_) (fun h2 => ?_)
    · replace hf := zif_pos h2 hf
      refine zW.sub [2, 3, 4] rfl ?_
      exact hk60 v3 v4 g hf
    · replace hf := zif_neg h2 hf
      refine z_aload_n hX dX11_span_22 0 rfl ?_
      refine z_iload_n hX dX11_span_23 1 rfl ?_
      refine z_iload hX dX11_span_24 5 rfl ?_
      replace hf := zb_some hf
      obtain ⟨g3, h3, hf⟩ := hf
      refine z_callV0 hX ok_X11_tryWeeks q1471 q1473 q33 (zrm_ok hR (by decide)) (ct_X11_tryWeeks  h3) (zrec_Post hX zq_0) dX11_span_26 rfl rfl ?_
      refine z_aload_n hX dX11_span_29 0 rfl ?_
      refine gf_Post_trialBag hX zq_0 q447 dX11_span_30 ?_
      replace hf := zb_some hf
      obtain ⟨r_4, h4, hf⟩ := hf
      refine z_callV1 hX ok_X0_linesInAll q635 q636 q637 (zrm_ok hR (by decide)) (ct_X0_linesInAll zq_454 h4) (zrec_Bag hX zq_454) dX11_span_33 rfl rfl ?_
      refine z_istore (lv' := [(6, .int r_4), (0, .ref (zB X + 0)), (1, .int v1), (2, .int v2), (3, .int v3), (4, .int v4), (5, .int v5)]) hX dX11_span_36 hn (by decide) rfl ?_
      refine z_iload_n hX dX11_span_38 4 rfl ?_
      refine z_iload hX dX11_span_39 0 rfl ?_
      refine z_min hX hR ⟨zl rfl, zl rfl⟩ q1483 dX11_span_41 (zl rfl) ?_
      refine z_istore_n (lv' := [(3, .int (if r_4 < v3 then r_4 else v3)), (6, .int r_4), (0, .ref (zB X + 0)), (1, .int v1), (2, .int v2), (4, .int v4), (5, .int v5)]) hX dX11_span_44 hn (by decide) rfl ?_
      refine z_iload hX dX11_span_45 5 rfl ?_
      refine z_iload hX dX11_span_47 1 rfl ?_
      refine z_max hX hR ⟨zl rfl, zl rfl⟩ q1412 dX11_span_49 (zl rfl) ?_
      refine z_istore (lv' := [(4, .int (if v4 < r_4 then r_4 else v4)), (3, .int (if r_4 < v3 then r_4 else v3)), (6, .int r_4), (0, .ref (zB X + 0)), (1, .int v1), (2, .int v2), (5, .int v5)]) hX dX11_span_52 hn (by decide) rfl ?_
      refine z_iincc (lv' := [(5, .int (v5 + 1)), (4, .int (if v4 < r_4 then r_4 else v4)), (3, .int (if r_4 < v3 then r_4 else v3)), (6, .int r_4), (0, .ref (zB X + 0)), (1, .int v1), (2, .int v2)]) hX dX11_span_54 hn (by decide) 6 rfl ci_1 rfl ?_
      refine z_goto hX 15 dX11_span_57 (by decide) ?_
      refine zW.sub [4, 5, 6, 2, 1, 0] rfl ?_
      exact ih (if r_4 < v3 then r_4 else v3) (if v4 < r_4 then r_4 else v4) (v5 + 1) g3 hf
set_option maxHeartbeats 4000000 in
set_option maxRecDepth 100000 in
theorem fX11_span_ok {X : zX} (hX : zCX X cX11_span RX11) (hT : zNT X) (hR : X.2.2.2.1 = zrm 8 1) (hr : X.2.2.2.2.2.2.2.2.1.sig.returnType = (some .int)) (hn : X.2.2.2.2.2.2.2.2.2.1.maxLocals = 7) {v1 : Int32} {v2 : Int32} {g : zM} {r : Except Nat Int32 × zM} (hf : fX11_span v1 v2 g = some r) : zW X (zQ X (zoI r) 1) 0 0 0 [(0, .ref (zB X + 0)), (1, .int v1), (2, .int v2)] [] g := by
  unfold fX11_span at hf
  refine z_iload_n hX dX11_span_0 1 rfl ?_
  refine z_iconst hX dX11_span_1 ci_0 ?_
  replace hf := zb3_some hf
  rcases hf with ⟨c1, g1, h1, rfl⟩ | ⟨r_1, g1, h1, hf⟩
  · exact z_callS_x hX hT ok_X11_needAhead rfl q1195 q1196 (zrm_ok hR (by decide)) (ct_X11_needAhead  h1) dX11_span_2 rfl rfl (zl rfl) (zl rfl)
  refine z_callS0 hX ok_X11_needAhead rfl q1195 q1196 (zrm_ok hR (by decide)) (ct_X11_needAhead  h1) dX11_span_2 rfl rfl ?_
  refine z_sipush hX dX11_span_5 cs_192 ?_
  refine z_istore_n (lv' := [(3, .int 192), (0, .ref (zB X + 0)), (1, .int v1), (2, .int v2)]) hX dX11_span_8 hn (by decide) rfl ?_
  refine z_iconst hX dX11_span_9 ci_0 ?_
  refine z_istore (lv' := [(4, .int 0), (3, .int 192), (0, .ref (zB X + 0)), (1, .int v1), (2, .int v2)]) hX dX11_span_10 hn (by decide) rfl ?_
  refine z_iconst hX dX11_span_12 ci_1 ?_
  refine z_istore (lv' := [(5, .int 1), (4, .int 0), (3, .int 192), (0, .ref (zB X + 0)), (1, .int v1), (2, .int v2)]) hX dX11_span_13 hn (by decide) rfl ?_
  refine zW.sub [3, 4, 5, 2, 1, 0] rfl ?_
  refine fX11_span_L15_ok hX hT hR hr hn (fun v3_5 v4_5 g5 hf => ?_) zFU 192 0 1 g1 hf
  · refine z_iload_n hX dX11_span_60 0 rfl ?_
    refine z_if_eq hX 69 dX11_span_61 (by decide) (fun h6 => ?_) (fun h6 => ?_)
    · replace hf := zif_pos h6 hf
      refine z_iload_n hX dX11_span_69 1 rfl ?_
      obtain rfl := Option.some.inj hf
      exact z_iret hX hr rfl (zl rfl) (zl rfl) dX11_span_70
    · replace hf := zif_neg h6 hf
      refine z_iload hX dX11_span_64 2 rfl ?_
      refine z_goto hX 70 dX11_span_66 (by decide) ?_
      obtain rfl := Option.some.inj hf
      exact z_iret hX hr rfl (zl rfl) (zl rfl) dX11_span_70
set_option maxHeartbeats 4000000 in
set_option maxRecDepth 100000 in
theorem ct_X11_span {E : zE} {v1 : Int32} {v2 : Int32} {g : zM} {r : Except Nat Int32 × zM} (hf : fX11_span v1 v2 g = some r) : zCt yX11_span cX11_span 7 (some .int) 8 1 E [.ref (E.1 + 0), .int v1, .int v2] g (zoI r) := by
  refine zmet (by decide) (zl rfl) (fun X hE hX hT hR hr hn => ?_)
  subst hE
  exact fX11_span_ok hX hT hR hr hn  hf
def fX3_linesOf_L4 (h : Nat) (v1 : Int32) (g : zM) : Nat → Int32 → Int32 → Option Int32
  | 0, _, _ => none
  | n + 1, v2, v3 => if (g h 2) ≤ v3 then some v2 else zchk v3 24 (if (g (h + 2) v3.toNatClampNeg) = v1 then fX3_linesOf_L4 h v1 g n (v2 + 1) (v3 + 1) else fX3_linesOf_L4 h v1 g n v2 (v3 + 1))
def fX3_linesOf (h : Nat) (v1 : Int32) (g : zM) : Option Int32 := fX3_linesOf_L4 h v1 g zFU 0 0
set_option maxHeartbeats 4000000 in
set_option maxRecDepth 100000 in
theorem fX3_linesOf_L4_ok {X : zX} (hX : zCX X cX3_linesOf RX3) (hT : zNT X) (hR : X.2.2.2.1 = zrm 0 0) (hr : X.2.2.2.2.2.2.2.2.1.sig.returnType = (some .int)) (hn : X.2.2.2.2.2.2.2.2.2.1.maxLocals = 4) {h : Nat} {v1 : Int32} (hkh : zK h = 3) {g : zM} {r : Int32}  : ∀ (n : Nat) (v2 : Int32) (v3 : Int32), fX3_linesOf_L4 h v1 g n v2 v3 = some r → zW X (zQ X (.inl (some (.int r), g)) 0) 0 0 4 [(0, .ref (zB X + h)), (1, .int v1), (2, .int v2), (3, .int v3)] [] g := by
  intro n
  induction n with
  | zero => intro v2 v3 hf; exact zno hf
  | succ n ih =>
    intro v2 v3 hf
    rw [fX3_linesOf_L4] at hf
    refine z_iload_n hX dX3_linesOf_4 3 rfl ?_
    refine z_aload_n hX dX3_linesOf_5 0 rfl ?_
    refine gf_Mail_lines hX hkh q173 dX3_linesOf_6 ?_
    refine z_icmp_ge hX 31 dX3_linesOf_9 (by decide) (fun h1 => ?_) (fun h1 => ?_)
    · replace hf := zif_pos h1 hf
      refine z_iload_n hX dX3_linesOf_31 2 rfl ?_
      obtain rfl := Option.some.inj hf
      exact z_iret hX hr rfl (zl rfl) (zl rfl) dX3_linesOf_32
    · replace hf := zif_neg h1 hf
      refine z_aload_n hX dX3_linesOf_12 0 rfl ?_
      refine gf_Mail_weeks hX hkh q172 dX3_linesOf_13 ?_
      refine z_iload_n hX dX3_linesOf_16 3 rfl ?_
      replace hf := zchk_some hf
      obtain ⟨h2, hf⟩ := hf
      refine z_iald hX (zk_Mail_weeks hkh) (by decide) (zc_1024 _ _ _) h2 dX3_linesOf_17 ?_
      refine z_iload_n hX dX3_linesOf_18 1 rfl ?_
      refine z_icmp_ne hX 25 dX3_linesOf_19 (by decide) (fun h3 => ?_) (fun h3 => ?_)
      · replace hf := zif_neg h3 hf
        refine z_iincc (lv' := [(3, .int (v3 + 1)), (0, .ref (zB X + h)), (1, .int v1), (2, .int v2)]) hX dX3_linesOf_25 hn (by decide) 3 rfl ci_1 rfl ?_
        refine z_goto hX 4 dX3_linesOf_28 (by decide) ?_
        refine zW.sub [1, 2, 3, 0] rfl ?_
        exact ih v2 (v3 + 1) hf
      · replace hf := zif_pos h3 hf
        refine z_iincc (lv' := [(2, .int (v2 + 1)), (0, .ref (zB X + h)), (1, .int v1), (3, .int v3)]) hX dX3_linesOf_22 hn (by decide) 2 rfl ci_1 rfl ?_
        refine z_iincc (lv' := [(3, .int (v3 + 1)), (2, .int (v2 + 1)), (0, .ref (zB X + h)), (1, .int v1)]) hX dX3_linesOf_25 hn (by decide) 3 rfl ci_1 rfl ?_
        refine z_goto hX 4 dX3_linesOf_28 (by decide) ?_
        refine zW.sub [2, 3, 1, 0] rfl ?_
        exact ih (v2 + 1) (v3 + 1) hf
set_option maxHeartbeats 4000000 in
set_option maxRecDepth 100000 in
theorem fX3_linesOf_ok {X : zX} (hX : zCX X cX3_linesOf RX3) (hT : zNT X) (hR : X.2.2.2.1 = zrm 0 0) (hr : X.2.2.2.2.2.2.2.2.1.sig.returnType = (some .int)) (hn : X.2.2.2.2.2.2.2.2.2.1.maxLocals = 4) {h : Nat} {v1 : Int32} (hkh : zK h = 3) {g : zM} {r : Int32} (hf : fX3_linesOf h v1 g = some r) : zW X (zQ X (.inl (some (.int r), g)) 0) 0 0 0 [(0, .ref (zB X + h)), (1, .int v1)] [] g := by
  unfold fX3_linesOf at hf
  refine z_iconst hX dX3_linesOf_0 ci_0 ?_
  refine z_istore_n (lv' := [(2, .int 0), (0, .ref (zB X + h)), (1, .int v1)]) hX dX3_linesOf_1 hn (by decide) rfl ?_
  refine z_iconst hX dX3_linesOf_2 ci_0 ?_
  refine z_istore_n (lv' := [(3, .int 0), (2, .int 0), (0, .ref (zB X + h)), (1, .int v1)]) hX dX3_linesOf_3 hn (by decide) rfl ?_
  refine zW.sub [2, 3, 1, 0] rfl ?_
  exact fX3_linesOf_L4_ok hX hT hR hr hn hkh zFU 0 0 hf
set_option maxHeartbeats 4000000 in
set_option maxRecDepth 100000 in
theorem ct_X3_linesOf {E : zE} {h : Nat} {v1 : Int32} (hkh : zK h = 3) {g : zM} {r : Int32} (hf : fX3_linesOf h v1 g = some r) : zCt yX3_linesOf cX3_linesOf 4 (some .int) 0 0 E [.ref (E.1 + h), .int v1] g (.inl (some (.int r), g)) := by
  refine zmet (by decide) (zl rfl) (fun X hE hX hT hR hr hn => ?_)
  subst hE
  exact fX3_linesOf_ok hX hT hR hr hn hkh hf
def fX11_latest_L7 (v1 : Int32) (g : zM) : Nat → Int32 → Int32 → Int32 → Option Int32
  | 0, _, _, _ => none
  | n + 1, v2, v3, v4 => if (g 3 1) ≤ v4 then some v3 else zchk v4 8 (zb (fX3_linesOf (4 + 1 + 3 * v4.toNatClampNeg) v1 g) (fun r_3 => if r_3 ≤ v2 then fX11_latest_L7 v1 g n v2 v3 (v4 + 1) else fX11_latest_L7 v1 g n r_3 v4 (v4 + 1)))
def fX11_latest (v1 : Int32) (g : zM) : Option Int32 := fX11_latest_L7 v1 g zFU 0 ((-1)) 0
set_option maxHeartbeats 4000000 in
set_option maxRecDepth 100000 in
theorem fX11_latest_L7_ok {X : zX} (hX : zCX X cX11_latest RX11) (hT : zNT X) (hR : X.2.2.2.1 = zrm 1 0) (hr : X.2.2.2.2.2.2.2.2.1.sig.returnType = (some .int)) (hn : X.2.2.2.2.2.2.2.2.2.1.maxLocals = 6) {v1 : Int32} {g : zM} {r : Int32}  : ∀ (n : Nat) (v2 : Int32) (v3 : Int32) (v4 : Int32), fX11_latest_L7 v1 g n v2 v3 v4 = some r → zW X (zQ X (.inl (some (.int r), g)) 0) 0 0 7 [(0, .ref (zB X + 0)), (1, .int v1), (2, .int v2), (3, .int v3), (4, .int v4)] [] g := by
  intro n
  induction n with
  | zero => intro v2 v3 v4 hf; exact zno hf
  | succ n ih =>
    intro v2 v3 v4 hf
    rw [fX11_latest_L7] at hf
    refine z_iload hX dX11_latest_7 4 rfl ?_
    refine z_aload_n hX dX11_latest_9 0 rfl ?_
    refine gf_Post_now hX zq_0 q439 dX11_latest_10 ?_
    refine gf_World_bag_N hX zq_2 qn273 dX11_latest_13 ?_
    refine gf_Bag_size_N hX zq_3 qn216 dX11_latest_16 ?_
    refine z_icmp_ge hX 59 dX11_latest_19 (by decide) (fun h1 => ?_) (fun h1 => ?_)
    · replace hf := zif_pos h1 hf
      refine z_iload_n hX dX11_latest_59 3 rfl ?_
      obtain rfl := Option.some.inj hf
      exact z_iret hX hr rfl (zl rfl) (zl rfl) dX11_latest_60
    · replace hf := zif_neg h1 hf
      refine z_aload_n hX dX11_latest_22 0 rfl ?_
      refine gf_Post_now hX zq_0 q439 dX11_latest_23 ?_
      refine gf_World_bag_N hX zq_2 qn273 dX11_latest_26 ?_
      refine gf_Bag_mails_N hX zq_3 qn213 dX11_latest_29 ?_
      refine z_iload hX dX11_latest_32 4 rfl ?_
      replace hf := zchk_some hf
      obtain ⟨h2, hf⟩ := hf
      refine z_aald_mail hX zq_4 h2 dX11_latest_34 ?_
      refine z_iload_n hX dX11_latest_35 1 rfl ?_
      replace hf := zb_some hf
      obtain ⟨r_3, h3, hf⟩ := hf
      refine z_callV1 hX ok_X3_linesOf q587 q588 q589 (zrm_ok hR (by decide)) (ct_X3_linesOf (zk_el22 zq_4 h2) h3) (zrec_Mail hX (zk_el22 zq_4 h2)) dX11_latest_36 rfl rfl ?_
      refine z_istore (lv' := [(5, .int r_3), (0, .ref (zB X + 0)), (1, .int v1), (2, .int v2), (3, .int v3), (4, .int v4)]) hX dX11_latest_39 hn (by decide) rfl ?_
      refine z_iload hX dX11_latest_41 0 rfl ?_
      refine z_iload_n hX dX11_latest_43 3 rfl ?_
      refine z_icmp_le hX 53 dX11_latest_44 (by decide) (fun h4 => ?_) (fun h4 => ?_)
      · replace hf := zif_pos h4 hf
        refine z_iincc (lv' := [(4, .int (v4 + 1)), (5, .int r_3), (0, .ref (zB X + 0)), (1, .int v1), (2, .int v2), (3, .int v3)]) hX dX11_latest_53 hn (by decide) 5 rfl ci_1 rfl ?_
        refine z_goto hX 7 dX11_latest_56 (by decide) ?_
        refine zW.sub [2, 3, 4, 5, 0] rfl ?_
        exact ih v2 v3 (v4 + 1) hf
      · replace hf := zif_neg h4 hf
        refine z_iload hX dX11_latest_47 0 rfl ?_
        refine z_istore_n (lv' := [(2, .int r_3), (5, .int r_3), (0, .ref (zB X + 0)), (1, .int v1), (3, .int v3), (4, .int v4)]) hX dX11_latest_49 hn (by decide) rfl ?_
        refine z_iload hX dX11_latest_50 5 rfl ?_
        refine z_istore_n (lv' := [(3, .int v4), (2, .int r_3), (5, .int r_3), (0, .ref (zB X + 0)), (1, .int v1), (4, .int v4)]) hX dX11_latest_52 hn (by decide) rfl ?_
        refine z_iincc (lv' := [(4, .int (v4 + 1)), (3, .int v4), (2, .int r_3), (5, .int r_3), (0, .ref (zB X + 0)), (1, .int v1)]) hX dX11_latest_53 hn (by decide) 5 rfl ci_1 rfl ?_
        refine z_goto hX 7 dX11_latest_56 (by decide) ?_
        refine zW.sub [4, 5, 2, 1, 0] rfl ?_
        exact ih r_3 v4 (v4 + 1) hf
set_option maxHeartbeats 4000000 in
set_option maxRecDepth 100000 in
theorem fX11_latest_ok {X : zX} (hX : zCX X cX11_latest RX11) (hT : zNT X) (hR : X.2.2.2.1 = zrm 1 0) (hr : X.2.2.2.2.2.2.2.2.1.sig.returnType = (some .int)) (hn : X.2.2.2.2.2.2.2.2.2.1.maxLocals = 6) {v1 : Int32} {g : zM} {r : Int32} (hf : fX11_latest v1 g = some r) : zW X (zQ X (.inl (some (.int r), g)) 0) 0 0 0 [(0, .ref (zB X + 0)), (1, .int v1)] [] g := by
  unfold fX11_latest at hf
  refine z_iconst hX dX11_latest_0 ci_0 ?_
  refine z_istore_n (lv' := [(2, .int 0), (0, .ref (zB X + 0)), (1, .int v1)]) hX dX11_latest_1 hn (by decide) rfl ?_
  refine z_iconst hX dX11_latest_2 ci_m1 ?_
  refine z_istore_n (lv' := [(3, .int ((-1))), (2, .int 0), (0, .ref (zB X + 0)), (1, .int v1)]) hX dX11_latest_3 hn (by decide) rfl ?_
  refine z_iconst hX dX11_latest_4 ci_0 ?_
  refine z_istore (lv' := [(4, .int 0), (3, .int ((-1))), (2, .int 0), (0, .ref (zB X + 0)), (1, .int v1)]) hX dX11_latest_5 hn (by decide) rfl ?_
  refine zW.sub [3, 4, 2, 1, 0] rfl ?_
  exact fX11_latest_L7_ok hX hT hR hr hn  zFU 0 ((-1)) 0 hf
set_option maxHeartbeats 4000000 in
set_option maxRecDepth 100000 in
theorem ct_X11_latest {E : zE} {v1 : Int32} {g : zM} {r : Int32} (hf : fX11_latest v1 g = some r) : zCt yX11_latest cX11_latest 6 (some .int) 1 0 E [.ref (E.1 + 0), .int v1] g (.inl (some (.int r), g)) := by
  refine zmet (by decide) (zl rfl) (fun X hE hX hT hR hr hn => ?_)
  subst hE
  exact fX11_latest_ok hX hT hR hr hn  hf
def fX11_seed (v1 : Int32) (g : zM) : Option (Int32 × zM) := zput g 3 3 v1 (fun g1 => some (g 3 3, g1))
set_option maxHeartbeats 4000000 in
set_option maxRecDepth 100000 in
theorem fX11_seed_ok {X : zX} (hX : zCX X cX11_seed RX11) (hT : zNT X) (hR : X.2.2.2.1 = zrm 0 0) (hr : X.2.2.2.2.2.2.2.2.1.sig.returnType = (some .int)) (hn : X.2.2.2.2.2.2.2.2.2.1.maxLocals = 3) {v1 : Int32} {g : zM} {r : Int32 × zM} (hf : fX11_seed v1 g = some r) : zW X (zQ X (.inl (some (.int r.1), r.2)) 0) 0 0 0 [(0, .ref (zB X + 0)), (1, .int v1)] [] g := by
  unfold fX11_seed at hf
  refine z_aload_n hX dX11_seed_0 0 rfl ?_
  refine gf_Post_now hX zq_0 q439 dX11_seed_1 ?_
  refine gf_World_bag_N hX zq_2 qn273 dX11_seed_4 ?_
  refine gf_Bag_seed_N hX zq_3 qn221 dX11_seed_7 ?_
  refine z_istore_n (lv' := [(2, .int (g 3 3)), (0, .ref (zB X + 0)), (1, .int v1)]) hX dX11_seed_10 hn (by decide) rfl ?_
  refine z_aload_n hX dX11_seed_11 1 rfl ?_
  refine gf_Post_now hX zq_0 q439 dX11_seed_12 ?_
  refine gf_World_bag_N hX zq_2 qn273 dX11_seed_15 ?_
  refine z_iload_n hX dX11_seed_18 2 rfl ?_
  replace hf := zput_some hf
  obtain ⟨g1, eg1, hf⟩ := hf
  refine gp_Bag_seed_N hX zq_3 qn221 dX11_seed_19 (zW.eqg eg1 ?_)
  refine z_iload_n hX dX11_seed_22 0 rfl ?_
  obtain rfl := Option.some.inj hf
  exact z_iret hX hr rfl (zl rfl) (zl rfl) dX11_seed_23
set_option maxHeartbeats 4000000 in
set_option maxRecDepth 100000 in
theorem ct_X11_seed {E : zE} {v1 : Int32} {g : zM} {r : Int32 × zM} (hf : fX11_seed v1 g = some r) : zCt yX11_seed cX11_seed 3 (some .int) 0 0 E [.ref (E.1 + 0), .int v1] g (.inl (some (.int r.1), r.2)) := by
  refine zmet (by decide) (zl rfl) (fun X hE hX hT hR hr hn => ?_)
  subst hE
  exact fX11_seed_ok hX hT hR hr hn  hf
def fX4_takeBack (r1 : Nat) (g : zM) : Option (Int32 × zM) := if (g 76 2) = 0 then some (0, g) else zput g 76 1 ((((g 76 1) + 12) - 1) - (((g 76 1) + 12) - 1) / 12 * 12) (fun g2 => zput g2 76 2 ((g2 76 2) - 1) (fun g3 => zchk (g3 76 1) 12 (zb (fX0_become r1 (77 + 1 + 26 * (g3 76 1).toNatClampNeg) g3) (fun g5 => some (1, g5)))))
set_option maxHeartbeats 4000000 in
set_option maxRecDepth 100000 in
theorem fX4_takeBack_ok {X : zX} (hX : zCX X cX4_takeBack RX4) (hT : zNT X) (hR : X.2.2.2.1 = zrm 7 0) (hr : X.2.2.2.2.2.2.2.2.1.sig.returnType = (some .boolean)) (hn : X.2.2.2.2.2.2.2.2.2.1.maxLocals = 2) {r1 : Nat} (hk1 : zK r1 = 0) {g : zM} {r : Int32 × zM} (hf : fX4_takeBack r1 g = some r) : zW X (zQ X (.inl (some (.int r.1), r.2)) 0) 0 0 0 [(0, .ref (zB X + 76)), (1, .ref (zB X + r1))] [] g := by
  unfold fX4_takeBack at hf
  refine z_aload_n hX dX4_takeBack_0 0 rfl ?_
  refine gf_Memory_size hX zq_76 q315 dX4_takeBack_1 ?_
  refine z_if_ne hX 9 dX4_takeBack_4 (by decide) (fun h1 => ?_) (fun h1 => ?_)
  · replace hf := zif_neg h1 hf
    refine z_aload_n hX dX4_takeBack_9 0 rfl ?_
    refine z_aload_n hX dX4_takeBack_10 0 rfl ?_
    refine gf_Memory_next hX zq_76 q314 dX4_takeBack_11 ?_
    refine z_bipush hX dX4_takeBack_14 cb_12 ?_
    refine z_iadd hX dX4_takeBack_16 ?_
    refine z_iconst hX dX4_takeBack_17 ci_1 ?_
    refine z_isub hX dX4_takeBack_18 ?_
    refine z_bipush hX dX4_takeBack_19 cb_12 ?_
    refine z_irem hX dX4_takeBack_21 (by decide) ?_
    replace hf := zput_some hf
    obtain ⟨g2, eg2, hf⟩ := hf
    refine gp_Memory_next hX zq_76 q314 dX4_takeBack_22 (zW.eqg eg2 ?_)
    refine z_aload_n hX dX4_takeBack_25 0 rfl ?_
    refine z_dup hX dX4_takeBack_26 rfl ?_
    refine gf_Memory_size hX zq_76 q315 dX4_takeBack_27 ?_
    refine z_iconst hX dX4_takeBack_30 ci_1 ?_
    refine z_isub hX dX4_takeBack_31 ?_
    replace hf := zput_some hf
    obtain ⟨g3, eg3, hf⟩ := hf
    refine gp_Memory_size hX zq_76 q315 dX4_takeBack_32 (zW.eqg eg3 ?_)
    refine z_aload_n hX dX4_takeBack_35 1 rfl ?_
    refine z_aload_n hX dX4_takeBack_36 0 rfl ?_
    refine gf_Memory_acts hX zq_76 q313 dX4_takeBack_37 ?_
    refine z_aload_n hX dX4_takeBack_40 0 rfl ?_
    refine gf_Memory_next hX zq_76 q314 dX4_takeBack_41 ?_
    replace hf := zchk_some hf
    obtain ⟨h4, hf⟩ := hf
    refine z_aald_bag hX zq_77 h4 dX4_takeBack_44 ?_
    replace hf := zb_some hf
    obtain ⟨g5, h5, hf⟩ := hf
    refine z_callV0 hX ok_X0_become q603 q604 q605 (zrm_ok hR (by decide)) (ct_X0_become hk1 (zk_el23 zq_77 h4) h5) (zrec_Bag hX hk1) dX4_takeBack_45 rfl rfl ?_
    refine z_iconst hX dX4_takeBack_48 ci_1 ?_
    obtain rfl := Option.some.inj hf
    exact z_iret hX hr (zbn (Or.inr rfl)) (zl rfl) (zl rfl) dX4_takeBack_49
  · replace hf := zif_pos h1 hf
    refine z_iconst hX dX4_takeBack_7 ci_0 ?_
    obtain rfl := Option.some.inj hf
    exact z_iret hX hr (zbn (Or.inl rfl)) (zl rfl) (zl rfl) dX4_takeBack_8
set_option maxHeartbeats 4000000 in
set_option maxRecDepth 100000 in
theorem ct_X4_takeBack {E : zE} {r1 : Nat} (hk1 : zK r1 = 0) {g : zM} {r : Int32 × zM} (hf : fX4_takeBack r1 g = some r) : zCt yX4_takeBack cX4_takeBack 2 (some .boolean) 7 0 E [.ref (E.1 + 76), .ref (E.1 + r1)] g (.inl (some (.int r.1), r.2)) := by
  refine zmet (by decide) (zl rfl) (fun X hE hX hT hR hr hn => ?_)
  subst hE
  exact fX4_takeBack_ok hX hT hR hr hn hk1 hf
def fX11_undo (g : zM) : Option (Int32 × zM) := zb2 (fX4_takeBack 3 g) (fun r_1 g1 => zbo r_1 (some (r_1, g1)))
set_option maxHeartbeats 4000000 in
set_option maxRecDepth 100000 in
theorem fX11_undo_ok {X : zX} (hX : zCX X cX11_undo RX11) (hT : zNT X) (hR : X.2.2.2.1 = zrm 8 0) (hr : X.2.2.2.2.2.2.2.2.1.sig.returnType = (some .boolean)) (hn : X.2.2.2.2.2.2.2.2.2.1.maxLocals = 1)  {g : zM} {r : Int32 × zM} (hf : fX11_undo g = some r) : zW X (zQ X (.inl (some (.int r.1), r.2)) 0) 0 0 0 [(0, .ref (zB X + 0))] [] g := by
  unfold fX11_undo at hf
  refine z_aload_n hX dX11_undo_0 0 rfl ?_
  refine gf_Post_memory hX zq_0 q442 dX11_undo_1 ?_
  refine z_aload_n hX dX11_undo_4 0 rfl ?_
  refine gf_Post_now hX zq_0 q439 dX11_undo_5 ?_
  refine gf_World_bag_N hX zq_2 qn273 dX11_undo_8 ?_
  replace hf := zb2_some hf
  obtain ⟨r_1, g1, h1, hf⟩ := hf
  refine z_callV1 hX ok_X4_takeBack q599 q600 q601 (zrm_ok hR (by decide)) (ct_X4_takeBack zq_3 h1) (zrec_Memory hX zq_76) dX11_undo_11 rfl rfl ?_
  replace hf := zbo_some hf
  obtain ⟨h2, hf⟩ := hf
  obtain rfl := Option.some.inj hf
  exact z_iret hX hr (zbn h2) (zl rfl) (zl rfl) dX11_undo_14
set_option maxHeartbeats 4000000 in
set_option maxRecDepth 100000 in
theorem ct_X11_undo {E : zE} {g : zM} {r : Int32 × zM} (hf : fX11_undo g = some r) : zCt yX11_undo cX11_undo 1 (some .boolean) 8 0 E [.ref (E.1 + 0)] g (.inl (some (.int r.1), r.2)) := by
  refine zmet (by decide) (zl rfl) (fun X hE hX hT hR hr hn => ?_)
  subst hE
  exact fX11_undo_ok hX hT hR hr hn  hf
def fX11_image (g : zM) : Option zM := zb (fX10_become 39 2 g) (fun g1 => zput g1 0 5 1 (fun g2 => some g2))
set_option maxHeartbeats 4000000 in
set_option maxRecDepth 100000 in
theorem fX11_image_ok {X : zX} (hX : zCX X cX11_image RX11) (hT : zNT X) (hR : X.2.2.2.1 = zrm 8 0) (hr : X.2.2.2.2.2.2.2.2.1.sig.returnType = none) (hn : X.2.2.2.2.2.2.2.2.2.1.maxLocals = 1)  {g : zM} {r : zM} (hf : fX11_image g = some r) : zW X (zQ X (.inl (none, r)) 0) 0 0 0 [(0, .ref (zB X + 0))] [] g := by
  unfold fX11_image at hf
  refine z_aload_n hX dX11_image_0 0 rfl ?_
  refine gf_Post_kept hX zq_0 q440 dX11_image_1 ?_
  refine z_aload_n hX dX11_image_4 0 rfl ?_
  refine gf_Post_now hX zq_0 q439 dX11_image_5 ?_
  replace hf := zb_some hf
  obtain ⟨g1, h1, hf⟩ := hf
  refine z_callV0 hX ok_X10_become q612 q613 q614 (zrm_ok hR (by decide)) (ct_X10_become zq_39 zq_2 h1) (zrec_World hX zq_39) dX11_image_8 rfl rfl ?_
  refine z_aload_n hX dX11_image_11 0 rfl ?_
  refine z_iconst hX dX11_image_12 ci_1 ?_
  replace hf := zput_some hf
  obtain ⟨g2, eg2, hf⟩ := hf
  refine gp_Post_isKept hX zq_0 q441 (Or.inr rfl) dX11_image_13 (zW.eqg eg2 ?_)
  obtain rfl := Option.some.inj hf
  exact z_vret hX hr (zl rfl) (zl rfl) dX11_image_16
set_option maxHeartbeats 4000000 in
set_option maxRecDepth 100000 in
theorem ct_X11_image {E : zE} {g : zM} {r : zM} (hf : fX11_image g = some r) : zCt yX11_image cX11_image 1 none 8 0 E [.ref (E.1 + 0)] g (.inl (none, r)) := by
  refine zmet (by decide) (zl rfl) (fun X hE hX hT hR hr hn => ?_)
  subst hE
  exact fX11_image_ok hX hT hR hr hn  hf
def fX11_back (g : zM) : Option (Int32 × zM) := if (g 0 5) = 0 then some (0, g) else zb (fX10_become 2 39 g) (fun g2 => zb (fX4_forget g2) (fun g3 => some (1, g3)))
set_option maxHeartbeats 4000000 in
set_option maxRecDepth 100000 in
theorem fX11_back_ok {X : zX} (hX : zCX X cX11_back RX11) (hT : zNT X) (hR : X.2.2.2.1 = zrm 8 0) (hr : X.2.2.2.2.2.2.2.2.1.sig.returnType = (some .boolean)) (hn : X.2.2.2.2.2.2.2.2.2.1.maxLocals = 1)  {g : zM} {r : Int32 × zM} (hf : fX11_back g = some r) : zW X (zQ X (.inl (some (.int r.1), r.2)) 0) 0 0 0 [(0, .ref (zB X + 0))] [] g := by
  unfold fX11_back at hf
  refine z_aload_n hX dX11_back_0 0 rfl ?_
  refine gf_Post_isKept hX zq_0 q441 dX11_back_1 ?_
  refine z_if_ne hX 9 dX11_back_4 (by decide) (fun h1 => ?_) (fun h1 => ?_)
  · replace hf := zif_neg h1 hf
    refine z_aload_n hX dX11_back_9 0 rfl ?_
    refine gf_Post_now hX zq_0 q439 dX11_back_10 ?_
    refine z_aload_n hX dX11_back_13 0 rfl ?_
    refine gf_Post_kept hX zq_0 q440 dX11_back_14 ?_
    replace hf := zb_some hf
    obtain ⟨g2, h2, hf⟩ := hf
    refine z_callV0 hX ok_X10_become q612 q613 q614 (zrm_ok hR (by decide)) (ct_X10_become zq_2 zq_39 h2) (zrec_World hX zq_2) dX11_back_17 rfl rfl ?_
    refine z_aload_n hX dX11_back_20 0 rfl ?_
    refine gf_Post_memory hX zq_0 q442 dX11_back_21 ?_
    replace hf := zb_some hf
    obtain ⟨g3, h3, hf⟩ := hf
    refine z_callV0 hX ok_X4_forget q627 q628 q629 (zrm_ok hR (by decide)) (ct_X4_forget  h3) (zrec_Memory hX zq_76) dX11_back_24 rfl rfl ?_
    refine z_iconst hX dX11_back_27 ci_1 ?_
    obtain rfl := Option.some.inj hf
    exact z_iret hX hr (zbn (Or.inr rfl)) (zl rfl) (zl rfl) dX11_back_28
  · replace hf := zif_pos h1 hf
    refine z_iconst hX dX11_back_7 ci_0 ?_
    obtain rfl := Option.some.inj hf
    exact z_iret hX hr (zbn (Or.inl rfl)) (zl rfl) (zl rfl) dX11_back_8
set_option maxHeartbeats 4000000 in
set_option maxRecDepth 100000 in
theorem ct_X11_back {E : zE} {g : zM} {r : Int32 × zM} (hf : fX11_back g = some r) : zCt yX11_back cX11_back 1 (some .boolean) 8 0 E [.ref (E.1 + 0)] g (.inl (some (.int r.1), r.2)) := by
  refine zmet (by decide) (zl rfl) (fun X hE hX hT hR hr hn => ?_)
  subst hE
  exact fX11_back_ok hX hT hR hr hn  hf
def fX0_hotSet_L4 (h : Nat) (g : zM) : Nat → Int32 → Int32 → Option Int32
  | 0, _, _ => none
  | n + 1, v1, v2 => if (g h 1) ≤ v2 then some v1 else zchk v2 8 (if (g (h + 1 + 1 + 3 * v2.toNatClampNeg) 6) = 0 then fX0_hotSet_L4 h g n (v1 ||| 0) (v2 + 1) else fX0_hotSet_L4 h g n (v1 ||| ((1 : Int32) <<< (v2 &&& 31))) (v2 + 1))
def fX0_hotSet (h : Nat) (g : zM) : Option Int32 := fX0_hotSet_L4 h g zFU 0 0
set_option maxHeartbeats 4000000 in
set_option maxRecDepth 100000 in
theorem fX0_hotSet_L4_ok {X : zX} (hX : zCX X cX0_hotSet RX0) (hT : zNT X) (hR : X.2.2.2.1 = zrm 0 0) (hr : X.2.2.2.2.2.2.2.2.1.sig.returnType = (some .int)) (hn : X.2.2.2.2.2.2.2.2.2.1.maxLocals = 3) {h : Nat} (hkh : zK h = 0) {g : zM} {r : Int32}  : ∀ (n : Nat) (v1 : Int32) (v2 : Int32), fX0_hotSet_L4 h g n v1 v2 = some r → zW X (zQ X (.inl (some (.int r), g)) 0) 0 0 4 [(0, .ref (zB X + h)), (1, .int v1), (2, .int v2)] [] g := by
  intro n
  induction n with
  | zero => intro v1 v2 hf; exact zno hf
  | succ n ih =>
    intro v1 v2 hf
    rw [fX0_hotSet_L4] at hf
    refine z_iload_n hX dX0_hotSet_4 2 rfl ?_
    refine z_aload_n hX dX0_hotSet_5 0 rfl ?_
    refine gf_Bag_size hX hkh q214 dX0_hotSet_6 ?_
    refine z_icmp_ge hX 40 dX0_hotSet_9 (by decide) (fun h1 => ?_) (fun h1 => ?_)
    · replace hf := zif_pos h1 hf
      refine z_iload_n hX dX0_hotSet_40 1 rfl ?_
      obtain rfl := Option.some.inj hf
      exact z_iret hX hr rfl (zl rfl) (zl rfl) dX0_hotSet_41
    · replace hf := zif_neg h1 hf
      refine z_iload_n hX dX0_hotSet_12 1 rfl ?_
      refine z_aload_n hX dX0_hotSet_13 0 rfl ?_
      refine gf_Bag_mails hX hkh q211 dX0_hotSet_14 ?_
      refine z_iload_n hX dX0_hotSet_17 2 rfl ?_
      replace hf := zchk_some hf
      obtain ⟨h2, hf⟩ := hf
      refine z_aald_mail hX (zk_Bag_mails hkh) h2 dX0_hotSet_18 ?_
      refine gf_Mail_hot_N hX (zk_el22 (zk_Bag_mails hkh) h2) qn190 dX0_hotSet_19 ?_
      refine z_if_eq hX 31 dX0_hotSet_22 (by decide) (fun h3 => ?_) (fun h3 => ?_)
      · replace hf := zif_pos h3 hf
        refine z_iconst hX dX0_hotSet_31 ci_0 ?_
        refine z_ior hX dX0_hotSet_32 ?_
        refine z_istore_n (lv' := [(1, .int (v1 ||| 0)), (0, .ref (zB X + h)), (2, .int v2)]) hX dX0_hotSet_33 hn (by decide) rfl ?_
        refine z_iincc (lv' := [(2, .int (v2 + 1)), (1, .int (v1 ||| 0)), (0, .ref (zB X + h))]) hX dX0_hotSet_34 hn (by decide) 2 rfl ci_1 rfl ?_
        refine z_goto hX 4 dX0_hotSet_37 (by decide) ?_
        refine zW.sub [2, 1, 0] rfl ?_
        exact ih (v1 ||| 0) (v2 + 1) hf
      · replace hf := zif_neg h3 hf
        refine z_iconst hX dX0_hotSet_25 ci_1 ?_
        refine z_iload_n hX dX0_hotSet_26 2 rfl ?_
        refine z_ishl hX dX0_hotSet_27 ?_
        refine z_goto hX 32 dX0_hotSet_28 (by decide) ?_
        refine z_ior hX dX0_hotSet_32 ?_
        refine z_istore_n (lv' := [(1, .int (v1 ||| ((1 : Int32) <<< (v2 &&& 31)))), (0, .ref (zB X + h)), (2, .int v2)]) hX dX0_hotSet_33 hn (by decide) rfl ?_
        refine z_iincc (lv' := [(2, .int (v2 + 1)), (1, .int (v1 ||| ((1 : Int32) <<< (v2 &&& 31)))), (0, .ref (zB X + h))]) hX dX0_hotSet_34 hn (by decide) 2 rfl ci_1 rfl ?_
        refine z_goto hX 4 dX0_hotSet_37 (by decide) ?_
        refine zW.sub [2, 1, 0] rfl ?_
        exact ih (v1 ||| ((1 : Int32) <<< (v2 &&& 31))) (v2 + 1) hf
set_option maxHeartbeats 4000000 in
set_option maxRecDepth 100000 in
theorem fX0_hotSet_ok {X : zX} (hX : zCX X cX0_hotSet RX0) (hT : zNT X) (hR : X.2.2.2.1 = zrm 0 0) (hr : X.2.2.2.2.2.2.2.2.1.sig.returnType = (some .int)) (hn : X.2.2.2.2.2.2.2.2.2.1.maxLocals = 3) {h : Nat} (hkh : zK h = 0) {g : zM} {r : Int32} (hf : fX0_hotSet h g = some r) : zW X (zQ X (.inl (some (.int r), g)) 0) 0 0 0 [(0, .ref (zB X + h))] [] g := by
  unfold fX0_hotSet at hf
  refine z_iconst hX dX0_hotSet_0 ci_0 ?_
  refine z_istore_n (lv' := [(1, .int 0), (0, .ref (zB X + h))]) hX dX0_hotSet_1 hn (by decide) rfl ?_
  refine z_iconst hX dX0_hotSet_2 ci_0 ?_
  refine z_istore_n (lv' := [(2, .int 0), (1, .int 0), (0, .ref (zB X + h))]) hX dX0_hotSet_3 hn (by decide) rfl ?_
  refine zW.sub [2, 1, 0] rfl ?_
  exact fX0_hotSet_L4_ok hX hT hR hr hn hkh zFU 0 0 hf
set_option maxHeartbeats 4000000 in
set_option maxRecDepth 100000 in
theorem ct_X0_hotSet {E : zE} {h : Nat} (hkh : zK h = 0) {g : zM} {r : Int32} (hf : fX0_hotSet h g = some r) : zCt yX0_hotSet cX0_hotSet 3 (some .int) 0 0 E [.ref (E.1 + h)] g (.inl (some (.int r), g)) := by
  refine zmet (by decide) (zl rfl) (fun X hE hX hT hR hr hn => ?_)
  subst hE
  exact fX0_hotSet_ok hX hT hR hr hn hkh hf
def fX11_count (v1 : Int32) (g : zM) : Option Int32 := if v1 = 0 then some (g 3 1) else if v1 = 1 then some (g 2 5) else if v1 = 2 then some (g 2 7) else if v1 = 3 then if (g 29 8) = 0 then some ((-1)) else some (g 29 7) else if v1 = 4 then some (g 3 2) else if v1 = 5 then some (g 2 6) else if v1 = 6 then zb (fX0_linesInAll 3 g) (fun r_10 => some r_10) else if v1 = 7 then zb (fX0_openSet 3 g) (fun r_12 => some r_12) else if v1 = 8 then zb (fX0_hotSet 3 g) (fun r_14 => some r_14) else if v1 = 9 then some (g 3 4) else if v1 = 10 then some (g 76 2) else some ((-1))
set_option maxHeartbeats 4000000 in
set_option maxRecDepth 100000 in
theorem fX11_count_ok {X : zX} (hX : zCX X cX11_count RX11) (hT : zNT X) (hR : X.2.2.2.1 = zrm 1 0) (hr : X.2.2.2.2.2.2.2.2.1.sig.returnType = (some .int)) (hn : X.2.2.2.2.2.2.2.2.2.1.maxLocals = 2) {v1 : Int32} {g : zM} {r : Int32} (hf : fX11_count v1 g = some r) : zW X (zQ X (.inl (some (.int r), g)) 0) 0 0 0 [(0, .ref (zB X + 0)), (1, .int v1)] [] g := by
  unfold fX11_count at hf
  refine z_iload_n hX dX11_count_0 1 rfl ?_
  by_cases h2 : v1 = 0
  · replace hf := zif_pos h2 hf
    refine z_tin hX 60 dX11_count_1 (by rw [h2]; decide) (by rw [h2]; decide) (by rw [h2]; rfl) (by decide) ?_
    refine z_aload_n hX dX11_count_60 0 rfl ?_
    refine gf_Post_now hX zq_0 q439 dX11_count_61 ?_
    refine gf_World_bag_N hX zq_2 qn273 dX11_count_64 ?_
    refine gf_Bag_size_N hX zq_3 qn216 dX11_count_67 ?_
    obtain rfl := Option.some.inj hf
    exact z_iret hX hr rfl (zl rfl) (zl rfl) dX11_count_70
  replace hf := zif_neg h2 hf
  by_cases h3 : v1 = 1
  · replace hf := zif_pos h3 hf
    refine z_tin hX 71 dX11_count_1 (by rw [h3]; decide) (by rw [h3]; decide) (by rw [h3]; rfl) (by decide) ?_
    refine z_aload_n hX dX11_count_71 0 rfl ?_
    refine gf_Post_now hX zq_0 q439 dX11_count_72 ?_
    refine gf_World_promises_N hX zq_2 qn281 dX11_count_75 ?_
    obtain rfl := Option.some.inj hf
    exact z_iret hX hr rfl (zl rfl) (zl rfl) dX11_count_78
  replace hf := zif_neg h3 hf
  by_cases h4 : v1 = 2
  · replace hf := zif_pos h4 hf
    refine z_tin hX 79 dX11_count_1 (by rw [h4]; decide) (by rw [h4]; decide) (by rw [h4]; rfl) (by decide) ?_
    refine z_aload_n hX dX11_count_79 0 rfl ?_
    refine gf_Post_now hX zq_0 q439 dX11_count_80 ?_
    refine gf_World_texts_N hX zq_2 qn286 dX11_count_83 ?_
    obtain rfl := Option.some.inj hf
    exact z_iret hX hr rfl (zl rfl) (zl rfl) dX11_count_86
  replace hf := zif_neg h4 hf
  by_cases h5 : v1 = 3
  · replace hf := zif_pos h5 hf
    refine z_tin hX 87 dX11_count_1 (by rw [h5]; decide) (by rw [h5]; decide) (by rw [h5]; rfl) (by decide) ?_
    refine z_aload_n hX dX11_count_87 0 rfl ?_
    refine gf_Post_now hX zq_0 q439 dX11_count_88 ?_
    refine gf_World_law_N hX zq_2 qn275 dX11_count_91 ?_
    refine gf_Law_told_N hX zq_29 qn251 dX11_count_94 ?_
    refine z_if_eq hX 113 dX11_count_97 (by decide) (fun h6 => ?_) (fun h6 => ?_)
    · replace hf := zif_pos h6 hf
      refine z_iconst hX dX11_count_113 ci_m1 ?_
      obtain rfl := Option.some.inj hf
      exact z_iret hX hr rfl (zl rfl) (zl rfl) dX11_count_114
    · replace hf := zif_neg h6 hf
      refine z_aload_n hX dX11_count_100 0 rfl ?_
      refine gf_Post_now hX zq_0 q439 dX11_count_101 ?_
      refine gf_World_law_N hX zq_2 qn275 dX11_count_104 ?_
      refine gf_Law_size_N hX zq_29 qn249 dX11_count_107 ?_
      refine z_goto hX 114 dX11_count_110 (by decide) ?_
      obtain rfl := Option.some.inj hf
      exact z_iret hX hr rfl (zl rfl) (zl rfl) dX11_count_114
  replace hf := zif_neg h5 hf
  by_cases h7 : v1 = 4
  · replace hf := zif_pos h7 hf
    refine z_tin hX 115 dX11_count_1 (by rw [h7]; decide) (by rw [h7]; decide) (by rw [h7]; rfl) (by decide) ?_
    refine z_aload_n hX dX11_count_115 0 rfl ?_
    refine gf_Post_now hX zq_0 q439 dX11_count_116 ?_
    refine gf_World_bag_N hX zq_2 qn273 dX11_count_119 ?_
    refine gf_Bag_week_N hX zq_3 qn219 dX11_count_122 ?_
    obtain rfl := Option.some.inj hf
    exact z_iret hX hr rfl (zl rfl) (zl rfl) dX11_count_125
  replace hf := zif_neg h7 hf
  by_cases h8 : v1 = 5
  · replace hf := zif_pos h8 hf
    refine z_tin hX 126 dX11_count_1 (by rw [h8]; decide) (by rw [h8]; decide) (by rw [h8]; rfl) (by decide) ?_
    refine z_aload_n hX dX11_count_126 0 rfl ?_
    refine gf_Post_now hX zq_0 q439 dX11_count_127 ?_
    refine gf_World_slip_N hX zq_2 qn284 dX11_count_130 ?_
    obtain rfl := Option.some.inj hf
    exact z_iret hX hr rfl (zl rfl) (zl rfl) dX11_count_133
  replace hf := zif_neg h8 hf
  by_cases h9 : v1 = 6
  · replace hf := zif_pos h9 hf
    refine z_tin hX 134 dX11_count_1 (by rw [h9]; decide) (by rw [h9]; decide) (by rw [h9]; rfl) (by decide) ?_
    refine z_aload_n hX dX11_count_134 0 rfl ?_
    refine gf_Post_now hX zq_0 q439 dX11_count_135 ?_
    refine gf_World_bag_N hX zq_2 qn273 dX11_count_138 ?_
    replace hf := zb_some hf
    obtain ⟨r_10, h10, hf⟩ := hf
    refine z_callV1 hX ok_X0_linesInAll q635 q636 q637 (zrm_ok hR (by decide)) (ct_X0_linesInAll zq_3 h10) (zrec_Bag hX zq_3) dX11_count_141 rfl rfl ?_
    obtain rfl := Option.some.inj hf
    exact z_iret hX hr rfl (zl rfl) (zl rfl) dX11_count_144
  replace hf := zif_neg h9 hf
  by_cases h11 : v1 = 7
  · replace hf := zif_pos h11 hf
    refine z_tin hX 145 dX11_count_1 (by rw [h11]; decide) (by rw [h11]; decide) (by rw [h11]; rfl) (by decide) ?_
    refine z_aload_n hX dX11_count_145 0 rfl ?_
    refine gf_Post_now hX zq_0 q439 dX11_count_146 ?_
    refine gf_World_bag_N hX zq_2 qn273 dX11_count_149 ?_
    replace hf := zb_some hf
    obtain ⟨r_12, h12, hf⟩ := hf
    refine z_callV1 hX ok_X0_openSet q639 q564 q565 (zrm_ok hR (by decide)) (ct_X0_openSet zq_3 h12) (zrec_Bag hX zq_3) dX11_count_152 rfl rfl ?_
    obtain rfl := Option.some.inj hf
    exact z_iret hX hr rfl (zl rfl) (zl rfl) dX11_count_155
  replace hf := zif_neg h11 hf
  by_cases h13 : v1 = 8
  · replace hf := zif_pos h13 hf
    refine z_tin hX 156 dX11_count_1 (by rw [h13]; decide) (by rw [h13]; decide) (by rw [h13]; rfl) (by decide) ?_
    refine z_aload_n hX dX11_count_156 0 rfl ?_
    refine gf_Post_now hX zq_0 q439 dX11_count_157 ?_
    refine gf_World_bag_N hX zq_2 qn273 dX11_count_160 ?_
    replace hf := zb_some hf
    obtain ⟨r_14, h14, hf⟩ := hf
    refine z_callV1 hX ok_X0_hotSet q640 q641 q642 (zrm_ok hR (by decide)) (ct_X0_hotSet zq_3 h14) (zrec_Bag hX zq_3) dX11_count_163 rfl rfl ?_
    obtain rfl := Option.some.inj hf
    exact z_iret hX hr rfl (zl rfl) (zl rfl) dX11_count_166
  replace hf := zif_neg h13 hf
  by_cases h15 : v1 = 9
  · replace hf := zif_pos h15 hf
    refine z_tin hX 167 dX11_count_1 (by rw [h15]; decide) (by rw [h15]; decide) (by rw [h15]; rfl) (by decide) ?_
    refine z_aload_n hX dX11_count_167 0 rfl ?_
    refine gf_Post_now hX zq_0 q439 dX11_count_168 ?_
    refine gf_World_bag_N hX zq_2 qn273 dX11_count_171 ?_
    refine gf_Bag_came_N hX zq_3 qn223 dX11_count_174 ?_
    obtain rfl := Option.some.inj hf
    exact z_iret hX hr rfl (zl rfl) (zl rfl) dX11_count_177
  replace hf := zif_neg h15 hf
  by_cases h16 : v1 = 10
  · replace hf := zif_pos h16 hf
    refine z_tin hX 178 dX11_count_1 (by rw [h16]; decide) (by rw [h16]; decide) (by rw [h16]; rfl) (by decide) ?_
    refine z_aload_n hX dX11_count_178 0 rfl ?_
    refine gf_Post_memory hX zq_0 q442 dX11_count_179 ?_
    refine gf_Memory_size_N hX zq_76 qn316 dX11_count_182 ?_
    obtain rfl := Option.some.inj hf
    exact z_iret hX hr rfl (zl rfl) (zl rfl) dX11_count_185
  replace hf := zif_neg h16 hf
  refine z_tout hX 186 dX11_count_1 (zsw_out (fun v hlo hhi e => ?_)) (by decide) ?_
  · have hv : v = 0 ∨ v = 1 ∨ v = 2 ∨ v = 3 ∨ v = 4 ∨ v = 5 ∨ v = 6 ∨ v = 7 ∨ v = 8 ∨ v = 9 ∨ v = 10 := by omega
    rcases hv with rfl | rfl | rfl | rfl | rfl | rfl | rfl | rfl | rfl | rfl | rfl
    · exact h2 (e.trans (by decide))
    · exact h3 (e.trans (by decide))
    · exact h4 (e.trans (by decide))
    · exact h5 (e.trans (by decide))
    · exact h7 (e.trans (by decide))
    · exact h8 (e.trans (by decide))
    · exact h9 (e.trans (by decide))
    · exact h11 (e.trans (by decide))
    · exact h13 (e.trans (by decide))
    · exact h15 (e.trans (by decide))
    · exact h16 (e.trans (by decide))
  refine z_iconst hX dX11_count_186 ci_m1 ?_
  obtain rfl := Option.some.inj hf
  exact z_iret hX hr rfl (zl rfl) (zl rfl) dX11_count_187
set_option maxHeartbeats 4000000 in
set_option maxRecDepth 100000 in
theorem ct_X11_count {E : zE} {v1 : Int32} {g : zM} {r : Int32} (hf : fX11_count v1 g = some r) : zCt yX11_count cX11_count 2 (some .int) 1 0 E [.ref (E.1 + 0), .int v1] g (.inl (some (.int r), g)) := by
  refine zmet (by decide) (zl rfl) (fun X hE hX hT hR hr hn => ?_)
  subst hE
  exact fX11_count_ok hX hT hR hr hn  hf
