def fX3_firstUnlike_L14 (h : Nat) (r1 : Nat) (v2 : Int32) (g : zM) : Nat → Int32 → Option Int32
  | 0, _ => none
  | n + 1, v3 => if v2 ≤ v3 then some ((-1)) else zb (fX3_kindAt h v3 g) (fun r_2 => zb (fX3_kindAt r1 v3 g) (fun r_3 => if r_2 = r_3 then fX3_firstUnlike_L14 h r1 v2 g n (v3 + 1) else some v3))
def fX3_firstUnlike (h : Nat) (r1 : Nat) (g : zM) : Option Int32 := fX3_firstUnlike_L14 h r1 (if g h 2 < g r1 2 then g r1 2 else g h 2) g zFU 0
set_option maxHeartbeats 4000000 in
set_option maxRecDepth 100000 in
theorem fX3_firstUnlike_L14_ok {X : zX} (hX : zCX X cX3_firstUnlike RX3) (hT : zNT X) (hR : X.2.2.2.1 = zrm 5 0) (hr : X.2.2.2.2.2.2.2.2.1.sig.returnType = (some .int)) (hn : X.2.2.2.2.2.2.2.2.2.1.maxLocals = 4) {h : Nat} {r1 : Nat} {v2 : Int32} (hkh : zK h = 3) (hkr1 : zK r1 = 3) {g : zM} {r : Int32}  : ∀ (n : Nat) (v3 : Int32), fX3_firstUnlike_L14 h r1 v2 g n v3 = some r → zW X (zQ X (.inl (some (.int r), g)) 0) 0 0 14 [(0, .ref (zB X + h)), (1, .ref (zB X + r1)), (2, .int v2), (3, .int v3)] [] g := by
  intro n
  induction n with
  | zero => intro v3 hf; exact zno hf
  | succ n ih =>
    intro v3 hf
    rw [fX3_firstUnlike_L14] at hf
    refine z_iload_n hX dX3_firstUnlike_14 3 rfl ?_
    refine z_iload_n hX dX3_firstUnlike_15 2 rfl ?_
    refine z_icmp_ge hX 40 dX3_firstUnlike_16 (by decide) (fun h1 => ?_) (fun h1 => ?_)
    · replace hf := zif_pos h1 hf
      refine z_iconst hX dX3_firstUnlike_40 ci_m1 ?_
      obtain rfl := Option.some.inj hf
      exact z_iret hX hr rfl (zl rfl) (zl rfl) dX3_firstUnlike_41
    · replace hf := zif_neg h1 hf
      refine z_aload_n hX dX3_firstUnlike_19 0 rfl ?_
      refine z_iload_n hX dX3_firstUnlike_20 3 rfl ?_
      replace hf := zb_some hf
      obtain ⟨r_2, h2, hf⟩ := hf
      refine z_callV1 hX ok_X3_kindAt q521 q522 q523 (zrm_ok hR (by decide)) (ct_X3_kindAt hkh h2) (zrec_Mail hX hkh) dX3_firstUnlike_21 rfl rfl ?_
      refine z_aload_n hX dX3_firstUnlike_24 1 rfl ?_
      refine z_iload_n hX dX3_firstUnlike_25 3 rfl ?_
      replace hf := zb_some hf
      obtain ⟨r_3, h3, hf⟩ := hf
      refine z_callV1 hX ok_X3_kindAt q521 q522 q523 (zrm_ok hR (by decide)) (ct_X3_kindAt hkr1 h3) (zrec_Mail hX hkr1) dX3_firstUnlike_26 rfl rfl ?_
      refine z_icmp_eq hX 34 dX3_firstUnlike_29 (by decide) (fun h4 => ?_) (fun h4 => ?_)
      · replace hf := zif_pos h4 hf
        refine z_iincc (lv' := [(3, .int (v3 + 1)), (0, .ref (zB X + h)), (1, .ref (zB X + r1)), (2, .int v2)]) hX dX3_firstUnlike_34 hn (by decide) 3 rfl ci_1 rfl ?_
        refine z_goto hX 14 dX3_firstUnlike_37 (by decide) ?_
        refine zW.sub [1, 2, 3, 0] rfl ?_
        exact ih (v3 + 1) hf
      · replace hf := zif_neg h4 hf
        refine z_iload_n hX dX3_firstUnlike_32 3 rfl ?_
        obtain rfl := Option.some.inj hf
        exact z_iret hX hr rfl (zl rfl) (zl rfl) dX3_firstUnlike_33
set_option maxHeartbeats 4000000 in
set_option maxRecDepth 100000 in
theorem fX3_firstUnlike_ok {X : zX} (hX : zCX X cX3_firstUnlike RX3) (hT : zNT X) (hR : X.2.2.2.1 = zrm 5 0) (hr : X.2.2.2.2.2.2.2.2.1.sig.returnType = (some .int)) (hn : X.2.2.2.2.2.2.2.2.2.1.maxLocals = 4) {h : Nat} {r1 : Nat} (hkh : zK h = 3) (hk1 : zK r1 = 3) {g : zM} {r : Int32} (hf : fX3_firstUnlike h r1 g = some r) : zW X (zQ X (.inl (some (.int r), g)) 0) 0 0 0 [(0, .ref (zB X + h)), (1, .ref (zB X + r1))] [] g := by
  unfold fX3_firstUnlike at hf
  refine z_aload_n hX dX3_firstUnlike_0 0 rfl ?_
  refine gf_Mail_lines hX hkh q173 dX3_firstUnlike_1 ?_
  refine z_aload_n hX dX3_firstUnlike_4 1 rfl ?_
  refine gf_Mail_lines hX hk1 q173 dX3_firstUnlike_5 ?_
  refine z_max hX hR ⟨zl rfl, zl rfl⟩ q1309 dX3_firstUnlike_8 (zl rfl) ?_
  refine z_istore_n (lv' := [(2, .int (if g h 2 < g r1 2 then g r1 2 else g h 2)), (0, .ref (zB X + h)), (1, .ref (zB X + r1))]) hX dX3_firstUnlike_11 hn (by decide) rfl ?_
  refine z_iconst hX dX3_firstUnlike_12 ci_0 ?_
  refine z_istore_n (lv' := [(3, .int 0), (2, .int (if g h 2 < g r1 2 then g r1 2 else g h 2)), (0, .ref (zB X + h)), (1, .ref (zB X + r1))]) hX dX3_firstUnlike_13 hn (by decide) rfl ?_
  refine zW.sub [2, 3, 1, 0] rfl ?_
  exact fX3_firstUnlike_L14_ok hX hT hR hr hn hkh hk1 zFU 0 hf
set_option maxHeartbeats 4000000 in
set_option maxRecDepth 100000 in
theorem ct_X3_firstUnlike {E : zE} {h : Nat} {r1 : Nat} (hkh : zK h = 3) (hk1 : zK r1 = 3) {g : zM} {r : Int32} (hf : fX3_firstUnlike h r1 g = some r) : zCt yX3_firstUnlike cX3_firstUnlike 4 (some .int) 5 0 E [.ref (E.1 + h), .ref (E.1 + r1)] g (.inl (some (.int r), g)) := by
  refine zmet (by decide) (zl rfl) (fun X hE hX hT hR hr hn => ?_)
  subst hE
  exact fX3_firstUnlike_ok hX hT hR hr hn hkh hk1 hf
def fX11_meet_L60 (v3 : Int32) : Nat → Int32 → zM → Option (Except Nat Int32 × zM)
  | 0, _, _ => none
  | n + 1, v6, g => if 40 < v6 then some (.ok ((-1)), g) else zjoin (fun t0_7 => if t0_7 = 0 then zb (fX7_goWeek 446 29 g) (fun g9 => zb (fX7_goWeek 450 29 g9) (fun g10 => fX11_meet_L60 v3 n (v6 + 1) g10)) else some (.ok v6, g) : Int32 → Option (Except Nat Int32 × zM)) (fun k128 => if v3 = 0 then zb (fX3_lastKind 447 g) (fun r_12 => zb (fX3_lastKind 451 g) (fun r_13 => if r_12 = r_13 then k128 1 else k128 0)) else zb (fX3_firstUnlike 447 451 g) (fun r_15 => if r_15 = ((-1)) then k128 1 else k128 0))
def fX11_meet (v1 : Int32) (v2 : Int32) (v3 : Int32) (g : zM) : Option (Except Nat Int32 × zM) := zb3 (fX11_mailOf v1 g) (fun r_1 g1 => zb3 (fX11_mailOf v2 g1) (fun r_2 g2 => zb3 (fX11_needTwo v1 v2 g2) (fun _ g3 => zb (fX7_look 446 r_1 (g3 3 2) g3) (fun g4 => zb (fX7_look 450 r_2 (g4 3 2) g4) (fun g5 => fX11_meet_L60 v3 zFU 0 g5)))))
set_option maxHeartbeats 4000000 in
set_option maxRecDepth 100000 in
theorem fX11_meet_L60_ok {X : zX} (hX : zCX X cX11_meet RX11) (hT : zNT X) (hR : X.2.2.2.1 = zrm 7 3) (hr : X.2.2.2.2.2.2.2.2.1.sig.returnType = (some .int)) (hn : X.2.2.2.2.2.2.2.2.2.1.maxLocals = 8) {v3 : Int32} {r : Except Nat Int32 × zM}  : ∀ (n : Nat) (v6 : Int32) (g : zM), fX11_meet_L60 v3 n v6 g = some r → zW X (zQ X (zoI r) 3) 3 18 60 [(0, .ref (zB X + 0)), (3, .int v3), (6, .int v6)] [] g := by
  intro n
  induction n with
  | zero => intro v6 g hf; exact zno hf
  | succ n ih =>
    intro v6 g hf
    rw [fX11_meet_L60] at hf
    refine z_iload hX dX11_meet_60 2 rfl ?_
    refine z_bipush hX dX11_meet_62 cb_40 ?_
    refine z_icmp_gt hX 172 dX11_meet_64 (by decide) (fun h6 => ?_) (fun h6 => ?_)
    · replace hf := zif_pos h6 hf
      refine z_iconst hX dX11_meet_172 ci_m1 ?_
      obtain rfl := Option.some.inj hf
      exact z_iret hX hr rfl (zl rfl) (zl rfl) dX11_meet_173
    · replace hf := zif_neg h6 hf
      refine z_iload_n hX dX11_meet_67 1 rfl ?_
      refine zjoin_ok (P := fun (k : Int32 → Option (Except Nat Int32 × zM)) => ∀ (t0_7 : Int32), k t0_7 = some r → zW X (zQ X (zoI r) 3) 3 18 128 [(0, .ref (zB X + 0)), (3, .int v3), (6, .int v6)] [.int t0_7] g) hf (fun t0_7 hf => ?_) (fun k128 hk128 hf => ?_)
      · refine z_istore (lv' := [(7, .int t0_7), (0, .ref (zB X + 0)), (3, .int v3), (6, .int v6)]) hX dX11_meet_128 hn (by decide) rfl ?_
        refine z_iload hX dX11_meet_130 0 rfl ?_
        refine z_if_eq hX 138 dX11_meet_132 (by decide) (fun h8 => ?_) (fun h8 => ?_)
        · replace hf := zif_pos h8 hf
          refine z_aload_n hX dX11_meet_138 1 rfl ?_
          refine gf_Post_sight hX zq_0 q445 dX11_meet_139 ?_
          refine z_aload_n hX dX11_meet_142 1 rfl ?_
          refine gf_Post_now hX zq_0 q439 dX11_meet_143 ?_
          refine gf_World_law_N hX zq_2 qn275 dX11_meet_146 ?_
          replace hf := zb_some hf
          obtain ⟨g9, h9, hf⟩ := hf
          refine z_callV0 hX ok_X7_goWeek q525 q526 q527 (zrm_ok hR (by decide)) (ct_X7_goWeek zq_446 zq_29 h9) (zrec_Sight hX zq_446) dX11_meet_149 rfl rfl ?_
          refine z_aload_n hX dX11_meet_152 1 rfl ?_
          refine gf_Post_otherSight hX zq_0 q446 dX11_meet_153 ?_
          refine z_aload_n hX dX11_meet_156 1 rfl ?_
          refine gf_Post_now hX zq_0 q439 dX11_meet_157 ?_
          refine gf_World_law_N hX zq_2 qn275 dX11_meet_160 ?_
          replace hf := zb_some hf
          obtain ⟨g10, h10, hf⟩ := hf
          refine z_callV0 hX ok_X7_goWeek q525 q526 q527 (zrm_ok hR (by decide)) (ct_X7_goWeek zq_450 zq_29 h10) (zrec_Sight hX zq_450) dX11_meet_163 rfl rfl ?_
          refine z_iincc (lv' := [(6, .int (v6 + 1)), (7, .int t0_7), (0, .ref (zB X + 0)), (3, .int v3)]) hX dX11_meet_166 hn (by decide) 3 rfl ci_1 rfl ?_
          refine z_goto hX 60 dX11_meet_169 (by decide) ?_
          refine zW.sub [2, 3, 0] rfl ?_
          exact ih (v6 + 1) g10 hf
        · replace hf := zif_neg h8 hf
          refine z_iload hX dX11_meet_135 3 rfl ?_
          obtain rfl := Option.some.inj hf
          exact z_iret hX hr rfl (zl rfl) (zl rfl) dX11_meet_137
      · refine z_if_eq hX 100 dX11_meet_68 (by decide) (fun h11 => ?_) (fun h11 => ?_)
        · replace hf := zif_pos h11 hf
          refine z_aload_n hX dX11_meet_100 0 rfl ?_
          refine gf_Post_sight hX zq_0 q445 dX11_meet_101 ?_
          refine gf_Sight_mail_N hX zq_446 qn404 dX11_meet_104 ?_
          replace hf := zb_some hf
          obtain ⟨r_12, h12, hf⟩ := hf
          refine z_callV1 hX ok_X3_lastKind q517 q518 q519 (zrm_ok hR (by decide)) (ct_X3_lastKind zq_447 h12) (zrec_Mail hX zq_447) dX11_meet_107 rfl rfl ?_
          refine z_aload_n hX dX11_meet_110 0 rfl ?_
          refine gf_Post_otherSight hX zq_0 q446 dX11_meet_111 ?_
          refine gf_Sight_mail_N hX zq_450 qn404 dX11_meet_114 ?_
          replace hf := zb_some hf
          obtain ⟨r_13, h13, hf⟩ := hf
          refine z_callV1 hX ok_X3_lastKind q517 q518 q519 (zrm_ok hR (by decide)) (ct_X3_lastKind zq_451 h13) (zrec_Mail hX zq_451) dX11_meet_117 rfl rfl ?_
          refine z_icmp_ne hX 127 dX11_meet_120 (by decide) (fun h14 => ?_) (fun h14 => ?_)
          · replace hf := zif_neg h14 hf
            refine z_iconst hX dX11_meet_127 ci_0 ?_
            exact hk128 0 hf
          · replace hf := zif_pos h14 hf
            refine z_iconst hX dX11_meet_123 ci_1 ?_
            refine z_goto hX 128 dX11_meet_124 (by decide) ?_
            exact hk128 1 hf
        · replace hf := zif_neg h11 hf
          refine z_aload_n hX dX11_meet_71 0 rfl ?_
          refine gf_Post_sight hX zq_0 q445 dX11_meet_72 ?_
          refine gf_Sight_mail_N hX zq_446 qn404 dX11_meet_75 ?_
          refine z_aload_n hX dX11_meet_78 0 rfl ?_
          refine gf_Post_otherSight hX zq_0 q446 dX11_meet_79 ?_
          refine gf_Sight_mail_N hX zq_450 qn404 dX11_meet_82 ?_
          replace hf := zb_some hf
          obtain ⟨r_15, h15, hf⟩ := hf
          refine z_callV1 hX ok_X3_firstUnlike q1305 q1306 q1307 (zrm_ok hR (by decide)) (ct_X3_firstUnlike zq_447 zq_451 h15) (zrec_Mail hX zq_447) dX11_meet_85 rfl rfl ?_
          refine z_iconst hX dX11_meet_88 ci_m1 ?_
          refine z_icmp_ne hX 96 dX11_meet_89 (by decide) (fun h16 => ?_) (fun h16 => ?_)
          · replace hf := zif_neg h16 hf
            refine z_iconst hX dX11_meet_96 ci_0 ?_
            refine z_goto hX 128 dX11_meet_97 (by decide) ?_
            exact hk128 0 hf
          · replace hf := zif_pos h16 hf
            refine z_iconst hX dX11_meet_92 ci_1 ?_
            refine z_goto hX 128 dX11_meet_93 (by decide) ?_
            exact hk128 1 hf
set_option maxHeartbeats 4000000 in
set_option maxRecDepth 100000 in
theorem fX11_meet_ok {X : zX} (hX : zCX X cX11_meet RX11) (hT : zNT X) (hR : X.2.2.2.1 = zrm 7 3) (hr : X.2.2.2.2.2.2.2.2.1.sig.returnType = (some .int)) (hn : X.2.2.2.2.2.2.2.2.2.1.maxLocals = 8) {v1 : Int32} {v2 : Int32} {v3 : Int32} {g : zM} {r : Except Nat Int32 × zM} (hf : fX11_meet v1 v2 v3 g = some r) : zW X (zQ X (zoI r) 3) 0 0 0 [(0, .ref (zB X + 0)), (1, .int v1), (2, .int v2), (3, .int v3)] [] g := by
  unfold fX11_meet at hf
  refine z_aload_n hX dX11_meet_0 0 rfl ?_
  refine z_iload_n hX dX11_meet_1 1 rfl ?_
  replace hf := zb3_some hf
  rcases hf with ⟨c1, g1, h1, rfl⟩ | ⟨r_1, g1, h1, hf⟩
  · exact z_callV_x hX hT ok_X11_mailOf q974 q976 q25 (zrm_ok hR (by decide)) (ct_X11_mailOf  h1) (zrec_Post hX zq_0) dX11_meet_2 rfl rfl (zl rfl) (zl rfl)
  refine z_callV1 hX ok_X11_mailOf q974 q976 q25 (zrm_ok hR (by decide)) (ct_X11_mailOf  h1) (zrec_Post hX zq_0) dX11_meet_2 rfl rfl ?_
  refine z_astore (lv' := [(4, .ref (zB X + r_1)), (0, .ref (zB X + 0)), (1, .int v1), (2, .int v2), (3, .int v3)]) hX dX11_meet_5 hn (by decide) rfl ?_
  refine z_aload_n hX dX11_meet_7 1 rfl ?_
  refine z_iload_n hX dX11_meet_8 3 rfl ?_
  replace hf := zb3_some hf
  rcases hf with ⟨c2, g2, h2, rfl⟩ | ⟨r_2, g2, h2, hf⟩
  · exact z_callV_x hX hT ok_X11_mailOf q974 q976 q25 (zrm_ok hR (by decide)) (ct_X11_mailOf  h2) (zrec_Post hX zq_0) dX11_meet_9 rfl rfl (zl rfl) (zl rfl)
  refine z_callV1 hX ok_X11_mailOf q974 q976 q25 (zrm_ok hR (by decide)) (ct_X11_mailOf  h2) (zrec_Post hX zq_0) dX11_meet_9 rfl rfl ?_
  refine z_astore (lv' := [(5, .ref (zB X + r_2)), (4, .ref (zB X + r_1)), (0, .ref (zB X + 0)), (1, .int v1), (2, .int v2), (3, .int v3)]) hX dX11_meet_12 hn (by decide) rfl ?_
  refine z_iload_n hX dX11_meet_14 3 rfl ?_
  refine z_iload_n hX dX11_meet_15 4 rfl ?_
  replace hf := zb3_some hf
  rcases hf with ⟨c3, g3, h3, rfl⟩ | ⟨r_3, g3, h3, hf⟩
  · exact z_callS_x hX hT ok_X11_needTwo rfl q1301 q1302 (zrm_ok hR (by decide)) (ct_X11_needTwo  h3) dX11_meet_16 rfl rfl (zl rfl) (zl rfl)
  refine z_callS0 hX ok_X11_needTwo rfl q1301 q1302 (zrm_ok hR (by decide)) (ct_X11_needTwo  h3) dX11_meet_16 rfl rfl ?_
  refine z_aload_n hX dX11_meet_19 2 rfl ?_
  refine gf_Post_sight hX zq_0 q445 dX11_meet_20 ?_
  refine z_aload hX dX11_meet_23 1 rfl ?_
  refine z_aload_n hX dX11_meet_25 2 rfl ?_
  refine gf_Post_now hX zq_0 q439 dX11_meet_26 ?_
  refine gf_World_bag_N hX zq_2 qn273 dX11_meet_29 ?_
  refine gf_Bag_week_N hX zq_3 qn219 dX11_meet_32 ?_
  replace hf := zb_some hf
  obtain ⟨g4, h4, hf⟩ := hf
  refine z_callV0 hX ok_X7_look q506 q507 q508 (zrm_ok hR (by decide)) (ct_X7_look zq_446 (fk_X11_mailOf  h1) h4) (zrec_Sight hX zq_446) dX11_meet_35 rfl rfl ?_
  refine z_aload_n hX dX11_meet_38 2 rfl ?_
  refine gf_Post_otherSight hX zq_0 q446 dX11_meet_39 ?_
  refine z_aload hX dX11_meet_42 0 rfl ?_
  refine z_aload_n hX dX11_meet_44 2 rfl ?_
  refine gf_Post_now hX zq_0 q439 dX11_meet_45 ?_
  refine gf_World_bag_N hX zq_2 qn273 dX11_meet_48 ?_
  refine gf_Bag_week_N hX zq_3 qn219 dX11_meet_51 ?_
  replace hf := zb_some hf
  obtain ⟨g5, h5, hf⟩ := hf
  refine z_callV0 hX ok_X7_look q506 q507 q508 (zrm_ok hR (by decide)) (ct_X7_look zq_450 (fk_X11_mailOf  h2) h5) (zrec_Sight hX zq_450) dX11_meet_54 rfl rfl ?_
  refine z_iconst hX dX11_meet_57 ci_0 ?_
  refine z_istore (lv' := [(6, .int 0), (5, .ref (zB X + r_2)), (4, .ref (zB X + r_1)), (0, .ref (zB X + 0)), (1, .int v1), (2, .int v2), (3, .int v3)]) hX dX11_meet_58 hn (by decide) rfl ?_
  refine zW.sub [3, 6, 0] rfl ?_
  exact fX11_meet_L60_ok hX hT hR hr hn  zFU 0 g5 hf
set_option maxHeartbeats 4000000 in
set_option maxRecDepth 100000 in
theorem ct_X11_meet {E : zE} {v1 : Int32} {v2 : Int32} {v3 : Int32} {g : zM} {r : Except Nat Int32 × zM} (hf : fX11_meet v1 v2 v3 g = some r) : zCt yX11_meet cX11_meet 8 (some .int) 7 3 E [.ref (E.1 + 0), .int v1, .int v2, .int v3] g (zoI r) := by
  refine zmet (by decide) (zl rfl) (fun X hE hX hT hR hr hn => ?_)
  subst hE
  exact fX11_meet_ok hX hT hR hr hn  hf
def fX11_part (v1 : Int32) (v2 : Int32) (g : zM) : Option (Except Nat Int32 × zM) := zb3 (fX11_mailOf v1 g) (fun r_1 g1 => zb3 (fX11_mailOf v2 g1) (fun r_2 g2 => zb3 (fX11_needTwo v1 v2 g2) (fun _ g3 => zb (fX3_firstUnlike r_1 r_2 g3) (fun r_4 => some (.ok r_4, g3)))))
set_option maxHeartbeats 4000000 in
set_option maxRecDepth 100000 in
theorem fX11_part_ok {X : zX} (hX : zCX X cX11_part RX11) (hT : zNT X) (hR : X.2.2.2.1 = zrm 6 3) (hr : X.2.2.2.2.2.2.2.2.1.sig.returnType = (some .int)) (hn : X.2.2.2.2.2.2.2.2.2.1.maxLocals = 5) {v1 : Int32} {v2 : Int32} {g : zM} {r : Except Nat Int32 × zM} (hf : fX11_part v1 v2 g = some r) : zW X (zQ X (zoI r) 3) 0 0 0 [(0, .ref (zB X + 0)), (1, .int v1), (2, .int v2)] [] g := by
  unfold fX11_part at hf
  refine z_aload_n hX dX11_part_0 0 rfl ?_
  refine z_iload_n hX dX11_part_1 1 rfl ?_
  replace hf := zb3_some hf
  rcases hf with ⟨c1, g1, h1, rfl⟩ | ⟨r_1, g1, h1, hf⟩
  · exact z_callV_x hX hT ok_X11_mailOf q974 q976 q25 (zrm_ok hR (by decide)) (ct_X11_mailOf  h1) (zrec_Post hX zq_0) dX11_part_2 rfl rfl (zl rfl) (zl rfl)
  refine z_callV1 hX ok_X11_mailOf q974 q976 q25 (zrm_ok hR (by decide)) (ct_X11_mailOf  h1) (zrec_Post hX zq_0) dX11_part_2 rfl rfl ?_
  refine z_astore_n (lv' := [(3, .ref (zB X + r_1)), (0, .ref (zB X + 0)), (1, .int v1), (2, .int v2)]) hX dX11_part_5 hn (by decide) rfl ?_
  refine z_aload_n hX dX11_part_6 1 rfl ?_
  refine z_iload_n hX dX11_part_7 3 rfl ?_
  replace hf := zb3_some hf
  rcases hf with ⟨c2, g2, h2, rfl⟩ | ⟨r_2, g2, h2, hf⟩
  · exact z_callV_x hX hT ok_X11_mailOf q974 q976 q25 (zrm_ok hR (by decide)) (ct_X11_mailOf  h2) (zrec_Post hX zq_0) dX11_part_8 rfl rfl (zl rfl) (zl rfl)
  refine z_callV1 hX ok_X11_mailOf q974 q976 q25 (zrm_ok hR (by decide)) (ct_X11_mailOf  h2) (zrec_Post hX zq_0) dX11_part_8 rfl rfl ?_
  refine z_astore (lv' := [(4, .ref (zB X + r_2)), (3, .ref (zB X + r_1)), (0, .ref (zB X + 0)), (1, .int v1), (2, .int v2)]) hX dX11_part_11 hn (by decide) rfl ?_
  refine z_iload_n hX dX11_part_13 3 rfl ?_
  refine z_iload_n hX dX11_part_14 4 rfl ?_
  replace hf := zb3_some hf
  rcases hf with ⟨c3, g3, h3, rfl⟩ | ⟨r_3, g3, h3, hf⟩
  · exact z_callS_x hX hT ok_X11_needTwo rfl q1301 q1302 (zrm_ok hR (by decide)) (ct_X11_needTwo  h3) dX11_part_15 rfl rfl (zl rfl) (zl rfl)
  refine z_callS0 hX ok_X11_needTwo rfl q1301 q1302 (zrm_ok hR (by decide)) (ct_X11_needTwo  h3) dX11_part_15 rfl rfl ?_
  refine z_aload_n hX dX11_part_18 1 rfl ?_
  refine z_aload hX dX11_part_19 0 rfl ?_
  replace hf := zb_some hf
  obtain ⟨r_4, h4, hf⟩ := hf
  refine z_callV1 hX ok_X3_firstUnlike q1305 q1306 q1307 (zrm_ok hR (by decide)) (ct_X3_firstUnlike (fk_X11_mailOf  h1) (fk_X11_mailOf  h2) h4) (zrec_Mail hX (fk_X11_mailOf  h1)) dX11_part_21 rfl rfl ?_
  obtain rfl := Option.some.inj hf
  exact z_iret hX hr rfl (zl rfl) (zl rfl) dX11_part_24
set_option maxHeartbeats 4000000 in
set_option maxRecDepth 100000 in
theorem ct_X11_part {E : zE} {v1 : Int32} {v2 : Int32} {g : zM} {r : Except Nat Int32 × zM} (hf : fX11_part v1 v2 g = some r) : zCt yX11_part cX11_part 5 (some .int) 6 3 E [.ref (E.1 + 0), .int v1, .int v2] g (zoI r) := by
  refine zmet (by decide) (zl rfl) (fun X hE hX hT hR hr hn => ?_)
  subst hE
  exact fX11_part_ok hX hT hR hr hn  hf
def fX11_fillLastsAhead_L47 (v1 : Int32) (k91 : zM → Option zM) : Nat → Int32 → zM → Option zM
  | 0, _, _ => none
  | n + 1, v2, g => if 40 < v2 then k91 g else zchk v1 8 (zb (fX3_lastKind 447 g) (fun r_6 => zchk v2 41 (zput g (483 + 1 + v1.toNatClampNeg) v2.toNatClampNeg r_6 (fun g8 => zb (fX7_goWeek 446 29 g8) (fun g9 => fX11_fillLastsAhead_L47 v1 k91 n (v2 + 1) g9)))))
def fX11_fillLastsAhead_L2  : Nat → Int32 → zM → Option zM
  | 0, _, _ => none
  | n + 1, v1, g => if (g 3 1) ≤ v1 then some g else zchk v1 8 (zb (fX7_look 446 (4 + 1 + 3 * v1.toNatClampNeg) (g 3 2) g) (fun g3 => fX11_fillLastsAhead_L47 v1 (fun g10 => fX11_fillLastsAhead_L2 n (v1 + 1) g10) zFU 0 g3))
def fX11_fillLastsAhead (g : zM) : Option zM := fX11_fillLastsAhead_L2 zFU 0 g
set_option maxHeartbeats 4000000 in
set_option maxRecDepth 100000 in
theorem fX11_fillLastsAhead_L47_ok {X : zX} (hX : zCX X cX11_fillLastsAhead RX11) (hT : zNT X) (hR : X.2.2.2.1 = zrm 7 0) (hr : X.2.2.2.2.2.2.2.2.1.sig.returnType = none) (hn : X.2.2.2.2.2.2.2.2.2.1.maxLocals = 3) {v1 : Int32} {k91 : zM → Option zM} {r : zM} (hk91 : ∀ (g : zM), k91 g = some r → zW X (zQ X (.inl (none, r)) 0) 0 0 91 [(0, .ref (zB X + 0)), (1, .int v1)] [] g) : ∀ (n : Nat) (v2 : Int32) (g : zM), fX11_fillLastsAhead_L47 v1 k91 n v2 g = some r → zW X (zQ X (.inl (none, r)) 0) 0 0 47 [(0, .ref (zB X + 0)), (1, .int v1), (2, .int v2)] [] g := by
  intro n
  induction n with
  | zero => intro v2 g hf; exact zno hf
  | succ n ih =>
    intro v2 g hf
    rw [fX11_fillLastsAhead_L47] at hf
    refine z_iload_n hX dX11_fillLastsAhead_47 2 rfl ?_
    refine z_bipush hX dX11_fillLastsAhead_48 cb_40 ?_
    refine z_icmp_gt hX 91 dX11_fillLastsAhead_50 (by decide) (fun h4 => ?_) (fun h4 => ?_)
    · replace hf := zif_pos h4 hf
      refine zW.sub [0, 1] rfl ?_
      exact hk91 g hf
    · replace hf := zif_neg h4 hf
      refine z_aload_n hX dX11_fillLastsAhead_53 0 rfl ?_
      refine gf_Post_lastsAhead hX zq_0 q449 dX11_fillLastsAhead_54 ?_
      refine z_iload_n hX dX11_fillLastsAhead_57 1 rfl ?_
      replace hf := zchk_some hf
      obtain ⟨h5, hf⟩ := hf
      refine z_aald_row hX zq_483 h5 dX11_fillLastsAhead_58 ?_
      refine z_iload_n hX dX11_fillLastsAhead_59 2 rfl ?_
      refine z_aload_n hX dX11_fillLastsAhead_60 0 rfl ?_
      refine gf_Post_sight hX zq_0 q445 dX11_fillLastsAhead_61 ?_
      refine gf_Sight_mail_N hX zq_446 qn404 dX11_fillLastsAhead_64 ?_
      replace hf := zb_some hf
      obtain ⟨r_6, h6, hf⟩ := hf
      refine z_callV1 hX ok_X3_lastKind q517 q518 q519 (zrm_ok hR (by decide)) (ct_X3_lastKind zq_447 h6) (zrec_Mail hX zq_447) dX11_fillLastsAhead_67 rfl rfl ?_
      replace hf := zchk_some hf
      obtain ⟨h7, hf⟩ := hf
      replace hf := zput_some hf
      obtain ⟨g8, eg8, hf⟩ := hf
      refine z_iast hX (zk_el24 zq_483 h5) (by decide) (zc_1041 _ _) h7 dX11_fillLastsAhead_70 (zW.eqg eg8 ?_)
      refine z_aload_n hX dX11_fillLastsAhead_71 0 rfl ?_
      refine gf_Post_sight hX zq_0 q445 dX11_fillLastsAhead_72 ?_
      refine z_aload_n hX dX11_fillLastsAhead_75 0 rfl ?_
      refine gf_Post_now hX zq_0 q439 dX11_fillLastsAhead_76 ?_
      refine gf_World_law_N hX zq_2 qn275 dX11_fillLastsAhead_79 ?_
      replace hf := zb_some hf
      obtain ⟨g9, h9, hf⟩ := hf
      refine z_callV0 hX ok_X7_goWeek q525 q526 q527 (zrm_ok hR (by decide)) (ct_X7_goWeek zq_446 zq_29 h9) (zrec_Sight hX zq_446) dX11_fillLastsAhead_82 rfl rfl ?_
      refine z_iincc (lv' := [(2, .int (v2 + 1)), (0, .ref (zB X + 0)), (1, .int v1)]) hX dX11_fillLastsAhead_85 hn (by decide) 2 rfl ci_1 rfl ?_
      refine z_goto hX 47 dX11_fillLastsAhead_88 (by decide) ?_
      refine zW.sub [1, 2, 0] rfl ?_
      exact ih (v2 + 1) g9 hf
set_option maxHeartbeats 4000000 in
set_option maxRecDepth 100000 in
theorem fX11_fillLastsAhead_L2_ok {X : zX} (hX : zCX X cX11_fillLastsAhead RX11) (hT : zNT X) (hR : X.2.2.2.1 = zrm 7 0) (hr : X.2.2.2.2.2.2.2.2.1.sig.returnType = none) (hn : X.2.2.2.2.2.2.2.2.2.1.maxLocals = 3)  {r : zM}  : ∀ (n : Nat) (v1 : Int32) (g : zM), fX11_fillLastsAhead_L2 n v1 g = some r → zW X (zQ X (.inl (none, r)) 0) 0 0 2 [(0, .ref (zB X + 0)), (1, .int v1)] [] g := by
  intro n
  induction n with
  | zero => intro v1 g hf; exact zno hf
  | succ n ih =>
    intro v1 g hf
    rw [fX11_fillLastsAhead_L2] at hf
    refine z_iload_n hX dX11_fillLastsAhead_2 1 rfl ?_
    refine z_aload_n hX dX11_fillLastsAhead_3 0 rfl ?_
    refine gf_Post_now hX zq_0 q439 dX11_fillLastsAhead_4 ?_
    refine gf_World_bag_N hX zq_2 qn273 dX11_fillLastsAhead_7 ?_
    refine gf_Bag_size_N hX zq_3 qn216 dX11_fillLastsAhead_10 ?_
    refine z_icmp_ge hX 97 dX11_fillLastsAhead_13 (by decide) (fun h1 => ?_) (fun h1 => ?_)
    · replace hf := zif_pos h1 hf
      obtain rfl := Option.some.inj hf
      exact z_vret hX hr (zl rfl) (zl rfl) dX11_fillLastsAhead_97
    · replace hf := zif_neg h1 hf
      refine z_aload_n hX dX11_fillLastsAhead_16 0 rfl ?_
      refine gf_Post_sight hX zq_0 q445 dX11_fillLastsAhead_17 ?_
      refine z_aload_n hX dX11_fillLastsAhead_20 0 rfl ?_
      refine gf_Post_now hX zq_0 q439 dX11_fillLastsAhead_21 ?_
      refine gf_World_bag_N hX zq_2 qn273 dX11_fillLastsAhead_24 ?_
      refine gf_Bag_mails_N hX zq_3 qn213 dX11_fillLastsAhead_27 ?_
      refine z_iload_n hX dX11_fillLastsAhead_30 1 rfl ?_
      replace hf := zchk_some hf
      obtain ⟨h2, hf⟩ := hf
      refine z_aald_mail hX zq_4 h2 dX11_fillLastsAhead_31 ?_
      refine z_aload_n hX dX11_fillLastsAhead_32 0 rfl ?_
      refine gf_Post_now hX zq_0 q439 dX11_fillLastsAhead_33 ?_
      refine gf_World_bag_N hX zq_2 qn273 dX11_fillLastsAhead_36 ?_
      refine gf_Bag_week_N hX zq_3 qn219 dX11_fillLastsAhead_39 ?_
      replace hf := zb_some hf
      obtain ⟨g3, h3, hf⟩ := hf
      refine z_callV0 hX ok_X7_look q506 q507 q508 (zrm_ok hR (by decide)) (ct_X7_look zq_446 (zk_el22 zq_4 h2) h3) (zrec_Sight hX zq_446) dX11_fillLastsAhead_42 rfl rfl ?_
      refine z_iconst hX dX11_fillLastsAhead_45 ci_0 ?_
      refine z_istore_n (lv' := [(2, .int 0), (0, .ref (zB X + 0)), (1, .int v1)]) hX dX11_fillLastsAhead_46 hn (by decide) rfl ?_
      refine zW.sub [1, 2, 0] rfl ?_
      refine fX11_fillLastsAhead_L47_ok hX hT hR hr hn (fun g10 hf => ?_) zFU 0 g3 hf
      · refine z_iincc (lv' := [(1, .int (v1 + 1)), (0, .ref (zB X + 0))]) hX dX11_fillLastsAhead_91 hn (by decide) 1 rfl ci_1 rfl ?_
        refine z_goto hX 2 dX11_fillLastsAhead_94 (by decide) ?_
        refine zW.sub [1, 0] rfl ?_
        exact ih (v1 + 1) g10 hf
set_option maxHeartbeats 4000000 in
set_option maxRecDepth 100000 in
theorem fX11_fillLastsAhead_ok {X : zX} (hX : zCX X cX11_fillLastsAhead RX11) (hT : zNT X) (hR : X.2.2.2.1 = zrm 7 0) (hr : X.2.2.2.2.2.2.2.2.1.sig.returnType = none) (hn : X.2.2.2.2.2.2.2.2.2.1.maxLocals = 3)  {g : zM} {r : zM} (hf : fX11_fillLastsAhead g = some r) : zW X (zQ X (.inl (none, r)) 0) 0 0 0 [(0, .ref (zB X + 0))] [] g := by
  unfold fX11_fillLastsAhead at hf
  refine z_iconst hX dX11_fillLastsAhead_0 ci_0 ?_
  refine z_istore_n (lv' := [(1, .int 0), (0, .ref (zB X + 0))]) hX dX11_fillLastsAhead_1 hn (by decide) rfl ?_
  refine zW.sub [1, 0] rfl ?_
  exact fX11_fillLastsAhead_L2_ok hX hT hR hr hn  zFU 0 g hf
set_option maxHeartbeats 4000000 in
set_option maxRecDepth 100000 in
theorem ct_X11_fillLastsAhead {E : zE} {g : zM} {r : zM} (hf : fX11_fillLastsAhead g = some r) : zCt yX11_fillLastsAhead cX11_fillLastsAhead 3 none 7 0 E [.ref (E.1 + 0)] g (.inl (none, r)) := by
  refine zmet (by decide) (zl rfl) (fun X hE hX hT hR hr hn => ?_)
  subst hE
  exact fX11_fillLastsAhead_ok hX hT hR hr hn  hf
def fX0_openSet_L4 (h : Nat) (g : zM) : Nat → Int32 → Int32 → Option Int32
  | 0, _, _ => none
  | n + 1, v1, v2 => if (g h 1) ≤ v2 then some v1 else zchk v2 8 (if (g (h + 1 + 1 + 3 * v2.toNatClampNeg) 5) = 0 then fX0_openSet_L4 h g n (v1 ||| 0) (v2 + 1) else fX0_openSet_L4 h g n (v1 ||| ((1 : Int32) <<< (v2 &&& 31))) (v2 + 1))
def fX0_openSet (h : Nat) (g : zM) : Option Int32 := fX0_openSet_L4 h g zFU 0 0
set_option maxHeartbeats 4000000 in
set_option maxRecDepth 100000 in
theorem fX0_openSet_L4_ok {X : zX} (hX : zCX X cX0_openSet RX0) (hT : zNT X) (hR : X.2.2.2.1 = zrm 0 0) (hr : X.2.2.2.2.2.2.2.2.1.sig.returnType = (some .int)) (hn : X.2.2.2.2.2.2.2.2.2.1.maxLocals = 3) {h : Nat} (hkh : zK h = 0) {g : zM} {r : Int32}  : ∀ (n : Nat) (v1 : Int32) (v2 : Int32), fX0_openSet_L4 h g n v1 v2 = some r → zW X (zQ X (.inl (some (.int r), g)) 0) 0 0 4 [(0, .ref (zB X + h)), (1, .int v1), (2, .int v2)] [] g := by
  intro n
  induction n with
  | zero => intro v1 v2 hf; exact zno hf
  | succ n ih =>
    intro v1 v2 hf
    rw [fX0_openSet_L4] at hf
    refine z_iload_n hX dX0_openSet_4 2 rfl ?_
    refine z_aload_n hX dX0_openSet_5 0 rfl ?_
    refine gf_Bag_size hX hkh q214 dX0_openSet_6 ?_
    refine z_icmp_ge hX 40 dX0_openSet_9 (by decide) (fun h1 => ?_) (fun h1 => ?_)
    · replace hf := zif_pos h1 hf
      refine z_iload_n hX dX0_openSet_40 1 rfl ?_
      obtain rfl := Option.some.inj hf
      exact z_iret hX hr rfl (zl rfl) (zl rfl) dX0_openSet_41
    · replace hf := zif_neg h1 hf
      refine z_iload_n hX dX0_openSet_12 1 rfl ?_
      refine z_aload_n hX dX0_openSet_13 0 rfl ?_
      refine gf_Bag_mails hX hkh q211 dX0_openSet_14 ?_
      refine z_iload_n hX dX0_openSet_17 2 rfl ?_
      replace hf := zchk_some hf
      obtain ⟨h2, hf⟩ := hf
      refine z_aald_mail hX (zk_Bag_mails hkh) h2 dX0_openSet_18 ?_
      refine gf_Mail_open_N hX (zk_el22 (zk_Bag_mails hkh) h2) qn188 dX0_openSet_19 ?_
      refine z_if_eq hX 31 dX0_openSet_22 (by decide) (fun h3 => ?_) (fun h3 => ?_)
      · replace hf := zif_pos h3 hf
        refine z_iconst hX dX0_openSet_31 ci_0 ?_
        refine z_ior hX dX0_openSet_32 ?_
        refine z_istore_n (lv' := [(1, .int (v1 ||| 0)), (0, .ref (zB X + h)), (2, .int v2)]) hX dX0_openSet_33 hn (by decide) rfl ?_
        refine z_iincc (lv' := [(2, .int (v2 + 1)), (1, .int (v1 ||| 0)), (0, .ref (zB X + h))]) hX dX0_openSet_34 hn (by decide) 2 rfl ci_1 rfl ?_
        refine z_goto hX 4 dX0_openSet_37 (by decide) ?_
        refine zW.sub [2, 1, 0] rfl ?_
        exact ih (v1 ||| 0) (v2 + 1) hf
      · replace hf := zif_neg h3 hf
        refine z_iconst hX dX0_openSet_25 ci_1 ?_
        refine z_iload_n hX dX0_openSet_26 2 rfl ?_
        refine z_ishl hX dX0_openSet_27 ?_
        refine z_goto hX 32 dX0_openSet_28 (by decide) ?_
        refine z_ior hX dX0_openSet_32 ?_
        refine z_istore_n (lv' := [(1, .int (v1 ||| ((1 : Int32) <<< (v2 &&& 31)))), (0, .ref (zB X + h)), (2, .int v2)]) hX dX0_openSet_33 hn (by decide) rfl ?_
        refine z_iincc (lv' := [(2, .int (v2 + 1)), (1, .int (v1 ||| ((1 : Int32) <<< (v2 &&& 31)))), (0, .ref (zB X + h))]) hX dX0_openSet_34 hn (by decide) 2 rfl ci_1 rfl ?_
        refine z_goto hX 4 dX0_openSet_37 (by decide) ?_
        refine zW.sub [2, 1, 0] rfl ?_
        exact ih (v1 ||| ((1 : Int32) <<< (v2 &&& 31))) (v2 + 1) hf
set_option maxHeartbeats 4000000 in
set_option maxRecDepth 100000 in
theorem fX0_openSet_ok {X : zX} (hX : zCX X cX0_openSet RX0) (hT : zNT X) (hR : X.2.2.2.1 = zrm 0 0) (hr : X.2.2.2.2.2.2.2.2.1.sig.returnType = (some .int)) (hn : X.2.2.2.2.2.2.2.2.2.1.maxLocals = 3) {h : Nat} (hkh : zK h = 0) {g : zM} {r : Int32} (hf : fX0_openSet h g = some r) : zW X (zQ X (.inl (some (.int r), g)) 0) 0 0 0 [(0, .ref (zB X + h))] [] g := by
  unfold fX0_openSet at hf
  refine z_iconst hX dX0_openSet_0 ci_0 ?_
  refine z_istore_n (lv' := [(1, .int 0), (0, .ref (zB X + h))]) hX dX0_openSet_1 hn (by decide) rfl ?_
  refine z_iconst hX dX0_openSet_2 ci_0 ?_
  refine z_istore_n (lv' := [(2, .int 0), (1, .int 0), (0, .ref (zB X + h))]) hX dX0_openSet_3 hn (by decide) rfl ?_
  refine zW.sub [2, 1, 0] rfl ?_
  exact fX0_openSet_L4_ok hX hT hR hr hn hkh zFU 0 0 hf
set_option maxHeartbeats 4000000 in
set_option maxRecDepth 100000 in
theorem ct_X0_openSet {E : zE} {h : Nat} (hkh : zK h = 0) {g : zM} {r : Int32} (hf : fX0_openSet h g = some r) : zCt yX0_openSet cX0_openSet 3 (some .int) 0 0 E [.ref (E.1 + h)] g (.inl (some (.int r), g)) := by
  refine zmet (by decide) (zl rfl) (fun X hE hX hT hR hr hn => ?_)
  subst hE
  exact fX0_openSet_ok hX hT hR hr hn hkh hf
def fX0_areSealed (h : Nat) (v1 : Int32) (v2 : Int32) (g : zM) : Option Int32 := zb (fX0_openSet h g) (fun r_1 => if ((r_1 >>> (v1 &&& 31)) &&& 1) = 0 then zb (fX0_openSet h g) (fun r_3 => if ((r_3 >>> (v2 &&& 31)) &&& 1) = 0 then some 1 else some 0) else some 0)
set_option maxHeartbeats 4000000 in
set_option maxRecDepth 100000 in
theorem fX0_areSealed_ok {X : zX} (hX : zCX X cX0_areSealed RX0) (hT : zNT X) (hR : X.2.2.2.1 = zrm 1 0) (hr : X.2.2.2.2.2.2.2.2.1.sig.returnType = (some .boolean)) (hn : X.2.2.2.2.2.2.2.2.2.1.maxLocals = 3) {h : Nat} {v1 : Int32} {v2 : Int32} (hkh : zK h = 0) {g : zM} {r : Int32} (hf : fX0_areSealed h v1 v2 g = some r) : zW X (zQ X (.inl (some (.int r), g)) 0) 0 0 0 [(0, .ref (zB X + h)), (1, .int v1), (2, .int v2)] [] g := by
  unfold fX0_areSealed at hf
  refine z_aload_n hX dX0_areSealed_0 0 rfl ?_
  replace hf := zb_some hf
  obtain ⟨r_1, h1, hf⟩ := hf
  refine z_callV1 hX ok_X0_openSet q563 q564 q565 (zrm_ok hR (by decide)) (ct_X0_openSet hkh h1) (zrec_Bag hX hkh) dX0_areSealed_1 rfl rfl ?_
  refine z_iload_n hX dX0_areSealed_4 1 rfl ?_
  refine z_ishr hX dX0_areSealed_5 ?_
  refine z_iconst hX dX0_areSealed_6 ci_1 ?_
  refine z_iand hX dX0_areSealed_7 ?_
  refine z_if_ne hX 26 dX0_areSealed_8 (by decide) (fun h2 => ?_) (fun h2 => ?_)
  · replace hf := zif_neg h2 hf
    refine z_iconst hX dX0_areSealed_26 ci_0 ?_
    obtain rfl := Option.some.inj hf
    exact z_iret hX hr (zbn (Or.inl rfl)) (zl rfl) (zl rfl) dX0_areSealed_27
  · replace hf := zif_pos h2 hf
    refine z_aload_n hX dX0_areSealed_11 0 rfl ?_
    replace hf := zb_some hf
    obtain ⟨r_3, h3, hf⟩ := hf
    refine z_callV1 hX ok_X0_openSet q563 q564 q565 (zrm_ok hR (by decide)) (ct_X0_openSet hkh h3) (zrec_Bag hX hkh) dX0_areSealed_12 rfl rfl ?_
    refine z_iload_n hX dX0_areSealed_15 2 rfl ?_
    refine z_ishr hX dX0_areSealed_16 ?_
    refine z_iconst hX dX0_areSealed_17 ci_1 ?_
    refine z_iand hX dX0_areSealed_18 ?_
    refine z_if_ne hX 26 dX0_areSealed_19 (by decide) (fun h4 => ?_) (fun h4 => ?_)
    · replace hf := zif_neg h4 hf
      refine z_iconst hX dX0_areSealed_26 ci_0 ?_
      obtain rfl := Option.some.inj hf
      exact z_iret hX hr (zbn (Or.inl rfl)) (zl rfl) (zl rfl) dX0_areSealed_27
    · replace hf := zif_pos h4 hf
      refine z_iconst hX dX0_areSealed_22 ci_1 ?_
      refine z_goto hX 27 dX0_areSealed_23 (by decide) ?_
      obtain rfl := Option.some.inj hf
      exact z_iret hX hr (zbn (Or.inr rfl)) (zl rfl) (zl rfl) dX0_areSealed_27
set_option maxHeartbeats 4000000 in
set_option maxRecDepth 100000 in
theorem ct_X0_areSealed {E : zE} {h : Nat} {v1 : Int32} {v2 : Int32} (hkh : zK h = 0) {g : zM} {r : Int32} (hf : fX0_areSealed h v1 v2 g = some r) : zCt yX0_areSealed cX0_areSealed 3 (some .boolean) 1 0 E [.ref (E.1 + h), .int v1, .int v2] g (.inl (some (.int r), g)) := by
  refine zmet (by decide) (zl rfl) (fun X hE hX hT hR hr hn => ?_)
  subst hE
  exact fX0_areSealed_ok hX hT hR hr hn hkh hf
def fX11_firstMeeting_L2 (v1 : Int32) (v2 : Int32) (g : zM) : Nat → Int32 → Option Int32
  | 0, _ => none
  | n + 1, v3 => if 40 < v3 then some ((-1)) else zchk v1 8 (zchk v3 41 (zchk v2 8 (zchk v3 41 (if (g (483 + 1 + v1.toNatClampNeg) v3.toNatClampNeg) = (g (483 + 1 + v2.toNatClampNeg) v3.toNatClampNeg) then some v3 else fX11_firstMeeting_L2 v1 v2 g n (v3 + 1)))))
def fX11_firstMeeting (v1 : Int32) (v2 : Int32) (g : zM) : Option Int32 := fX11_firstMeeting_L2 v1 v2 g zFU 0
set_option maxHeartbeats 4000000 in
set_option maxRecDepth 100000 in
theorem fX11_firstMeeting_L2_ok {X : zX} (hX : zCX X cX11_firstMeeting RX11) (hT : zNT X) (hR : X.2.2.2.1 = zrm 0 0) (hr : X.2.2.2.2.2.2.2.2.1.sig.returnType = (some .int)) (hn : X.2.2.2.2.2.2.2.2.2.1.maxLocals = 4) {v1 : Int32} {v2 : Int32} {g : zM} {r : Int32}  : ∀ (n : Nat) (v3 : Int32), fX11_firstMeeting_L2 v1 v2 g n v3 = some r → zW X (zQ X (.inl (some (.int r), g)) 0) 0 0 2 [(0, .ref (zB X + 0)), (1, .int v1), (2, .int v2), (3, .int v3)] [] g := by
  intro n
  induction n with
  | zero => intro v3 hf; exact zno hf
  | succ n ih =>
    intro v3 hf
    rw [fX11_firstMeeting_L2] at hf
    refine z_iload_n hX dX11_firstMeeting_2 3 rfl ?_
    refine z_bipush hX dX11_firstMeeting_3 cb_40 ?_
    refine z_icmp_gt hX 35 dX11_firstMeeting_5 (by decide) (fun h1 => ?_) (fun h1 => ?_)
    · replace hf := zif_pos h1 hf
      refine z_iconst hX dX11_firstMeeting_35 ci_m1 ?_
      obtain rfl := Option.some.inj hf
      exact z_iret hX hr rfl (zl rfl) (zl rfl) dX11_firstMeeting_36
    · replace hf := zif_neg h1 hf
      refine z_aload_n hX dX11_firstMeeting_8 0 rfl ?_
      refine gf_Post_lastsAhead hX zq_0 q449 dX11_firstMeeting_9 ?_
      refine z_iload_n hX dX11_firstMeeting_12 1 rfl ?_
      replace hf := zchk_some hf
      obtain ⟨h2, hf⟩ := hf
      refine z_aald_row hX zq_483 h2 dX11_firstMeeting_13 ?_
      refine z_iload_n hX dX11_firstMeeting_14 3 rfl ?_
      replace hf := zchk_some hf
      obtain ⟨h3, hf⟩ := hf
      refine z_iald hX (zk_el24 zq_483 h2) (by decide) (zc_1041 _ _ _) h3 dX11_firstMeeting_15 ?_
      refine z_aload_n hX dX11_firstMeeting_16 0 rfl ?_
      refine gf_Post_lastsAhead hX zq_0 q449 dX11_firstMeeting_17 ?_
      refine z_iload_n hX dX11_firstMeeting_20 2 rfl ?_
      replace hf := zchk_some hf
      obtain ⟨h4, hf⟩ := hf
      refine z_aald_row hX zq_483 h4 dX11_firstMeeting_21 ?_
      refine z_iload_n hX dX11_firstMeeting_22 3 rfl ?_
      replace hf := zchk_some hf
      obtain ⟨h5, hf⟩ := hf
      refine z_iald hX (zk_el24 zq_483 h4) (by decide) (zc_1041 _ _ _) h5 dX11_firstMeeting_23 ?_
      refine z_icmp_ne hX 29 dX11_firstMeeting_24 (by decide) (fun h6 => ?_) (fun h6 => ?_)
      · replace hf := zif_neg h6 hf
        refine z_iincc (lv' := [(3, .int (v3 + 1)), (0, .ref (zB X + 0)), (1, .int v1), (2, .int v2)]) hX dX11_firstMeeting_29 hn (by decide) 3 rfl ci_1 rfl ?_
        refine z_goto hX 2 dX11_firstMeeting_32 (by decide) ?_
        refine zW.sub [1, 2, 3, 0] rfl ?_
        exact ih (v3 + 1) hf
      · replace hf := zif_pos h6 hf
        refine z_iload_n hX dX11_firstMeeting_27 3 rfl ?_
        obtain rfl := Option.some.inj hf
        exact z_iret hX hr rfl (zl rfl) (zl rfl) dX11_firstMeeting_28
set_option maxHeartbeats 4000000 in
set_option maxRecDepth 100000 in
theorem fX11_firstMeeting_ok {X : zX} (hX : zCX X cX11_firstMeeting RX11) (hT : zNT X) (hR : X.2.2.2.1 = zrm 0 0) (hr : X.2.2.2.2.2.2.2.2.1.sig.returnType = (some .int)) (hn : X.2.2.2.2.2.2.2.2.2.1.maxLocals = 4) {v1 : Int32} {v2 : Int32} {g : zM} {r : Int32} (hf : fX11_firstMeeting v1 v2 g = some r) : zW X (zQ X (.inl (some (.int r), g)) 0) 0 0 0 [(0, .ref (zB X + 0)), (1, .int v1), (2, .int v2)] [] g := by
  unfold fX11_firstMeeting at hf
  refine z_iconst hX dX11_firstMeeting_0 ci_0 ?_
  refine z_istore_n (lv' := [(3, .int 0), (0, .ref (zB X + 0)), (1, .int v1), (2, .int v2)]) hX dX11_firstMeeting_1 hn (by decide) rfl ?_
  refine zW.sub [1, 2, 3, 0] rfl ?_
  exact fX11_firstMeeting_L2_ok hX hT hR hr hn  zFU 0 hf
set_option maxHeartbeats 4000000 in
set_option maxRecDepth 100000 in
theorem ct_X11_firstMeeting {E : zE} {v1 : Int32} {v2 : Int32} {g : zM} {r : Int32} (hf : fX11_firstMeeting v1 v2 g = some r) : zCt yX11_firstMeeting cX11_firstMeeting 4 (some .int) 0 0 E [.ref (E.1 + 0), .int v1, .int v2] g (.inl (some (.int r), g)) := by
  refine zmet (by decide) (zl rfl) (fun X hE hX hT hR hr hn => ?_)
  subst hE
  exact fX11_firstMeeting_ok hX hT hR hr hn  hf
def fX11_drawer_L30 (v3 : Int32) (g : zM) (k103 : Int32 → Int32 → Option (Int32 × zM)) : Nat → Int32 → Int32 → Int32 → Option (Int32 × zM)
  | 0, _, _, _ => none
  | n + 1, v1, v2, v4 => if (g 3 1) ≤ v4 then k103 v1 v2 else zb (fX0_areSealed 3 v3 v4 g) (fun r_4 => zjoin (fun t0_5 => if t0_5 = ((-1)) then fX11_drawer_L30 v3 g k103 n v1 v2 (v4 + 1) else if v1 ≤ t0_5 then fX11_drawer_L30 v3 g k103 n v1 v2 (v4 + 1) else fX11_drawer_L30 v3 g k103 n t0_5 ((10 * v3) + v4) (v4 + 1) : Int32 → Option (Int32 × zM)) (fun k72 => if r_4 = 0 then k72 ((-1)) else zb (fX11_firstMeeting v3 v4 g) (fun r_9 => k72 r_9)))
def fX11_drawer_L11 (g : zM) : Nat → Int32 → Int32 → Int32 → Option (Int32 × zM)
  | 0, _, _, _ => none
  | n + 1, v1, v2, v3 => if (g 3 1) ≤ v3 then some (v2, g) else fX11_drawer_L30 v3 g (fun v1_10 v2_10 => fX11_drawer_L11 g n v1_10 v2_10 (v3 + 1)) zFU v1 v2 (v3 + 1)
def fX11_drawer (g : zM) : Option (Int32 × zM) := zb (fX11_fillLastsAhead g) (fun g1 => fX11_drawer_L11 g1 zFU 41 ((-1)) 0)
set_option maxHeartbeats 4000000 in
set_option maxRecDepth 100000 in
theorem fX11_drawer_L30_ok {X : zX} (hX : zCX X cX11_drawer RX11) (hT : zNT X) (hR : X.2.2.2.1 = zrm 8 0) (hr : X.2.2.2.2.2.2.2.2.1.sig.returnType = (some .int)) (hn : X.2.2.2.2.2.2.2.2.2.1.maxLocals = 6) {v3 : Int32} {g : zM} {k103 : Int32 → Int32 → Option (Int32 × zM)} {r : Int32 × zM} (hk103 : ∀ (v1 : Int32) (v2 : Int32), k103 v1 v2 = some r → zW X (zQ X (.inl (some (.int r.1), r.2)) 0) 0 0 103 [(0, .ref (zB X + 0)), (1, .int v1), (2, .int v2), (3, .int v3)] [] g) : ∀ (n : Nat) (v1 : Int32) (v2 : Int32) (v4 : Int32), fX11_drawer_L30 v3 g k103 n v1 v2 v4 = some r → zW X (zQ X (.inl (some (.int r.1), r.2)) 0) 0 0 30 [(0, .ref (zB X + 0)), (1, .int v1), (2, .int v2), (3, .int v3), (4, .int v4)] [] g := by
  intro n
  induction n with
  | zero => intro v1 v2 v4 hf; exact zno hf
  | succ n ih =>
    intro v1 v2 v4 hf
    rw [fX11_drawer_L30] at hf
    refine z_iload hX dX11_drawer_30 4 rfl ?_
    refine z_aload_n hX dX11_drawer_32 0 rfl ?_
    refine gf_Post_now hX zq_0 q439 dX11_drawer_33 ?_
    refine gf_World_bag_N hX zq_2 qn273 dX11_drawer_36 ?_
    refine gf_Bag_size_N hX zq_3 qn216 dX11_drawer_39 ?_
    refine z_icmp_ge hX 103 dX11_drawer_42 (by decide) (fun h3 => ?_) (fun h3 => ?_)
    · replace hf := zif_pos h3 hf
      refine zW.sub [0, 1, 2, 3] rfl ?_
      exact hk103 v1 v2 hf
    · replace hf := zif_neg h3 hf
      refine z_aload_n hX dX11_drawer_45 0 rfl ?_
      refine gf_Post_now hX zq_0 q439 dX11_drawer_46 ?_
      refine gf_World_bag_N hX zq_2 qn273 dX11_drawer_49 ?_
      refine z_iload_n hX dX11_drawer_52 3 rfl ?_
      refine z_iload hX dX11_drawer_53 4 rfl ?_
      replace hf := zb_some hf
      obtain ⟨r_4, h4, hf⟩ := hf
      refine z_callV1 hX ok_X0_areSealed q559 q560 q561 (zrm_ok hR (by decide)) (ct_X0_areSealed zq_3 h4) (zrec_Bag hX zq_3) dX11_drawer_55 rfl rfl ?_
      refine zjoin_ok (P := fun (k : Int32 → Option (Int32 × zM)) => ∀ (t0_5 : Int32), k t0_5 = some r → zW X (zQ X (.inl (some (.int r.1), r.2)) 0) 0 0 72 [(0, .ref (zB X + 0)), (1, .int v1), (2, .int v2), (3, .int v3), (4, .int v4)] [.int t0_5] g) hf (fun t0_5 hf => ?_) (fun k72 hk72 hf => ?_)
      · refine z_istore (lv' := [(5, .int t0_5), (0, .ref (zB X + 0)), (1, .int v1), (2, .int v2), (3, .int v3), (4, .int v4)]) hX dX11_drawer_72 hn (by decide) rfl ?_
        refine z_iload hX dX11_drawer_74 0 rfl ?_
        refine z_iconst hX dX11_drawer_76 ci_m1 ?_
        refine z_icmp_eq hX 97 dX11_drawer_77 (by decide) (fun h6 => ?_) (fun h6 => ?_)
        · replace hf := zif_pos h6 hf
          refine z_iincc (lv' := [(4, .int (v4 + 1)), (5, .int t0_5), (0, .ref (zB X + 0)), (1, .int v1), (2, .int v2), (3, .int v3)]) hX dX11_drawer_97 hn (by decide) 5 rfl ci_1 rfl ?_
          refine z_goto hX 30 dX11_drawer_100 (by decide) ?_
          refine zW.sub [2, 3, 4, 5, 0] rfl ?_
          exact ih v1 v2 (v4 + 1) hf
        · replace hf := zif_neg h6 hf
          refine z_iload hX dX11_drawer_80 0 rfl ?_
          refine z_iload_n hX dX11_drawer_82 2 rfl ?_
          refine z_icmp_ge hX 97 dX11_drawer_83 (by decide) (fun h7 => ?_) (fun h7 => ?_)
          · replace hf := zif_pos h7 hf
            refine z_iincc (lv' := [(4, .int (v4 + 1)), (5, .int t0_5), (0, .ref (zB X + 0)), (1, .int v1), (2, .int v2), (3, .int v3)]) hX dX11_drawer_97 hn (by decide) 5 rfl ci_1 rfl ?_
            refine z_goto hX 30 dX11_drawer_100 (by decide) ?_
            refine zW.sub [2, 3, 4, 5, 0] rfl ?_
            exact ih v1 v2 (v4 + 1) hf
          · replace hf := zif_neg h7 hf
            refine z_iload hX dX11_drawer_86 0 rfl ?_
            refine z_istore_n (lv' := [(1, .int t0_5), (5, .int t0_5), (0, .ref (zB X + 0)), (2, .int v2), (3, .int v3), (4, .int v4)]) hX dX11_drawer_88 hn (by decide) rfl ?_
            refine z_bipush hX dX11_drawer_89 cb_10 ?_
            refine z_iload_n hX dX11_drawer_91 4 rfl ?_
            refine z_imul hX dX11_drawer_92 ?_
            refine z_iload hX dX11_drawer_93 5 rfl ?_
            refine z_iadd hX dX11_drawer_95 ?_
            refine z_istore_n (lv' := [(2, .int ((10 * v3) + v4)), (1, .int t0_5), (5, .int t0_5), (0, .ref (zB X + 0)), (3, .int v3), (4, .int v4)]) hX dX11_drawer_96 hn (by decide) rfl ?_
            refine z_iincc (lv' := [(4, .int (v4 + 1)), (2, .int ((10 * v3) + v4)), (1, .int t0_5), (5, .int t0_5), (0, .ref (zB X + 0)), (3, .int v3)]) hX dX11_drawer_97 hn (by decide) 5 rfl ci_1 rfl ?_
            refine z_goto hX 30 dX11_drawer_100 (by decide) ?_
            refine zW.sub [4, 2, 1, 5, 0] rfl ?_
            exact ih t0_5 ((10 * v3) + v4) (v4 + 1) hf
      · refine z_if_eq hX 71 dX11_drawer_58 (by decide) (fun h8 => ?_) (fun h8 => ?_)
        · replace hf := zif_pos h8 hf
          refine z_iconst hX dX11_drawer_71 ci_m1 ?_
          exact hk72 ((-1)) hf
        · replace hf := zif_neg h8 hf
          refine z_aload_n hX dX11_drawer_61 0 rfl ?_
          refine z_iload_n hX dX11_drawer_62 3 rfl ?_
          refine z_iload hX dX11_drawer_63 4 rfl ?_
          replace hf := zb_some hf
          obtain ⟨r_9, h9, hf⟩ := hf
          refine z_callV1 hX ok_X11_firstMeeting q567 q569 q5 (zrm_ok hR (by decide)) (ct_X11_firstMeeting  h9) (zrec_Post hX zq_0) dX11_drawer_65 rfl rfl ?_
          refine z_goto hX 72 dX11_drawer_68 (by decide) ?_
          exact hk72 r_9 hf
set_option maxHeartbeats 4000000 in
set_option maxRecDepth 100000 in
theorem fX11_drawer_L11_ok {X : zX} (hX : zCX X cX11_drawer RX11) (hT : zNT X) (hR : X.2.2.2.1 = zrm 8 0) (hr : X.2.2.2.2.2.2.2.2.1.sig.returnType = (some .int)) (hn : X.2.2.2.2.2.2.2.2.2.1.maxLocals = 6) {g : zM} {r : Int32 × zM}  : ∀ (n : Nat) (v1 : Int32) (v2 : Int32) (v3 : Int32), fX11_drawer_L11 g n v1 v2 v3 = some r → zW X (zQ X (.inl (some (.int r.1), r.2)) 0) 0 0 11 [(0, .ref (zB X + 0)), (1, .int v1), (2, .int v2), (3, .int v3)] [] g := by
  intro n
  induction n with
  | zero => intro v1 v2 v3 hf; exact zno hf
  | succ n ih =>
    intro v1 v2 v3 hf
    rw [fX11_drawer_L11] at hf
    refine z_iload_n hX dX11_drawer_11 3 rfl ?_
    refine z_aload_n hX dX11_drawer_12 0 rfl ?_
    refine gf_Post_now hX zq_0 q439 dX11_drawer_13 ?_
    refine gf_World_bag_N hX zq_2 qn273 dX11_drawer_16 ?_
    refine gf_Bag_size_N hX zq_3 qn216 dX11_drawer_19 ?_
    refine z_icmp_ge hX 109 dX11_drawer_22 (by decide) (fun h2 => ?_) (fun h2 => ?_)
    · replace hf := zif_pos h2 hf
      refine z_iload_n hX dX11_drawer_109 2 rfl ?_
      obtain rfl := Option.some.inj hf
      exact z_iret hX hr rfl (zl rfl) (zl rfl) dX11_drawer_110
    · replace hf := zif_neg h2 hf
      refine z_iload_n hX dX11_drawer_25 3 rfl ?_
      refine z_iconst hX dX11_drawer_26 ci_1 ?_
      refine z_iadd hX dX11_drawer_27 ?_
      refine z_istore (lv' := [(4, .int (v3 + 1)), (0, .ref (zB X + 0)), (1, .int v1), (2, .int v2), (3, .int v3)]) hX dX11_drawer_28 hn (by decide) rfl ?_
      refine zW.sub [1, 2, 3, 4, 0] rfl ?_
      refine fX11_drawer_L30_ok hX hT hR hr hn (fun v1_10 v2_10 hf => ?_) zFU v1 v2 (v3 + 1) hf
      · refine z_iincc (lv' := [(3, .int (v3 + 1)), (0, .ref (zB X + 0)), (1, .int v1_10), (2, .int v2_10)]) hX dX11_drawer_103 hn (by decide) 3 rfl ci_1 rfl ?_
        refine z_goto hX 11 dX11_drawer_106 (by decide) ?_
        refine zW.sub [1, 2, 3, 0] rfl ?_
        exact ih v1_10 v2_10 (v3 + 1) hf
set_option maxHeartbeats 4000000 in
set_option maxRecDepth 100000 in
theorem fX11_drawer_ok {X : zX} (hX : zCX X cX11_drawer RX11) (hT : zNT X) (hR : X.2.2.2.1 = zrm 8 0) (hr : X.2.2.2.2.2.2.2.2.1.sig.returnType = (some .int)) (hn : X.2.2.2.2.2.2.2.2.2.1.maxLocals = 6)  {g : zM} {r : Int32 × zM} (hf : fX11_drawer g = some r) : zW X (zQ X (.inl (some (.int r.1), r.2)) 0) 0 0 0 [(0, .ref (zB X + 0))] [] g := by
  unfold fX11_drawer at hf
  refine z_aload_n hX dX11_drawer_0 0 rfl ?_
  replace hf := zb_some hf
  obtain ⟨g1, h1, hf⟩ := hf
  refine z_callV0 hX ok_X11_fillLastsAhead q502 q504 q1 (zrm_ok hR (by decide)) (ct_X11_fillLastsAhead  h1) (zrec_Post hX zq_0) dX11_drawer_1 rfl rfl ?_
  refine z_bipush hX dX11_drawer_4 cb_41 ?_
  refine z_istore_n (lv' := [(1, .int 41), (0, .ref (zB X + 0))]) hX dX11_drawer_6 hn (by decide) rfl ?_
  refine z_iconst hX dX11_drawer_7 ci_m1 ?_
  refine z_istore_n (lv' := [(2, .int ((-1))), (1, .int 41), (0, .ref (zB X + 0))]) hX dX11_drawer_8 hn (by decide) rfl ?_
  refine z_iconst hX dX11_drawer_9 ci_0 ?_
  refine z_istore_n (lv' := [(3, .int 0), (2, .int ((-1))), (1, .int 41), (0, .ref (zB X + 0))]) hX dX11_drawer_10 hn (by decide) rfl ?_
  refine zW.sub [3, 2, 1, 0] rfl ?_
  exact fX11_drawer_L11_ok hX hT hR hr hn  zFU 41 ((-1)) 0 hf
set_option maxHeartbeats 4000000 in
set_option maxRecDepth 100000 in
theorem ct_X11_drawer {E : zE} {g : zM} {r : Int32 × zM} (hf : fX11_drawer g = some r) : zCt yX11_drawer cX11_drawer 6 (some .int) 8 0 E [.ref (E.1 + 0)] g (.inl (some (.int r.1), r.2)) := by
  refine zmet (by decide) (zl rfl) (fun X hE hX hT hR hr hn => ?_)
  subst hE
  exact fX11_drawer_ok hX hT hR hr hn  hf
def fX3_binds_L5 (h : Nat) (v1 : Int32) (v2 : Int32) (g : zM) : Nat → Int32 → Int32 → Option Int32
  | 0, _, _ => none
  | n + 1, v3, v4 => if (g h 2) ≤ v4 then some 0 else zjoin (if v3 = 0 then zchk v4 24 (if (g (h + 1) v4.toNatClampNeg) = v1 then fX3_binds_L5 h v1 v2 g n 1 (v4 + 1) else fX3_binds_L5 h v1 v2 g n 0 (v4 + 1)) else fX3_binds_L5 h v1 v2 g n 1 (v4 + 1) : Option Int32) (fun k31 => if v3 = 0 then k31 else zchk v4 24 (if (g (h + 1) v4.toNatClampNeg) = v2 then some 1 else k31))
def fX3_binds (h : Nat) (v1 : Int32) (v2 : Int32) (g : zM) : Option Int32 := fX3_binds_L5 h v1 v2 g zFU 0 0
set_option maxHeartbeats 4000000 in
set_option maxRecDepth 100000 in
theorem fX3_binds_L5_ok {X : zX} (hX : zCX X cX3_binds RX3) (hT : zNT X) (hR : X.2.2.2.1 = zrm 0 0) (hr : X.2.2.2.2.2.2.2.2.1.sig.returnType = (some .boolean)) (hn : X.2.2.2.2.2.2.2.2.2.1.maxLocals = 5) {h : Nat} {v1 : Int32} {v2 : Int32} (hkh : zK h = 3) {g : zM} {r : Int32}  : ∀ (n : Nat) (v3 : Int32) (v4 : Int32), fX3_binds_L5 h v1 v2 g n v3 v4 = some r → zW X (zQ X (.inl (some (.int r), g)) 0) 0 0 5 [(0, .ref (zB X + h)), (1, .int v1), (2, .int v2), (3, .int v3), (4, .int v4)] [] g := by
  intro n
  induction n with
  | zero => intro v3 v4 hf; exact zno hf
  | succ n ih =>
    intro v3 v4 hf
    rw [fX3_binds_L5] at hf
    refine z_iload hX dX3_binds_5 4 rfl ?_
    refine z_aload_n hX dX3_binds_7 0 rfl ?_
    refine gf_Mail_lines hX hkh q173 dX3_binds_8 ?_
    refine z_icmp_ge hX 58 dX3_binds_11 (by decide) (fun h1 => ?_) (fun h1 => ?_)
    · replace hf := zif_pos h1 hf
      refine z_iconst hX dX3_binds_58 ci_0 ?_
      obtain rfl := Option.some.inj hf
      exact z_iret hX hr (zbn (Or.inl rfl)) (zl rfl) (zl rfl) dX3_binds_59
    · replace hf := zif_neg h1 hf
      refine z_iload_n hX dX3_binds_14 3 rfl ?_
      refine zjoin_ok (P := fun (k : Option Int32) => k = some r → zW X (zQ X (.inl (some (.int r), g)) 0) 0 0 31 [(0, .ref (zB X + h)), (1, .int v1), (2, .int v2), (3, .int v3), (4, .int v4)] [] g) hf (fun hf => ?_) (fun k31 hk31 hf => ?_)
      · refine z_iload_n hX dX3_binds_31 3 rfl ?_
        refine z_if_ne hX 46 dX3_binds_32 (by decide) (fun h3 => ?_) (fun h3 => ?_)
        · replace hf := zif_neg h3 hf
          refine z_iconst hX dX3_binds_46 ci_1 ?_
          refine z_goto hX 51 dX3_binds_47 (by decide) ?_
          refine z_istore_n (lv' := [(3, .int 1), (0, .ref (zB X + h)), (1, .int v1), (2, .int v2), (4, .int v4)]) hX dX3_binds_51 hn (by decide) rfl ?_
          refine z_iincc (lv' := [(4, .int (v4 + 1)), (3, .int 1), (0, .ref (zB X + h)), (1, .int v1), (2, .int v2)]) hX dX3_binds_52 hn (by decide) 4 rfl ci_1 rfl ?_
          refine z_goto hX 5 dX3_binds_55 (by decide) ?_
          refine zW.sub [2, 3, 4, 1, 0] rfl ?_
          exact ih 1 (v4 + 1) hf
        · replace hf := zif_pos h3 hf
          refine z_aload_n hX dX3_binds_35 0 rfl ?_
          refine gf_Mail_kinds hX hkh q170 dX3_binds_36 ?_
          refine z_iload hX dX3_binds_39 4 rfl ?_
          replace hf := zchk_some hf
          obtain ⟨h4, hf⟩ := hf
          refine z_iald hX (zk_Mail_kinds hkh) (by decide) (zc_1024 _ _ _) h4 dX3_binds_41 ?_
          refine z_iload_n hX dX3_binds_42 1 rfl ?_
          refine z_icmp_ne hX 50 dX3_binds_43 (by decide) (fun h5 => ?_) (fun h5 => ?_)
          · replace hf := zif_neg h5 hf
            refine z_iconst hX dX3_binds_50 ci_0 ?_
            refine z_istore_n (lv' := [(3, .int 0), (0, .ref (zB X + h)), (1, .int v1), (2, .int v2), (4, .int v4)]) hX dX3_binds_51 hn (by decide) rfl ?_
            refine z_iincc (lv' := [(4, .int (v4 + 1)), (3, .int 0), (0, .ref (zB X + h)), (1, .int v1), (2, .int v2)]) hX dX3_binds_52 hn (by decide) 4 rfl ci_1 rfl ?_
            refine z_goto hX 5 dX3_binds_55 (by decide) ?_
            refine zW.sub [2, 3, 4, 1, 0] rfl ?_
            exact ih 0 (v4 + 1) hf
          · replace hf := zif_pos h5 hf
            refine z_iconst hX dX3_binds_46 ci_1 ?_
            refine z_goto hX 51 dX3_binds_47 (by decide) ?_
            refine z_istore_n (lv' := [(3, .int 1), (0, .ref (zB X + h)), (1, .int v1), (2, .int v2), (4, .int v4)]) hX dX3_binds_51 hn (by decide) rfl ?_
            refine z_iincc (lv' := [(4, .int (v4 + 1)), (3, .int 1), (0, .ref (zB X + h)), (1, .int v1), (2, .int v2)]) hX dX3_binds_52 hn (by decide) 4 rfl ci_1 rfl ?_
            refine z_goto hX 5 dX3_binds_55 (by decide) ?_
            refine zW.sub [2, 3, 4, 1, 0] rfl ?_
            exact ih 1 (v4 + 1) hf
      · refine z_if_eq hX 31 dX3_binds_15 (by decide) (fun h6 => ?_) (fun h6 => ?_)
        · replace hf := zif_pos h6 hf
          exact hk31 hf
        · replace hf := zif_neg h6 hf
          refine z_aload_n hX dX3_binds_18 0 rfl ?_
          refine gf_Mail_kinds hX hkh q170 dX3_binds_19 ?_
          refine z_iload hX dX3_binds_22 4 rfl ?_
          replace hf := zchk_some hf
          obtain ⟨h7, hf⟩ := hf
          refine z_iald hX (zk_Mail_kinds hkh) (by decide) (zc_1024 _ _ _) h7 dX3_binds_24 ?_
          refine z_iload_n hX dX3_binds_25 2 rfl ?_
          refine z_icmp_ne hX 31 dX3_binds_26 (by decide) (fun h8 => ?_) (fun h8 => ?_)
          · replace hf := zif_neg h8 hf
            exact hk31 hf
          · replace hf := zif_pos h8 hf
            refine z_iconst hX dX3_binds_29 ci_1 ?_
            obtain rfl := Option.some.inj hf
            exact z_iret hX hr (zbn (Or.inr rfl)) (zl rfl) (zl rfl) dX3_binds_30
set_option maxHeartbeats 4000000 in
set_option maxRecDepth 100000 in
theorem fX3_binds_ok {X : zX} (hX : zCX X cX3_binds RX3) (hT : zNT X) (hR : X.2.2.2.1 = zrm 0 0) (hr : X.2.2.2.2.2.2.2.2.1.sig.returnType = (some .boolean)) (hn : X.2.2.2.2.2.2.2.2.2.1.maxLocals = 5) {h : Nat} {v1 : Int32} {v2 : Int32} (hkh : zK h = 3) {g : zM} {r : Int32} (hf : fX3_binds h v1 v2 g = some r) : zW X (zQ X (.inl (some (.int r), g)) 0) 0 0 0 [(0, .ref (zB X + h)), (1, .int v1), (2, .int v2)] [] g := by
  unfold fX3_binds at hf
  refine z_iconst hX dX3_binds_0 ci_0 ?_
  refine z_istore_n (lv' := [(3, .int 0), (0, .ref (zB X + h)), (1, .int v1), (2, .int v2)]) hX dX3_binds_1 hn (by decide) rfl ?_
  refine z_iconst hX dX3_binds_2 ci_0 ?_
  refine z_istore (lv' := [(4, .int 0), (3, .int 0), (0, .ref (zB X + h)), (1, .int v1), (2, .int v2)]) hX dX3_binds_3 hn (by decide) rfl ?_
  refine zW.sub [2, 3, 4, 1, 0] rfl ?_
  exact fX3_binds_L5_ok hX hT hR hr hn hkh zFU 0 0 hf
set_option maxHeartbeats 4000000 in
set_option maxRecDepth 100000 in
theorem ct_X3_binds {E : zE} {h : Nat} {v1 : Int32} {v2 : Int32} (hkh : zK h = 3) {g : zM} {r : Int32} (hf : fX3_binds h v1 v2 g = some r) : zCt yX3_binds cX3_binds 5 (some .boolean) 0 0 E [.ref (E.1 + h), .int v1, .int v2] g (.inl (some (.int r), g)) := by
  refine zmet (by decide) (zl rfl) (fun X hE hX hT hR hr hn => ?_)
  subst hE
  exact fX3_binds_ok hX hT hR hr hn hkh hf
def fX10_binding_L4 (h : Nat) (r1 : Nat) (g : zM) : Nat → Int32 → Int32 → Option Int32
  | 0, _, _ => none
  | n + 1, v2, v3 => if (g h 5) ≤ v3 then some v2 else zchk v3 8 (zchk v3 8 (zb (fX3_binds r1 (g (h + 35) v3.toNatClampNeg) (g (h + 36) v3.toNatClampNeg) g) (fun r_4 => if r_4 = 0 then fX10_binding_L4 h r1 g n v2 (v3 + 1) else fX10_binding_L4 h r1 g n (v2 ||| ((1 : Int32) <<< (v3 &&& 31))) (v3 + 1))))
def fX10_binding (h : Nat) (r1 : Nat) (g : zM) : Option Int32 := fX10_binding_L4 h r1 g zFU 0 0
set_option maxHeartbeats 4000000 in
set_option maxRecDepth 100000 in
theorem fX10_binding_L4_ok {X : zX} (hX : zCX X cX10_binding RX10) (hT : zNT X) (hR : X.2.2.2.1 = zrm 1 0) (hr : X.2.2.2.2.2.2.2.2.1.sig.returnType = (some .int)) (hn : X.2.2.2.2.2.2.2.2.2.1.maxLocals = 4) {h : Nat} {r1 : Nat} (hkh : zK h = 9) (hkr1 : zK r1 = 3) {g : zM} {r : Int32}  : ∀ (n : Nat) (v2 : Int32) (v3 : Int32), fX10_binding_L4 h r1 g n v2 v3 = some r → zW X (zQ X (.inl (some (.int r), g)) 0) 0 0 4 [(0, .ref (zB X + h)), (1, .ref (zB X + r1)), (2, .int v2), (3, .int v3)] [] g := by
  intro n
  induction n with
  | zero => intro v2 v3 hf; exact zno hf
  | succ n ih =>
    intro v2 v3 hf
    rw [fX10_binding_L4] at hf
    refine z_iload_n hX dX10_binding_4 3 rfl ?_
    refine z_aload_n hX dX10_binding_5 0 rfl ?_
    refine gf_World_promises hX hkh q279 dX10_binding_6 ?_
    refine z_icmp_ge hX 43 dX10_binding_9 (by decide) (fun h1 => ?_) (fun h1 => ?_)
    · replace hf := zif_pos h1 hf
      refine z_iload_n hX dX10_binding_43 2 rfl ?_
      obtain rfl := Option.some.inj hf
      exact z_iret hX hr rfl (zl rfl) (zl rfl) dX10_binding_44
    · replace hf := zif_neg h1 hf
      refine z_aload_n hX dX10_binding_12 1 rfl ?_
      refine z_aload_n hX dX10_binding_13 0 rfl ?_
      refine gf_World_firsts hX hkh q277 dX10_binding_14 ?_
      refine z_iload_n hX dX10_binding_17 3 rfl ?_
      replace hf := zchk_some hf
      obtain ⟨h2, hf⟩ := hf
      refine z_iald hX (zk_World_firsts hkh) (by decide) (zc_1008 _ _ _) h2 dX10_binding_18 ?_
      refine z_aload_n hX dX10_binding_19 0 rfl ?_
      refine gf_World_seconds hX hkh q278 dX10_binding_20 ?_
      refine z_iload_n hX dX10_binding_23 3 rfl ?_
      replace hf := zchk_some hf
      obtain ⟨h3, hf⟩ := hf
      refine z_iald hX (zk_World_seconds hkh) (by decide) (zc_1008 _ _ _) h3 dX10_binding_24 ?_
      replace hf := zb_some hf
      obtain ⟨r_4, h4, hf⟩ := hf
      refine z_callV1 hX ok_X3_binds q1330 q1331 q1332 (zrm_ok hR (by decide)) (ct_X3_binds hkr1 h4) (zrec_Mail hX hkr1) dX10_binding_25 rfl rfl ?_
      refine z_if_eq hX 37 dX10_binding_28 (by decide) (fun h5 => ?_) (fun h5 => ?_)
      · replace hf := zif_pos h5 hf
        refine z_iincc (lv' := [(3, .int (v3 + 1)), (0, .ref (zB X + h)), (1, .ref (zB X + r1)), (2, .int v2)]) hX dX10_binding_37 hn (by decide) 3 rfl ci_1 rfl ?_
        refine z_goto hX 4 dX10_binding_40 (by decide) ?_
        refine zW.sub [1, 2, 3, 0] rfl ?_
        exact ih v2 (v3 + 1) hf
      · replace hf := zif_neg h5 hf
        refine z_iload_n hX dX10_binding_31 2 rfl ?_
        refine z_iconst hX dX10_binding_32 ci_1 ?_
        refine z_iload_n hX dX10_binding_33 3 rfl ?_
        refine z_ishl hX dX10_binding_34 ?_
        refine z_ior hX dX10_binding_35 ?_
        refine z_istore_n (lv' := [(2, .int (v2 ||| ((1 : Int32) <<< (v3 &&& 31)))), (0, .ref (zB X + h)), (1, .ref (zB X + r1)), (3, .int v3)]) hX dX10_binding_36 hn (by decide) rfl ?_
        refine z_iincc (lv' := [(3, .int (v3 + 1)), (2, .int (v2 ||| ((1 : Int32) <<< (v3 &&& 31)))), (0, .ref (zB X + h)), (1, .ref (zB X + r1))]) hX dX10_binding_37 hn (by decide) 3 rfl ci_1 rfl ?_
        refine z_goto hX 4 dX10_binding_40 (by decide) ?_
        refine zW.sub [2, 3, 1, 0] rfl ?_
        exact ih (v2 ||| ((1 : Int32) <<< (v3 &&& 31))) (v3 + 1) hf
set_option maxHeartbeats 4000000 in
set_option maxRecDepth 100000 in
theorem fX10_binding_ok {X : zX} (hX : zCX X cX10_binding RX10) (hT : zNT X) (hR : X.2.2.2.1 = zrm 1 0) (hr : X.2.2.2.2.2.2.2.2.1.sig.returnType = (some .int)) (hn : X.2.2.2.2.2.2.2.2.2.1.maxLocals = 4) {h : Nat} {r1 : Nat} (hkh : zK h = 9) (hk1 : zK r1 = 3) {g : zM} {r : Int32} (hf : fX10_binding h r1 g = some r) : zW X (zQ X (.inl (some (.int r), g)) 0) 0 0 0 [(0, .ref (zB X + h)), (1, .ref (zB X + r1))] [] g := by
  unfold fX10_binding at hf
  refine z_iconst hX dX10_binding_0 ci_0 ?_
  refine z_istore_n (lv' := [(2, .int 0), (0, .ref (zB X + h)), (1, .ref (zB X + r1))]) hX dX10_binding_1 hn (by decide) rfl ?_
  refine z_iconst hX dX10_binding_2 ci_0 ?_
  refine z_istore_n (lv' := [(3, .int 0), (2, .int 0), (0, .ref (zB X + h)), (1, .ref (zB X + r1))]) hX dX10_binding_3 hn (by decide) rfl ?_
  refine zW.sub [2, 3, 1, 0] rfl ?_
  exact fX10_binding_L4_ok hX hT hR hr hn hkh hk1 zFU 0 0 hf
set_option maxHeartbeats 4000000 in
set_option maxRecDepth 100000 in
theorem ct_X10_binding {E : zE} {h : Nat} {r1 : Nat} (hkh : zK h = 9) (hk1 : zK r1 = 3) {g : zM} {r : Int32} (hf : fX10_binding h r1 g = some r) : zCt yX10_binding cX10_binding 4 (some .int) 1 0 E [.ref (E.1 + h), .ref (E.1 + r1)] g (.inl (some (.int r), g)) := by
  refine zmet (by decide) (zl rfl) (fun X hE hX hT hR hr hn => ?_)
  subst hE
  exact fX10_binding_ok hX hT hR hr hn hkh hk1 hf
def fX11_bound (v1 : Int32) (v2 : Int32) (g : zM) : Option (Except Nat Int32 × zM) := zb3 (fX11_mailOf v1 g) (fun r_1 g1 => zb3 (fX11_needAhead v2 0 g1) (fun _ g2 => zb (fX7_look 446 r_1 (g2 3 2) g2) (fun g3 => zb (fX7_go 446 29 v2 g3) (fun g4 => zb (fX10_binding 2 447 g4) (fun r_5 => some (.ok r_5, g4))))))
set_option maxHeartbeats 4000000 in
set_option maxRecDepth 100000 in
theorem fX11_bound_ok {X : zX} (hX : zCX X cX11_bound RX11) (hT : zNT X) (hR : X.2.2.2.1 = zrm 7 2) (hr : X.2.2.2.2.2.2.2.2.1.sig.returnType = (some .int)) (hn : X.2.2.2.2.2.2.2.2.2.1.maxLocals = 4) {v1 : Int32} {v2 : Int32} {g : zM} {r : Except Nat Int32 × zM} (hf : fX11_bound v1 v2 g = some r) : zW X (zQ X (zoI r) 2) 0 0 0 [(0, .ref (zB X + 0)), (1, .int v1), (2, .int v2)] [] g := by
  unfold fX11_bound at hf
  refine z_aload_n hX dX11_bound_0 0 rfl ?_
  refine z_iload_n hX dX11_bound_1 1 rfl ?_
  replace hf := zb3_some hf
  rcases hf with ⟨c1, g1, h1, rfl⟩ | ⟨r_1, g1, h1, hf⟩
  · exact z_callV_x hX hT ok_X11_mailOf q974 q976 q25 (zrm_ok hR (by decide)) (ct_X11_mailOf  h1) (zrec_Post hX zq_0) dX11_bound_2 rfl rfl (zl rfl) (zl rfl)
  refine z_callV1 hX ok_X11_mailOf q974 q976 q25 (zrm_ok hR (by decide)) (ct_X11_mailOf  h1) (zrec_Post hX zq_0) dX11_bound_2 rfl rfl ?_
  refine z_astore_n (lv' := [(3, .ref (zB X + r_1)), (0, .ref (zB X + 0)), (1, .int v1), (2, .int v2)]) hX dX11_bound_5 hn (by decide) rfl ?_
  refine z_iload_n hX dX11_bound_6 3 rfl ?_
  refine z_iconst hX dX11_bound_7 ci_0 ?_
  replace hf := zb3_some hf
  rcases hf with ⟨c2, g2, h2, rfl⟩ | ⟨r_2, g2, h2, hf⟩
  · exact z_callS_x hX hT ok_X11_needAhead rfl q1195 q1196 (zrm_ok hR (by decide)) (ct_X11_needAhead  h2) dX11_bound_8 rfl rfl (zl rfl) (zl rfl)
  refine z_callS0 hX ok_X11_needAhead rfl q1195 q1196 (zrm_ok hR (by decide)) (ct_X11_needAhead  h2) dX11_bound_8 rfl rfl ?_
  refine z_aload_n hX dX11_bound_11 1 rfl ?_
  refine gf_Post_sight hX zq_0 q445 dX11_bound_12 ?_
  refine z_aload_n hX dX11_bound_15 0 rfl ?_
  refine z_aload_n hX dX11_bound_16 1 rfl ?_
  refine gf_Post_now hX zq_0 q439 dX11_bound_17 ?_
  refine gf_World_bag_N hX zq_2 qn273 dX11_bound_20 ?_
  refine gf_Bag_week_N hX zq_3 qn219 dX11_bound_23 ?_
  replace hf := zb_some hf
  obtain ⟨g3, h3, hf⟩ := hf
  refine z_callV0 hX ok_X7_look q506 q507 q508 (zrm_ok hR (by decide)) (ct_X7_look zq_446 (fk_X11_mailOf  h1) h3) (zrec_Sight hX zq_446) dX11_bound_26 rfl rfl ?_
  refine z_aload_n hX dX11_bound_29 1 rfl ?_
  refine gf_Post_sight hX zq_0 q445 dX11_bound_30 ?_
  refine z_aload_n hX dX11_bound_33 1 rfl ?_
  refine gf_Post_now hX zq_0 q439 dX11_bound_34 ?_
  refine gf_World_law_N hX zq_2 qn275 dX11_bound_37 ?_
  refine z_iload_n hX dX11_bound_40 3 rfl ?_
  replace hf := zb_some hf
  obtain ⟨g4, h4, hf⟩ := hf
  refine z_callV0 hX ok_X7_go q1200 q1201 q1202 (zrm_ok hR (by decide)) (ct_X7_go zq_446 zq_29 h4) (zrec_Sight hX zq_446) dX11_bound_41 rfl rfl ?_
  refine z_aload_n hX dX11_bound_44 1 rfl ?_
  refine gf_Post_now hX zq_0 q439 dX11_bound_45 ?_
  refine z_aload_n hX dX11_bound_48 1 rfl ?_
  refine gf_Post_sight hX zq_0 q445 dX11_bound_49 ?_
  refine gf_Sight_mail_N hX zq_446 qn404 dX11_bound_52 ?_
  replace hf := zb_some hf
  obtain ⟨r_5, h5, hf⟩ := hf
  refine z_callV1 hX ok_X10_binding q1326 q1327 q1328 (zrm_ok hR (by decide)) (ct_X10_binding zq_2 zq_447 h5) (zrec_World hX zq_2) dX11_bound_55 rfl rfl ?_
  obtain rfl := Option.some.inj hf
  exact z_iret hX hr rfl (zl rfl) (zl rfl) dX11_bound_58
set_option maxHeartbeats 4000000 in
set_option maxRecDepth 100000 in
theorem ct_X11_bound {E : zE} {v1 : Int32} {v2 : Int32} {g : zM} {r : Except Nat Int32 × zM} (hf : fX11_bound v1 v2 g = some r) : zCt yX11_bound cX11_bound 4 (some .int) 7 2 E [.ref (E.1 + 0), .int v1, .int v2] g (zoI r) := by
  refine zmet (by decide) (zl rfl) (fun X hE hX hT hR hr hn => ?_)
  subst hE
  exact fX11_bound_ok hX hT hR hr hn  hf
def fX11_firstBinding_L20 (v2 : Int32) : Nat → Int32 → zM → Option (Int32 × zM)
  | 0, _, _ => none
  | n + 1, v3, g => if 40 < v3 then some ((-1), g) else zb (fX10_binding 2 447 g) (fun r_3 => if ((r_3 >>> (v2 &&& 31)) &&& 1) = 1 then some (v3, g) else zb (fX7_goWeek 446 29 g) (fun g5 => fX11_firstBinding_L20 v2 n (v3 + 1) g5))
def fX11_firstBinding (r1 : Nat) (v2 : Int32) (g : zM) : Option (Int32 × zM) := zb (fX7_look 446 r1 (g 3 2) g) (fun g1 => fX11_firstBinding_L20 v2 zFU 0 g1)
set_option maxHeartbeats 4000000 in
set_option maxRecDepth 100000 in
theorem fX11_firstBinding_L20_ok {X : zX} (hX : zCX X cX11_firstBinding RX11) (hT : zNT X) (hR : X.2.2.2.1 = zrm 7 0) (hr : X.2.2.2.2.2.2.2.2.1.sig.returnType = (some .int)) (hn : X.2.2.2.2.2.2.2.2.2.1.maxLocals = 4) {v2 : Int32} {r : Int32 × zM}  : ∀ (n : Nat) (v3 : Int32) (g : zM), fX11_firstBinding_L20 v2 n v3 g = some r → zW X (zQ X (.inl (some (.int r.1), r.2)) 0) 0 0 20 [(0, .ref (zB X + 0)), (2, .int v2), (3, .int v3)] [] g := by
  intro n
  induction n with
  | zero => intro v3 g hf; exact zno hf
  | succ n ih =>
    intro v3 g hf
    rw [fX11_firstBinding_L20] at hf
    refine z_iload_n hX dX11_firstBinding_20 2 rfl ?_
    refine z_bipush hX dX11_firstBinding_21 cb_40 ?_
    refine z_icmp_gt hX 70 dX11_firstBinding_23 (by decide) (fun h2 => ?_) (fun h2 => ?_)
    · replace hf := zif_pos h2 hf
      refine z_iconst hX dX11_firstBinding_70 ci_m1 ?_
      obtain rfl := Option.some.inj hf
      exact z_iret hX hr rfl (zl rfl) (zl rfl) dX11_firstBinding_71
    · replace hf := zif_neg h2 hf
      refine z_aload_n hX dX11_firstBinding_26 0 rfl ?_
      refine gf_Post_now hX zq_0 q439 dX11_firstBinding_27 ?_
      refine z_aload_n hX dX11_firstBinding_30 0 rfl ?_
      refine gf_Post_sight hX zq_0 q445 dX11_firstBinding_31 ?_
      refine gf_Sight_mail_N hX zq_446 qn404 dX11_firstBinding_34 ?_
      replace hf := zb_some hf
      obtain ⟨r_3, h3, hf⟩ := hf
      refine z_callV1 hX ok_X10_binding q1326 q1327 q1328 (zrm_ok hR (by decide)) (ct_X10_binding zq_2 zq_447 h3) (zrec_World hX zq_2) dX11_firstBinding_37 rfl rfl ?_
      refine z_iload_n hX dX11_firstBinding_40 1 rfl ?_
      refine z_ishr hX dX11_firstBinding_41 ?_
      refine z_iconst hX dX11_firstBinding_42 ci_1 ?_
      refine z_iand hX dX11_firstBinding_43 ?_
      refine z_iconst hX dX11_firstBinding_44 ci_1 ?_
      refine z_icmp_ne hX 50 dX11_firstBinding_45 (by decide) (fun h4 => ?_) (fun h4 => ?_)
      · replace hf := zif_neg h4 hf
        refine z_aload_n hX dX11_firstBinding_50 0 rfl ?_
        refine gf_Post_sight hX zq_0 q445 dX11_firstBinding_51 ?_
        refine z_aload_n hX dX11_firstBinding_54 0 rfl ?_
        refine gf_Post_now hX zq_0 q439 dX11_firstBinding_55 ?_
        refine gf_World_law_N hX zq_2 qn275 dX11_firstBinding_58 ?_
        replace hf := zb_some hf
        obtain ⟨g5, h5, hf⟩ := hf
        refine z_callV0 hX ok_X7_goWeek q525 q526 q527 (zrm_ok hR (by decide)) (ct_X7_goWeek zq_446 zq_29 h5) (zrec_Sight hX zq_446) dX11_firstBinding_61 rfl rfl ?_
        refine z_iincc (lv' := [(3, .int (v3 + 1)), (0, .ref (zB X + 0)), (2, .int v2)]) hX dX11_firstBinding_64 hn (by decide) 2 rfl ci_1 rfl ?_
        refine z_goto hX 20 dX11_firstBinding_67 (by decide) ?_
        refine zW.sub [1, 2, 0] rfl ?_
        exact ih (v3 + 1) g5 hf
      · replace hf := zif_pos h4 hf
        refine z_iload_n hX dX11_firstBinding_48 2 rfl ?_
        obtain rfl := Option.some.inj hf
        exact z_iret hX hr rfl (zl rfl) (zl rfl) dX11_firstBinding_49
set_option maxHeartbeats 4000000 in
set_option maxRecDepth 100000 in
theorem fX11_firstBinding_ok {X : zX} (hX : zCX X cX11_firstBinding RX11) (hT : zNT X) (hR : X.2.2.2.1 = zrm 7 0) (hr : X.2.2.2.2.2.2.2.2.1.sig.returnType = (some .int)) (hn : X.2.2.2.2.2.2.2.2.2.1.maxLocals = 4) {r1 : Nat} {v2 : Int32} (hk1 : zK r1 = 3) {g : zM} {r : Int32 × zM} (hf : fX11_firstBinding r1 v2 g = some r) : zW X (zQ X (.inl (some (.int r.1), r.2)) 0) 0 0 0 [(0, .ref (zB X + 0)), (1, .ref (zB X + r1)), (2, .int v2)] [] g := by
  unfold fX11_firstBinding at hf
  refine z_aload_n hX dX11_firstBinding_0 0 rfl ?_
  refine gf_Post_sight hX zq_0 q445 dX11_firstBinding_1 ?_
  refine z_aload_n hX dX11_firstBinding_4 1 rfl ?_
  refine z_aload_n hX dX11_firstBinding_5 0 rfl ?_
  refine gf_Post_now hX zq_0 q439 dX11_firstBinding_6 ?_
  refine gf_World_bag_N hX zq_2 qn273 dX11_firstBinding_9 ?_
  refine gf_Bag_week_N hX zq_3 qn219 dX11_firstBinding_12 ?_
  replace hf := zb_some hf
  obtain ⟨g1, h1, hf⟩ := hf
  refine z_callV0 hX ok_X7_look q506 q507 q508 (zrm_ok hR (by decide)) (ct_X7_look zq_446 hk1 h1) (zrec_Sight hX zq_446) dX11_firstBinding_15 rfl rfl ?_
  refine z_iconst hX dX11_firstBinding_18 ci_0 ?_
  refine z_istore_n (lv' := [(3, .int 0), (0, .ref (zB X + 0)), (1, .ref (zB X + r1)), (2, .int v2)]) hX dX11_firstBinding_19 hn (by decide) rfl ?_
  refine zW.sub [1, 3, 0] rfl ?_
  exact fX11_firstBinding_L20_ok hX hT hR hr hn  zFU 0 g1 hf
set_option maxHeartbeats 4000000 in
set_option maxRecDepth 100000 in
theorem ct_X11_firstBinding {E : zE} {r1 : Nat} {v2 : Int32} (hk1 : zK r1 = 3) {g : zM} {r : Int32 × zM} (hf : fX11_firstBinding r1 v2 g = some r) : zCt yX11_firstBinding cX11_firstBinding 4 (some .int) 7 0 E [.ref (E.1 + 0), .ref (E.1 + r1), .int v2] g (.inl (some (.int r.1), r.2)) := by
  refine zmet (by decide) (zl rfl) (fun X hE hX hT hR hr hn => ?_)
  subst hE
  exact fX11_firstBinding_ok hX hT hR hr hn hk1 hf
def fX11_when (v1 : Int32) (v2 : Int32) (g : zM) : Option (Except Nat Int32 × zM) := zb3 (fX11_mailOf v1 g) (fun r_1 g1 => zb3 (fX11_needPromise v2 g1) (fun _ g2 => zb2 (fX11_firstBinding r_1 v2 g2) (fun r_3 g3 => some (.ok r_3, g3))))
set_option maxHeartbeats 4000000 in
set_option maxRecDepth 100000 in
theorem fX11_when_ok {X : zX} (hX : zCX X cX11_when RX11) (hT : zNT X) (hR : X.2.2.2.1 = zrm 8 2) (hr : X.2.2.2.2.2.2.2.2.1.sig.returnType = (some .int)) (hn : X.2.2.2.2.2.2.2.2.2.1.maxLocals = 4) {v1 : Int32} {v2 : Int32} {g : zM} {r : Except Nat Int32 × zM} (hf : fX11_when v1 v2 g = some r) : zW X (zQ X (zoI r) 2) 0 0 0 [(0, .ref (zB X + 0)), (1, .int v1), (2, .int v2)] [] g := by
  unfold fX11_when at hf
  refine z_aload_n hX dX11_when_0 0 rfl ?_
  refine z_iload_n hX dX11_when_1 1 rfl ?_
  replace hf := zb3_some hf
  rcases hf with ⟨c1, g1, h1, rfl⟩ | ⟨r_1, g1, h1, hf⟩
  · exact z_callV_x hX hT ok_X11_mailOf q974 q976 q25 (zrm_ok hR (by decide)) (ct_X11_mailOf  h1) (zrec_Post hX zq_0) dX11_when_2 rfl rfl (zl rfl) (zl rfl)
  refine z_callV1 hX ok_X11_mailOf q974 q976 q25 (zrm_ok hR (by decide)) (ct_X11_mailOf  h1) (zrec_Post hX zq_0) dX11_when_2 rfl rfl ?_
  refine z_astore_n (lv' := [(3, .ref (zB X + r_1)), (0, .ref (zB X + 0)), (1, .int v1), (2, .int v2)]) hX dX11_when_5 hn (by decide) rfl ?_
  refine z_aload_n hX dX11_when_6 1 rfl ?_
  refine z_iload_n hX dX11_when_7 3 rfl ?_
  replace hf := zb3_some hf
  rcases hf with ⟨c2, g2, h2, rfl⟩ | ⟨r_2, g2, h2, hf⟩
  · exact z_callV_x hX hT ok_X11_needPromise q1050 q1052 q27 (zrm_ok hR (by decide)) (ct_X11_needPromise  h2) (zrec_Post hX zq_0) dX11_when_8 rfl rfl (zl rfl) (zl rfl)
  refine z_callV0 hX ok_X11_needPromise q1050 q1052 q27 (zrm_ok hR (by decide)) (ct_X11_needPromise  h2) (zrec_Post hX zq_0) dX11_when_8 rfl rfl ?_
  refine z_aload_n hX dX11_when_11 1 rfl ?_
  refine z_aload_n hX dX11_when_12 0 rfl ?_
  refine z_iload_n hX dX11_when_13 3 rfl ?_
  replace hf := zb2_some hf
  obtain ⟨r_3, g3, h3, hf⟩ := hf
  refine z_callV1 hX ok_X11_firstBinding q1341 q1343 q31 (zrm_ok hR (by decide)) (ct_X11_firstBinding (fk_X11_mailOf  h1) h3) (zrec_Post hX zq_0) dX11_when_14 rfl rfl ?_
  obtain rfl := Option.some.inj hf
  exact z_iret hX hr rfl (zl rfl) (zl rfl) dX11_when_17
set_option maxHeartbeats 4000000 in
set_option maxRecDepth 100000 in
theorem ct_X11_when {E : zE} {v1 : Int32} {v2 : Int32} {g : zM} {r : Except Nat Int32 × zM} (hf : fX11_when v1 v2 g = some r) : zCt yX11_when cX11_when 4 (some .int) 8 2 E [.ref (E.1 + 0), .int v1, .int v2] g (zoI r) := by
  refine zmet (by decide) (zl rfl) (fun X hE hX hT hR hr hn => ?_)
  subst hE
  exact fX11_when_ok hX hT hR hr hn  hf
def fX11_soonest_L13 (v1 : Int32) : Nat → Int32 → Int32 → Int32 → zM → Option (Except Nat Int32 × zM)
  | 0, _, _, _, _ => none
  | n + 1, v2, v3, v4, g => if (g 3 1) ≤ v4 then some (.ok v3, g) else zchk v4 8 (zb2 (fX11_firstBinding (4 + 1 + 3 * v4.toNatClampNeg) v1 g) (fun r_4 g4 => if r_4 = ((-1)) then fX11_soonest_L13 v1 n v2 v3 (v4 + 1) g4 else if v2 ≤ r_4 then fX11_soonest_L13 v1 n v2 v3 (v4 + 1) g4 else fX11_soonest_L13 v1 n r_4 v4 (v4 + 1) g4))
def fX11_soonest (v1 : Int32) (g : zM) : Option (Except Nat Int32 × zM) := zb3 (fX11_needPromise v1 g) (fun _ g1 => fX11_soonest_L13 v1 zFU 41 ((-1)) 0 g1)
set_option maxHeartbeats 4000000 in
set_option maxRecDepth 100000 in
theorem fX11_soonest_L13_ok {X : zX} (hX : zCX X cX11_soonest RX11) (hT : zNT X) (hR : X.2.2.2.1 = zrm 8 1) (hr : X.2.2.2.2.2.2.2.2.1.sig.returnType = (some .int)) (hn : X.2.2.2.2.2.2.2.2.2.1.maxLocals = 6) {v1 : Int32} {r : Except Nat Int32 × zM}  : ∀ (n : Nat) (v2 : Int32) (v3 : Int32) (v4 : Int32) (g : zM), fX11_soonest_L13 v1 n v2 v3 v4 g = some r → zW X (zQ X (zoI r) 1) 1 6 13 [(0, .ref (zB X + 0)), (1, .int v1), (2, .int v2), (3, .int v3), (4, .int v4)] [] g := by
  intro n
  induction n with
  | zero => intro v2 v3 v4 g hf; exact zno hf
  | succ n ih =>
    intro v2 v3 v4 g hf
    rw [fX11_soonest_L13] at hf
    refine z_iload hX dX11_soonest_13 4 rfl ?_
    refine z_aload_n hX dX11_soonest_15 0 rfl ?_
    refine gf_Post_now hX zq_0 q439 dX11_soonest_16 ?_
    refine gf_World_bag_N hX zq_2 qn273 dX11_soonest_19 ?_
    refine gf_Bag_size_N hX zq_3 qn216 dX11_soonest_22 ?_
    refine z_icmp_ge hX 72 dX11_soonest_25 (by decide) (fun h2 => ?_) (fun h2 => ?_)
    · replace hf := zif_pos h2 hf
      refine z_iload_n hX dX11_soonest_72 3 rfl ?_
      obtain rfl := Option.some.inj hf
      exact z_iret hX hr rfl (zl rfl) (zl rfl) dX11_soonest_73
    · replace hf := zif_neg h2 hf
      refine z_aload_n hX dX11_soonest_28 0 rfl ?_
      refine z_aload_n hX dX11_soonest_29 0 rfl ?_
      refine gf_Post_now hX zq_0 q439 dX11_soonest_30 ?_
      refine gf_World_bag_N hX zq_2 qn273 dX11_soonest_33 ?_
      refine gf_Bag_mails_N hX zq_3 qn213 dX11_soonest_36 ?_
      refine z_iload hX dX11_soonest_39 4 rfl ?_
      replace hf := zchk_some hf
      obtain ⟨h3, hf⟩ := hf
      refine z_aald_mail hX zq_4 h3 dX11_soonest_41 ?_
      refine z_iload_n hX dX11_soonest_42 1 rfl ?_
      replace hf := zb2_some hf
      obtain ⟨r_4, g4, h4, hf⟩ := hf
      refine z_callV1 hX ok_X11_firstBinding q1341 q1343 q31 (zrm_ok hR (by decide)) (ct_X11_firstBinding (zk_el22 zq_4 h3) h4) (zrec_Post hX zq_0) dX11_soonest_43 rfl rfl ?_
      refine z_istore (lv' := [(5, .int r_4), (0, .ref (zB X + 0)), (1, .int v1), (2, .int v2), (3, .int v3), (4, .int v4)]) hX dX11_soonest_46 hn (by decide) rfl ?_
      refine z_iload hX dX11_soonest_48 0 rfl ?_
      refine z_iconst hX dX11_soonest_50 ci_m1 ?_
      refine z_icmp_eq hX 66 dX11_soonest_51 (by decide) (fun h5 => ?_) (fun h5 => ?_)
      · replace hf := zif_pos h5 hf
        refine z_iincc (lv' := [(4, .int (v4 + 1)), (5, .int r_4), (0, .ref (zB X + 0)), (1, .int v1), (2, .int v2), (3, .int v3)]) hX dX11_soonest_66 hn (by decide) 5 rfl ci_1 rfl ?_
        refine z_goto hX 13 dX11_soonest_69 (by decide) ?_
        refine zW.sub [2, 3, 4, 5, 0] rfl ?_
        exact ih v2 v3 (v4 + 1) g4 hf
      · replace hf := zif_neg h5 hf
        refine z_iload hX dX11_soonest_54 0 rfl ?_
        refine z_iload_n hX dX11_soonest_56 3 rfl ?_
        refine z_icmp_ge hX 66 dX11_soonest_57 (by decide) (fun h6 => ?_) (fun h6 => ?_)
        · replace hf := zif_pos h6 hf
          refine z_iincc (lv' := [(4, .int (v4 + 1)), (5, .int r_4), (0, .ref (zB X + 0)), (1, .int v1), (2, .int v2), (3, .int v3)]) hX dX11_soonest_66 hn (by decide) 5 rfl ci_1 rfl ?_
          refine z_goto hX 13 dX11_soonest_69 (by decide) ?_
          refine zW.sub [2, 3, 4, 5, 0] rfl ?_
          exact ih v2 v3 (v4 + 1) g4 hf
        · replace hf := zif_neg h6 hf
          refine z_iload hX dX11_soonest_60 0 rfl ?_
          refine z_istore_n (lv' := [(2, .int r_4), (5, .int r_4), (0, .ref (zB X + 0)), (1, .int v1), (3, .int v3), (4, .int v4)]) hX dX11_soonest_62 hn (by decide) rfl ?_
          refine z_iload hX dX11_soonest_63 5 rfl ?_
          refine z_istore_n (lv' := [(3, .int v4), (2, .int r_4), (5, .int r_4), (0, .ref (zB X + 0)), (1, .int v1), (4, .int v4)]) hX dX11_soonest_65 hn (by decide) rfl ?_
          refine z_iincc (lv' := [(4, .int (v4 + 1)), (3, .int v4), (2, .int r_4), (5, .int r_4), (0, .ref (zB X + 0)), (1, .int v1)]) hX dX11_soonest_66 hn (by decide) 5 rfl ci_1 rfl ?_
          refine z_goto hX 13 dX11_soonest_69 (by decide) ?_
          refine zW.sub [4, 5, 2, 1, 0] rfl ?_
          exact ih r_4 v4 (v4 + 1) g4 hf
set_option maxHeartbeats 4000000 in
set_option maxRecDepth 100000 in
theorem fX11_soonest_ok {X : zX} (hX : zCX X cX11_soonest RX11) (hT : zNT X) (hR : X.2.2.2.1 = zrm 8 1) (hr : X.2.2.2.2.2.2.2.2.1.sig.returnType = (some .int)) (hn : X.2.2.2.2.2.2.2.2.2.1.maxLocals = 6) {v1 : Int32} {g : zM} {r : Except Nat Int32 × zM} (hf : fX11_soonest v1 g = some r) : zW X (zQ X (zoI r) 1) 0 0 0 [(0, .ref (zB X + 0)), (1, .int v1)] [] g := by
  unfold fX11_soonest at hf
  refine z_aload_n hX dX11_soonest_0 0 rfl ?_
  refine z_iload_n hX dX11_soonest_1 1 rfl ?_
  replace hf := zb3_some hf
  rcases hf with ⟨c1, g1, h1, rfl⟩ | ⟨r_1, g1, h1, hf⟩
  · exact z_callV_x hX hT ok_X11_needPromise q1050 q1052 q27 (zrm_ok hR (by decide)) (ct_X11_needPromise  h1) (zrec_Post hX zq_0) dX11_soonest_2 rfl rfl (zl rfl) (zl rfl)
  refine z_callV0 hX ok_X11_needPromise q1050 q1052 q27 (zrm_ok hR (by decide)) (ct_X11_needPromise  h1) (zrec_Post hX zq_0) dX11_soonest_2 rfl rfl ?_
  refine z_bipush hX dX11_soonest_5 cb_41 ?_
  refine z_istore_n (lv' := [(2, .int 41), (0, .ref (zB X + 0)), (1, .int v1)]) hX dX11_soonest_7 hn (by decide) rfl ?_
  refine z_iconst hX dX11_soonest_8 ci_m1 ?_
  refine z_istore_n (lv' := [(3, .int ((-1))), (2, .int 41), (0, .ref (zB X + 0)), (1, .int v1)]) hX dX11_soonest_9 hn (by decide) rfl ?_
  refine z_iconst hX dX11_soonest_10 ci_0 ?_
  refine z_istore (lv' := [(4, .int 0), (3, .int ((-1))), (2, .int 41), (0, .ref (zB X + 0)), (1, .int v1)]) hX dX11_soonest_11 hn (by decide) rfl ?_
  refine zW.sub [3, 4, 2, 1, 0] rfl ?_
  exact fX11_soonest_L13_ok hX hT hR hr hn  zFU 41 ((-1)) 0 g1 hf
set_option maxHeartbeats 4000000 in
set_option maxRecDepth 100000 in
theorem ct_X11_soonest {E : zE} {v1 : Int32} {g : zM} {r : Except Nat Int32 × zM} (hf : fX11_soonest v1 g = some r) : zCt yX11_soonest cX11_soonest 6 (some .int) 8 1 E [.ref (E.1 + 0), .int v1] g (zoI r) := by
  refine zmet (by decide) (zl rfl) (fun X hE hX hT hR hr hn => ?_)
  subst hE
  exact fX11_soonest_ok hX hT hR hr hn  hf
def fX11_spies_L4 (v1 : Int32) (g : zM) : Nat → Int32 → Int32 → Option Int32
  | 0, _, _ => none
  | n + 1, v2, v3 => if (g 3 1) ≤ v3 then some v2 else zchk v3 8 (zb (fX10_wordsIn 2 (4 + 1 + 3 * v3.toNatClampNeg) g) (fun r_3 => if r_3 = v1 then fX11_spies_L4 v1 g n (v2 ||| ((1 : Int32) <<< (v3 &&& 31))) (v3 + 1) else fX11_spies_L4 v1 g n v2 (v3 + 1)))
def fX11_spies (v1 : Int32) (g : zM) : Option Int32 := fX11_spies_L4 v1 g zFU 0 0
set_option maxHeartbeats 4000000 in
set_option maxRecDepth 100000 in
theorem fX11_spies_L4_ok {X : zX} (hX : zCX X cX11_spies RX11) (hT : zNT X) (hR : X.2.2.2.1 = zrm 2 0) (hr : X.2.2.2.2.2.2.2.2.1.sig.returnType = (some .int)) (hn : X.2.2.2.2.2.2.2.2.2.1.maxLocals = 4) {v1 : Int32} {g : zM} {r : Int32}  : ∀ (n : Nat) (v2 : Int32) (v3 : Int32), fX11_spies_L4 v1 g n v2 v3 = some r → zW X (zQ X (.inl (some (.int r), g)) 0) 0 0 4 [(0, .ref (zB X + 0)), (1, .int v1), (2, .int v2), (3, .int v3)] [] g := by
  intro n
  induction n with
  | zero => intro v2 v3 hf; exact zno hf
  | succ n ih =>
    intro v2 v3 hf
    rw [fX11_spies_L4] at hf
    refine z_iload_n hX dX11_spies_4 3 rfl ?_
    refine z_aload_n hX dX11_spies_5 0 rfl ?_
    refine gf_Post_now hX zq_0 q439 dX11_spies_6 ?_
    refine gf_World_bag_N hX zq_2 qn273 dX11_spies_9 ?_
    refine gf_Bag_size_N hX zq_3 qn216 dX11_spies_12 ?_
    refine z_icmp_ge hX 53 dX11_spies_15 (by decide) (fun h1 => ?_) (fun h1 => ?_)
    · replace hf := zif_pos h1 hf
      refine z_iload_n hX dX11_spies_53 2 rfl ?_
      obtain rfl := Option.some.inj hf
      exact z_iret hX hr rfl (zl rfl) (zl rfl) dX11_spies_54
    · replace hf := zif_neg h1 hf
      refine z_aload_n hX dX11_spies_18 0 rfl ?_
      refine gf_Post_now hX zq_0 q439 dX11_spies_19 ?_
      refine z_aload_n hX dX11_spies_22 0 rfl ?_
      refine gf_Post_now hX zq_0 q439 dX11_spies_23 ?_
      refine gf_World_bag_N hX zq_2 qn273 dX11_spies_26 ?_
      refine gf_Bag_mails_N hX zq_3 qn213 dX11_spies_29 ?_
      refine z_iload_n hX dX11_spies_32 3 rfl ?_
      replace hf := zchk_some hf
      obtain ⟨h2, hf⟩ := hf
      refine z_aald_mail hX zq_4 h2 dX11_spies_33 ?_
      replace hf := zb_some hf
      obtain ⟨r_3, h3, hf⟩ := hf
      refine z_callV1 hX ok_X10_wordsIn q575 q576 q577 (zrm_ok hR (by decide)) (ct_X10_wordsIn zq_2 (zk_el22 zq_4 h2) h3) (zrec_World hX zq_2) dX11_spies_34 rfl rfl ?_
      refine z_iload_n hX dX11_spies_37 1 rfl ?_
      refine z_icmp_ne hX 47 dX11_spies_38 (by decide) (fun h4 => ?_) (fun h4 => ?_)
      · replace hf := zif_neg h4 hf
        refine z_iincc (lv' := [(3, .int (v3 + 1)), (0, .ref (zB X + 0)), (1, .int v1), (2, .int v2)]) hX dX11_spies_47 hn (by decide) 3 rfl ci_1 rfl ?_
        refine z_goto hX 4 dX11_spies_50 (by decide) ?_
        refine zW.sub [1, 2, 3, 0] rfl ?_
        exact ih v2 (v3 + 1) hf
      · replace hf := zif_pos h4 hf
        refine z_iload_n hX dX11_spies_41 2 rfl ?_
        refine z_iconst hX dX11_spies_42 ci_1 ?_
        refine z_iload_n hX dX11_spies_43 3 rfl ?_
        refine z_ishl hX dX11_spies_44 ?_
        refine z_ior hX dX11_spies_45 ?_
        refine z_istore_n (lv' := [(2, .int (v2 ||| ((1 : Int32) <<< (v3 &&& 31)))), (0, .ref (zB X + 0)), (1, .int v1), (3, .int v3)]) hX dX11_spies_46 hn (by decide) rfl ?_
        refine z_iincc (lv' := [(3, .int (v3 + 1)), (2, .int (v2 ||| ((1 : Int32) <<< (v3 &&& 31)))), (0, .ref (zB X + 0)), (1, .int v1)]) hX dX11_spies_47 hn (by decide) 3 rfl ci_1 rfl ?_
        refine z_goto hX 4 dX11_spies_50 (by decide) ?_
        refine zW.sub [2, 3, 1, 0] rfl ?_
        exact ih (v2 ||| ((1 : Int32) <<< (v3 &&& 31))) (v3 + 1) hf
set_option maxHeartbeats 4000000 in
set_option maxRecDepth 100000 in
theorem fX11_spies_ok {X : zX} (hX : zCX X cX11_spies RX11) (hT : zNT X) (hR : X.2.2.2.1 = zrm 2 0) (hr : X.2.2.2.2.2.2.2.2.1.sig.returnType = (some .int)) (hn : X.2.2.2.2.2.2.2.2.2.1.maxLocals = 4) {v1 : Int32} {g : zM} {r : Int32} (hf : fX11_spies v1 g = some r) : zW X (zQ X (.inl (some (.int r), g)) 0) 0 0 0 [(0, .ref (zB X + 0)), (1, .int v1)] [] g := by
  unfold fX11_spies at hf
  refine z_iconst hX dX11_spies_0 ci_0 ?_
  refine z_istore_n (lv' := [(2, .int 0), (0, .ref (zB X + 0)), (1, .int v1)]) hX dX11_spies_1 hn (by decide) rfl ?_
  refine z_iconst hX dX11_spies_2 ci_0 ?_
  refine z_istore_n (lv' := [(3, .int 0), (2, .int 0), (0, .ref (zB X + 0)), (1, .int v1)]) hX dX11_spies_3 hn (by decide) rfl ?_
  refine zW.sub [2, 3, 1, 0] rfl ?_
  exact fX11_spies_L4_ok hX hT hR hr hn  zFU 0 0 hf
set_option maxHeartbeats 4000000 in
set_option maxRecDepth 100000 in
theorem ct_X11_spies {E : zE} {v1 : Int32} {g : zM} {r : Int32} (hf : fX11_spies v1 g = some r) : zCt yX11_spies cX11_spies 4 (some .int) 2 0 E [.ref (E.1 + 0), .int v1] g (.inl (some (.int r), g)) := by
  refine zmet (by decide) (zl rfl) (fun X hE hX hT hR hr hn => ?_)
  subst hE
  exact fX11_spies_ok hX hT hR hr hn  hf
def fX11_guess_L21 (v2 : Int32) (g : zM) : Nat → Int32 → Int32 → Option (Except Nat Int32 × zM)
  | 0, _, _ => none
  | n + 1, v3, v4 => if 12 ≤ v4 then some (.ok v3, g) else zb (fX10_wordsFor 2 v4 g) (fun r_5 => if r_5 = v2 then fX11_guess_L21 v2 g n (v3 ||| ((1 : Int32) <<< (v4 &&& 31))) (v4 + 1) else fX11_guess_L21 v2 g n v3 (v4 + 1))
def fX11_guess (v1 : Int32) (g : zM) : Option (Except Nat Int32 × zM) := zb3 (fX11_mailOf v1 g) (fun r_1 g1 => zb (fX3_lastKind r_1 g1) (fun r_2 => zb (fX10_wordsFor 2 r_2 g1) (fun r_3 => fX11_guess_L21 r_3 g1 zFU 0 0)))
set_option maxHeartbeats 4000000 in
set_option maxRecDepth 100000 in
theorem fX11_guess_L21_ok {X : zX} (hX : zCX X cX11_guess RX11) (hT : zNT X) (hR : X.2.2.2.1 = zrm 2 1) (hr : X.2.2.2.2.2.2.2.2.1.sig.returnType = (some .int)) (hn : X.2.2.2.2.2.2.2.2.2.1.maxLocals = 5) {v2 : Int32} {g : zM} {r : Except Nat Int32 × zM}  : ∀ (n : Nat) (v3 : Int32) (v4 : Int32), fX11_guess_L21 v2 g n v3 v4 = some r → zW X (zQ X (zoI r) 1) 1 6 21 [(0, .ref (zB X + 0)), (2, .int v2), (3, .int v3), (4, .int v4)] [] g := by
  intro n
  induction n with
  | zero => intro v3 v4 hf; exact zno hf
  | succ n ih =>
    intro v3 v4 hf
    rw [fX11_guess_L21] at hf
    refine z_iload hX dX11_guess_21 3 rfl ?_
    refine z_bipush hX dX11_guess_23 cb_12 ?_
    refine z_icmp_ge hX 54 dX11_guess_25 (by decide) (fun h4 => ?_) (fun h4 => ?_)
    · replace hf := zif_pos h4 hf
      refine z_iload_n hX dX11_guess_54 2 rfl ?_
      obtain rfl := Option.some.inj hf
      exact z_iret hX hr rfl (zl rfl) (zl rfl) dX11_guess_55
    · replace hf := zif_neg h4 hf
      refine z_aload_n hX dX11_guess_28 0 rfl ?_
      refine gf_Post_now hX zq_0 q439 dX11_guess_29 ?_
      refine z_iload hX dX11_guess_32 3 rfl ?_
      replace hf := zb_some hf
      obtain ⟨r_5, h5, hf⟩ := hf
      refine z_callV1 hX ok_X10_wordsFor q1042 q580 q581 (zrm_ok hR (by decide)) (ct_X10_wordsFor zq_2 h5) (zrec_World hX zq_2) dX11_guess_34 rfl rfl ?_
      refine z_iload_n hX dX11_guess_37 1 rfl ?_
      refine z_icmp_ne hX 48 dX11_guess_38 (by decide) (fun h6 => ?_) (fun h6 => ?_)
      · replace hf := zif_neg h6 hf
        refine z_iincc (lv' := [(4, .int (v4 + 1)), (0, .ref (zB X + 0)), (2, .int v2), (3, .int v3)]) hX dX11_guess_48 hn (by decide) 3 rfl ci_1 rfl ?_
        refine z_goto hX 21 dX11_guess_51 (by decide) ?_
        refine zW.sub [1, 2, 3, 0] rfl ?_
        exact ih v3 (v4 + 1) hf
      · replace hf := zif_pos h6 hf
        refine z_iload_n hX dX11_guess_41 2 rfl ?_
        refine z_iconst hX dX11_guess_42 ci_1 ?_
        refine z_iload hX dX11_guess_43 3 rfl ?_
        refine z_ishl hX dX11_guess_45 ?_
        refine z_ior hX dX11_guess_46 ?_
        refine z_istore_n (lv' := [(3, .int (v3 ||| ((1 : Int32) <<< (v4 &&& 31)))), (0, .ref (zB X + 0)), (2, .int v2), (4, .int v4)]) hX dX11_guess_47 hn (by decide) rfl ?_
        refine z_iincc (lv' := [(4, .int (v4 + 1)), (3, .int (v3 ||| ((1 : Int32) <<< (v4 &&& 31)))), (0, .ref (zB X + 0)), (2, .int v2)]) hX dX11_guess_48 hn (by decide) 3 rfl ci_1 rfl ?_
        refine z_goto hX 21 dX11_guess_51 (by decide) ?_
        refine zW.sub [2, 3, 1, 0] rfl ?_
        exact ih (v3 ||| ((1 : Int32) <<< (v4 &&& 31))) (v4 + 1) hf
set_option maxHeartbeats 4000000 in
set_option maxRecDepth 100000 in
theorem fX11_guess_ok {X : zX} (hX : zCX X cX11_guess RX11) (hT : zNT X) (hR : X.2.2.2.1 = zrm 2 1) (hr : X.2.2.2.2.2.2.2.2.1.sig.returnType = (some .int)) (hn : X.2.2.2.2.2.2.2.2.2.1.maxLocals = 5) {v1 : Int32} {g : zM} {r : Except Nat Int32 × zM} (hf : fX11_guess v1 g = some r) : zW X (zQ X (zoI r) 1) 0 0 0 [(0, .ref (zB X + 0)), (1, .int v1)] [] g := by
  unfold fX11_guess at hf
  refine z_aload_n hX dX11_guess_0 0 rfl ?_
  refine gf_Post_now hX zq_0 q439 dX11_guess_1 ?_
  refine z_aload_n hX dX11_guess_4 0 rfl ?_
  refine z_iload_n hX dX11_guess_5 1 rfl ?_
  replace hf := zb3_some hf
  rcases hf with ⟨c1, g1, h1, rfl⟩ | ⟨r_1, g1, h1, hf⟩
  · exact z_callV_x hX hT ok_X11_mailOf q974 q976 q25 (zrm_ok hR (by decide)) (ct_X11_mailOf  h1) (zrec_Post hX zq_0) dX11_guess_6 rfl rfl (zl rfl) (zl rfl)
  refine z_callV1 hX ok_X11_mailOf q974 q976 q25 (zrm_ok hR (by decide)) (ct_X11_mailOf  h1) (zrec_Post hX zq_0) dX11_guess_6 rfl rfl ?_
  replace hf := zb_some hf
  obtain ⟨r_2, h2, hf⟩ := hf
  refine z_callV1 hX ok_X3_lastKind q517 q518 q519 (zrm_ok hR (by decide)) (ct_X3_lastKind (fk_X11_mailOf  h1) h2) (zrec_Mail hX (fk_X11_mailOf  h1)) dX11_guess_9 rfl rfl ?_
  replace hf := zb_some hf
  obtain ⟨r_3, h3, hf⟩ := hf
  refine z_callV1 hX ok_X10_wordsFor q1042 q580 q581 (zrm_ok hR (by decide)) (ct_X10_wordsFor zq_2 h3) (zrec_World hX zq_2) dX11_guess_12 rfl rfl ?_
  refine z_istore_n (lv' := [(2, .int r_3), (0, .ref (zB X + 0)), (1, .int v1)]) hX dX11_guess_15 hn (by decide) rfl ?_
  refine z_iconst hX dX11_guess_16 ci_0 ?_
  refine z_istore_n (lv' := [(3, .int 0), (2, .int r_3), (0, .ref (zB X + 0)), (1, .int v1)]) hX dX11_guess_17 hn (by decide) rfl ?_
  refine z_iconst hX dX11_guess_18 ci_0 ?_
  refine z_istore (lv' := [(4, .int 0), (3, .int 0), (2, .int r_3), (0, .ref (zB X + 0)), (1, .int v1)]) hX dX11_guess_19 hn (by decide) rfl ?_
  refine zW.sub [3, 2, 1, 0] rfl ?_
  exact fX11_guess_L21_ok hX hT hR hr hn  zFU 0 0 hf
set_option maxHeartbeats 4000000 in
set_option maxRecDepth 100000 in
theorem ct_X11_guess {E : zE} {v1 : Int32} {g : zM} {r : Except Nat Int32 × zM} (hf : fX11_guess v1 g = some r) : zCt yX11_guess cX11_guess 5 (some .int) 2 1 E [.ref (E.1 + 0), .int v1] g (zoI r) := by
  refine zmet (by decide) (zl rfl) (fun X hE hX hT hR hr hn => ?_)
  subst hE
  exact fX11_guess_ok hX hT hR hr hn  hf
def fJ6_bitCount_0f7a4 (v0 : Int32) (g : zM) : Option Int32 := some ((((((((v0 - (((v0.toUInt32 >>> ((1 : Int32).toUInt32 &&& Int32.toUInt32 31)).toInt32) &&& 1431655765)) &&& 858993459) + ((((v0 - (((v0.toUInt32 >>> ((1 : Int32).toUInt32 &&& Int32.toUInt32 31)).toInt32) &&& 1431655765)).toUInt32 >>> ((2 : Int32).toUInt32 &&& Int32.toUInt32 31)).toInt32) &&& 858993459)) + (((((v0 - (((v0.toUInt32 >>> ((1 : Int32).toUInt32 &&& Int32.toUInt32 31)).toInt32) &&& 1431655765)) &&& 858993459) + ((((v0 - (((v0.toUInt32 >>> ((1 : Int32).toUInt32 &&& Int32.toUInt32 31)).toInt32) &&& 1431655765)).toUInt32 >>> ((2 : Int32).toUInt32 &&& Int32.toUInt32 31)).toInt32) &&& 858993459)).toUInt32 >>> ((4 : Int32).toUInt32 &&& Int32.toUInt32 31)).toInt32)) &&& 252645135) + (((((((v0 - (((v0.toUInt32 >>> ((1 : Int32).toUInt32 &&& Int32.toUInt32 31)).toInt32) &&& 1431655765)) &&& 858993459) + ((((v0 - (((v0.toUInt32 >>> ((1 : Int32).toUInt32 &&& Int32.toUInt32 31)).toInt32) &&& 1431655765)).toUInt32 >>> ((2 : Int32).toUInt32 &&& Int32.toUInt32 31)).toInt32) &&& 858993459)) + (((((v0 - (((v0.toUInt32 >>> ((1 : Int32).toUInt32 &&& Int32.toUInt32 31)).toInt32) &&& 1431655765)) &&& 858993459) + ((((v0 - (((v0.toUInt32 >>> ((1 : Int32).toUInt32 &&& Int32.toUInt32 31)).toInt32) &&& 1431655765)).toUInt32 >>> ((2 : Int32).toUInt32 &&& Int32.toUInt32 31)).toInt32) &&& 858993459)).toUInt32 >>> ((4 : Int32).toUInt32 &&& Int32.toUInt32 31)).toInt32)) &&& 252645135).toUInt32 >>> ((8 : Int32).toUInt32 &&& Int32.toUInt32 31)).toInt32)) + ((((((((v0 - (((v0.toUInt32 >>> ((1 : Int32).toUInt32 &&& Int32.toUInt32 31)).toInt32) &&& 1431655765)) &&& 858993459) + ((((v0 - (((v0.toUInt32 >>> ((1 : Int32).toUInt32 &&& Int32.toUInt32 31)).toInt32) &&& 1431655765)).toUInt32 >>> ((2 : Int32).toUInt32 &&& Int32.toUInt32 31)).toInt32) &&& 858993459)) + (((((v0 - (((v0.toUInt32 >>> ((1 : Int32).toUInt32 &&& Int32.toUInt32 31)).toInt32) &&& 1431655765)) &&& 858993459) + ((((v0 - (((v0.toUInt32 >>> ((1 : Int32).toUInt32 &&& Int32.toUInt32 31)).toInt32) &&& 1431655765)).toUInt32 >>> ((2 : Int32).toUInt32 &&& Int32.toUInt32 31)).toInt32) &&& 858993459)).toUInt32 >>> ((4 : Int32).toUInt32 &&& Int32.toUInt32 31)).toInt32)) &&& 252645135) + (((((((v0 - (((v0.toUInt32 >>> ((1 : Int32).toUInt32 &&& Int32.toUInt32 31)).toInt32) &&& 1431655765)) &&& 858993459) + ((((v0 - (((v0.toUInt32 >>> ((1 : Int32).toUInt32 &&& Int32.toUInt32 31)).toInt32) &&& 1431655765)).toUInt32 >>> ((2 : Int32).toUInt32 &&& Int32.toUInt32 31)).toInt32) &&& 858993459)) + (((((v0 - (((v0.toUInt32 >>> ((1 : Int32).toUInt32 &&& Int32.toUInt32 31)).toInt32) &&& 1431655765)) &&& 858993459) + ((((v0 - (((v0.toUInt32 >>> ((1 : Int32).toUInt32 &&& Int32.toUInt32 31)).toInt32) &&& 1431655765)).toUInt32 >>> ((2 : Int32).toUInt32 &&& Int32.toUInt32 31)).toInt32) &&& 858993459)).toUInt32 >>> ((4 : Int32).toUInt32 &&& Int32.toUInt32 31)).toInt32)) &&& 252645135).toUInt32 >>> ((8 : Int32).toUInt32 &&& Int32.toUInt32 31)).toInt32)).toUInt32 >>> ((16 : Int32).toUInt32 &&& Int32.toUInt32 31)).toInt32)) &&& 63)
set_option maxHeartbeats 4000000 in
set_option maxRecDepth 100000 in
theorem fJ6_bitCount_0f7a4_ok {X : zX} (hX : zCX X cJ6_bitCount_0f7a4 RJ6) (hT : zNT X) (hR : X.2.2.2.1 = zrm 0 0) (hr : X.2.2.2.2.2.2.2.2.1.sig.returnType = (some .int)) (hn : X.2.2.2.2.2.2.2.2.2.1.maxLocals = 1) {v0 : Int32} {g : zM} {r : Int32} (hf : fJ6_bitCount_0f7a4 v0 g = some r) : zW X (zQ X (.inl (some (.int r), g)) 0) 0 0 0 [(0, .int v0)] [] g := by
  unfold fJ6_bitCount_0f7a4 at hf
  refine z_iload_n hX dJ6_bitCount_0f7a4_0 0 rfl ?_
  refine z_iload_n hX dJ6_bitCount_0f7a4_1 0 rfl ?_
  refine z_iconst hX dJ6_bitCount_0f7a4_2 ci_1 ?_
  refine z_iushr hX dJ6_bitCount_0f7a4_3 ?_
  refine z_ldcw hX dJ6_bitCount_0f7a4_4 q1375 ?_
  refine z_iand hX dJ6_bitCount_0f7a4_7 ?_
  refine z_isub hX dJ6_bitCount_0f7a4_8 ?_
  refine z_istore_n (lv' := [(0, .int (v0 - (((v0.toUInt32 >>> ((1 : Int32).toUInt32 &&& Int32.toUInt32 31)).toInt32) &&& 1431655765)))]) hX dJ6_bitCount_0f7a4_9 hn (by decide) rfl ?_
  refine z_iload_n hX dJ6_bitCount_0f7a4_10 0 rfl ?_
  refine z_ldcw hX dJ6_bitCount_0f7a4_11 q1376 ?_
  refine z_iand hX dJ6_bitCount_0f7a4_14 ?_
  refine z_iload_n hX dJ6_bitCount_0f7a4_15 0 rfl ?_
  refine z_iconst hX dJ6_bitCount_0f7a4_16 ci_2 ?_
  refine z_iushr hX dJ6_bitCount_0f7a4_17 ?_
  refine z_ldcw hX dJ6_bitCount_0f7a4_18 q1376 ?_
  refine z_iand hX dJ6_bitCount_0f7a4_21 ?_
  refine z_iadd hX dJ6_bitCount_0f7a4_22 ?_
  refine z_istore_n (lv' := [(0, .int (((v0 - (((v0.toUInt32 >>> ((1 : Int32).toUInt32 &&& Int32.toUInt32 31)).toInt32) &&& 1431655765)) &&& 858993459) + ((((v0 - (((v0.toUInt32 >>> ((1 : Int32).toUInt32 &&& Int32.toUInt32 31)).toInt32) &&& 1431655765)).toUInt32 >>> ((2 : Int32).toUInt32 &&& Int32.toUInt32 31)).toInt32) &&& 858993459)))]) hX dJ6_bitCount_0f7a4_23 hn (by decide) rfl ?_
  refine z_iload_n hX dJ6_bitCount_0f7a4_24 0 rfl ?_
  refine z_iload_n hX dJ6_bitCount_0f7a4_25 0 rfl ?_
  refine z_iconst hX dJ6_bitCount_0f7a4_26 ci_4 ?_
  refine z_iushr hX dJ6_bitCount_0f7a4_27 ?_
  refine z_iadd hX dJ6_bitCount_0f7a4_28 ?_
  refine z_ldcw hX dJ6_bitCount_0f7a4_29 q1377 ?_
  refine z_iand hX dJ6_bitCount_0f7a4_32 ?_
  refine z_istore_n (lv' := [(0, .int (((((v0 - (((v0.toUInt32 >>> ((1 : Int32).toUInt32 &&& Int32.toUInt32 31)).toInt32) &&& 1431655765)) &&& 858993459) + ((((v0 - (((v0.toUInt32 >>> ((1 : Int32).toUInt32 &&& Int32.toUInt32 31)).toInt32) &&& 1431655765)).toUInt32 >>> ((2 : Int32).toUInt32 &&& Int32.toUInt32 31)).toInt32) &&& 858993459)) + (((((v0 - (((v0.toUInt32 >>> ((1 : Int32).toUInt32 &&& Int32.toUInt32 31)).toInt32) &&& 1431655765)) &&& 858993459) + ((((v0 - (((v0.toUInt32 >>> ((1 : Int32).toUInt32 &&& Int32.toUInt32 31)).toInt32) &&& 1431655765)).toUInt32 >>> ((2 : Int32).toUInt32 &&& Int32.toUInt32 31)).toInt32) &&& 858993459)).toUInt32 >>> ((4 : Int32).toUInt32 &&& Int32.toUInt32 31)).toInt32)) &&& 252645135))]) hX dJ6_bitCount_0f7a4_33 hn (by decide) rfl ?_
  refine z_iload_n hX dJ6_bitCount_0f7a4_34 0 rfl ?_
  refine z_iload_n hX dJ6_bitCount_0f7a4_35 0 rfl ?_
  refine z_bipush hX dJ6_bitCount_0f7a4_36 cb_8 ?_
  refine z_iushr hX dJ6_bitCount_0f7a4_38 ?_
  refine z_iadd hX dJ6_bitCount_0f7a4_39 ?_
  refine z_istore_n (lv' := [(0, .int ((((((v0 - (((v0.toUInt32 >>> ((1 : Int32).toUInt32 &&& Int32.toUInt32 31)).toInt32) &&& 1431655765)) &&& 858993459) + ((((v0 - (((v0.toUInt32 >>> ((1 : Int32).toUInt32 &&& Int32.toUInt32 31)).toInt32) &&& 1431655765)).toUInt32 >>> ((2 : Int32).toUInt32 &&& Int32.toUInt32 31)).toInt32) &&& 858993459)) + (((((v0 - (((v0.toUInt32 >>> ((1 : Int32).toUInt32 &&& Int32.toUInt32 31)).toInt32) &&& 1431655765)) &&& 858993459) + ((((v0 - (((v0.toUInt32 >>> ((1 : Int32).toUInt32 &&& Int32.toUInt32 31)).toInt32) &&& 1431655765)).toUInt32 >>> ((2 : Int32).toUInt32 &&& Int32.toUInt32 31)).toInt32) &&& 858993459)).toUInt32 >>> ((4 : Int32).toUInt32 &&& Int32.toUInt32 31)).toInt32)) &&& 252645135) + (((((((v0 - (((v0.toUInt32 >>> ((1 : Int32).toUInt32 &&& Int32.toUInt32 31)).toInt32) &&& 1431655765)) &&& 858993459) + ((((v0 - (((v0.toUInt32 >>> ((1 : Int32).toUInt32 &&& Int32.toUInt32 31)).toInt32) &&& 1431655765)).toUInt32 >>> ((2 : Int32).toUInt32 &&& Int32.toUInt32 31)).toInt32) &&& 858993459)) + (((((v0 - (((v0.toUInt32 >>> ((1 : Int32).toUInt32 &&& Int32.toUInt32 31)).toInt32) &&& 1431655765)) &&& 858993459) + ((((v0 - (((v0.toUInt32 >>> ((1 : Int32).toUInt32 &&& Int32.toUInt32 31)).toInt32) &&& 1431655765)).toUInt32 >>> ((2 : Int32).toUInt32 &&& Int32.toUInt32 31)).toInt32) &&& 858993459)).toUInt32 >>> ((4 : Int32).toUInt32 &&& Int32.toUInt32 31)).toInt32)) &&& 252645135).toUInt32 >>> ((8 : Int32).toUInt32 &&& Int32.toUInt32 31)).toInt32)))]) hX dJ6_bitCount_0f7a4_40 hn (by decide) rfl ?_
  refine z_iload_n hX dJ6_bitCount_0f7a4_41 0 rfl ?_
  refine z_iload_n hX dJ6_bitCount_0f7a4_42 0 rfl ?_
  refine z_bipush hX dJ6_bitCount_0f7a4_43 cb_16 ?_
  refine z_iushr hX dJ6_bitCount_0f7a4_45 ?_
  refine z_iadd hX dJ6_bitCount_0f7a4_46 ?_
  refine z_istore_n (lv' := [(0, .int (((((((v0 - (((v0.toUInt32 >>> ((1 : Int32).toUInt32 &&& Int32.toUInt32 31)).toInt32) &&& 1431655765)) &&& 858993459) + ((((v0 - (((v0.toUInt32 >>> ((1 : Int32).toUInt32 &&& Int32.toUInt32 31)).toInt32) &&& 1431655765)).toUInt32 >>> ((2 : Int32).toUInt32 &&& Int32.toUInt32 31)).toInt32) &&& 858993459)) + (((((v0 - (((v0.toUInt32 >>> ((1 : Int32).toUInt32 &&& Int32.toUInt32 31)).toInt32) &&& 1431655765)) &&& 858993459) + ((((v0 - (((v0.toUInt32 >>> ((1 : Int32).toUInt32 &&& Int32.toUInt32 31)).toInt32) &&& 1431655765)).toUInt32 >>> ((2 : Int32).toUInt32 &&& Int32.toUInt32 31)).toInt32) &&& 858993459)).toUInt32 >>> ((4 : Int32).toUInt32 &&& Int32.toUInt32 31)).toInt32)) &&& 252645135) + (((((((v0 - (((v0.toUInt32 >>> ((1 : Int32).toUInt32 &&& Int32.toUInt32 31)).toInt32) &&& 1431655765)) &&& 858993459) + ((((v0 - (((v0.toUInt32 >>> ((1 : Int32).toUInt32 &&& Int32.toUInt32 31)).toInt32) &&& 1431655765)).toUInt32 >>> ((2 : Int32).toUInt32 &&& Int32.toUInt32 31)).toInt32) &&& 858993459)) + (((((v0 - (((v0.toUInt32 >>> ((1 : Int32).toUInt32 &&& Int32.toUInt32 31)).toInt32) &&& 1431655765)) &&& 858993459) + ((((v0 - (((v0.toUInt32 >>> ((1 : Int32).toUInt32 &&& Int32.toUInt32 31)).toInt32) &&& 1431655765)).toUInt32 >>> ((2 : Int32).toUInt32 &&& Int32.toUInt32 31)).toInt32) &&& 858993459)).toUInt32 >>> ((4 : Int32).toUInt32 &&& Int32.toUInt32 31)).toInt32)) &&& 252645135).toUInt32 >>> ((8 : Int32).toUInt32 &&& Int32.toUInt32 31)).toInt32)) + ((((((((v0 - (((v0.toUInt32 >>> ((1 : Int32).toUInt32 &&& Int32.toUInt32 31)).toInt32) &&& 1431655765)) &&& 858993459) + ((((v0 - (((v0.toUInt32 >>> ((1 : Int32).toUInt32 &&& Int32.toUInt32 31)).toInt32) &&& 1431655765)).toUInt32 >>> ((2 : Int32).toUInt32 &&& Int32.toUInt32 31)).toInt32) &&& 858993459)) + (((((v0 - (((v0.toUInt32 >>> ((1 : Int32).toUInt32 &&& Int32.toUInt32 31)).toInt32) &&& 1431655765)) &&& 858993459) + ((((v0 - (((v0.toUInt32 >>> ((1 : Int32).toUInt32 &&& Int32.toUInt32 31)).toInt32) &&& 1431655765)).toUInt32 >>> ((2 : Int32).toUInt32 &&& Int32.toUInt32 31)).toInt32) &&& 858993459)).toUInt32 >>> ((4 : Int32).toUInt32 &&& Int32.toUInt32 31)).toInt32)) &&& 252645135) + (((((((v0 - (((v0.toUInt32 >>> ((1 : Int32).toUInt32 &&& Int32.toUInt32 31)).toInt32) &&& 1431655765)) &&& 858993459) + ((((v0 - (((v0.toUInt32 >>> ((1 : Int32).toUInt32 &&& Int32.toUInt32 31)).toInt32) &&& 1431655765)).toUInt32 >>> ((2 : Int32).toUInt32 &&& Int32.toUInt32 31)).toInt32) &&& 858993459)) + (((((v0 - (((v0.toUInt32 >>> ((1 : Int32).toUInt32 &&& Int32.toUInt32 31)).toInt32) &&& 1431655765)) &&& 858993459) + ((((v0 - (((v0.toUInt32 >>> ((1 : Int32).toUInt32 &&& Int32.toUInt32 31)).toInt32) &&& 1431655765)).toUInt32 >>> ((2 : Int32).toUInt32 &&& Int32.toUInt32 31)).toInt32) &&& 858993459)).toUInt32 >>> ((4 : Int32).toUInt32 &&& Int32.toUInt32 31)).toInt32)) &&& 252645135).toUInt32 >>> ((8 : Int32).toUInt32 &&& Int32.toUInt32 31)).toInt32)).toUInt32 >>> ((16 : Int32).toUInt32 &&& Int32.toUInt32 31)).toInt32)))]) hX dJ6_bitCount_0f7a4_47 hn (by decide) rfl ?_
  refine z_iload_n hX dJ6_bitCount_0f7a4_48 0 rfl ?_
  refine z_bipush hX dJ6_bitCount_0f7a4_49 cb_63 ?_
  refine z_iand hX dJ6_bitCount_0f7a4_51 ?_
  obtain rfl := Option.some.inj hf
  exact z_iret hX hr rfl (zl rfl) (zl rfl) dJ6_bitCount_0f7a4_52
set_option maxHeartbeats 4000000 in
set_option maxRecDepth 100000 in
theorem ct_J6_bitCount_0f7a4 {E : zE} {v0 : Int32} {g : zM} {r : Int32} (hf : fJ6_bitCount_0f7a4 v0 g = some r) : zCt yJ6_bitCount_0f7a4 cJ6_bitCount_0f7a4 1 (some .int) 0 0 E [.int v0] g (.inl (some (.int r), g)) := by
  refine zmet (by decide) (zl rfl) (fun X hE hX hT hR hr hn => ?_)
  subst hE
  exact fJ6_bitCount_0f7a4_ok hX hT hR hr hn  hf
def fX10_postageFor (h : Nat) (r1 : Nat) (g : zM) : Option Int32 := zb (fX10_wordsIn h r1 g) (fun r_1 => zb (fX10_binding h r1 g) (fun r_2 => zb (fJ6_bitCount_0f7a4 r_2 g) (fun r_3 => some (((r_1 + 9) / 10) + (2 * r_3)))))
set_option maxHeartbeats 4000000 in
set_option maxRecDepth 100000 in
theorem fX10_postageFor_ok {X : zX} (hX : zCX X cX10_postageFor RX10) (hT : zNT X) (hR : X.2.2.2.1 = zrm 2 0) (hr : X.2.2.2.2.2.2.2.2.1.sig.returnType = (some .int)) (hn : X.2.2.2.2.2.2.2.2.2.1.maxLocals = 2) {h : Nat} {r1 : Nat} (hkh : zK h = 9) (hk1 : zK r1 = 3) {g : zM} {r : Int32} (hf : fX10_postageFor h r1 g = some r) : zW X (zQ X (.inl (some (.int r), g)) 0) 0 0 0 [(0, .ref (zB X + h)), (1, .ref (zB X + r1))] [] g := by
  unfold fX10_postageFor at hf
  refine z_aload_n hX dX10_postageFor_0 0 rfl ?_
  refine z_aload_n hX dX10_postageFor_1 1 rfl ?_
  replace hf := zb_some hf
  obtain ⟨r_1, h1, hf⟩ := hf
  refine z_callV1 hX ok_X10_wordsIn q1370 q576 q577 (zrm_ok hR (by decide)) (ct_X10_wordsIn hkh hk1 h1) (zrec_World hX hkh) dX10_postageFor_2 rfl rfl ?_
  refine z_bipush hX dX10_postageFor_5 cb_9 ?_
  refine z_iadd hX dX10_postageFor_7 ?_
  refine z_bipush hX dX10_postageFor_8 cb_10 ?_
  refine z_idiv hX dX10_postageFor_10 (by decide) ?_
  refine z_iconst hX dX10_postageFor_11 ci_2 ?_
  refine z_aload_n hX dX10_postageFor_12 0 rfl ?_
  refine z_aload_n hX dX10_postageFor_13 1 rfl ?_
  replace hf := zb_some hf
  obtain ⟨r_2, h2, hf⟩ := hf
  refine z_callV1 hX ok_X10_binding q1371 q1327 q1328 (zrm_ok hR (by decide)) (ct_X10_binding hkh hk1 h2) (zrec_World hX hkh) dX10_postageFor_14 rfl rfl ?_
  replace hf := zb_some hf
  obtain ⟨r_3, h3, hf⟩ := hf
  refine z_callJ1 hX ok_J6_bitCount_0f7a4 q1372 q1373 (zrm_ok hR (by decide)) (ct_J6_bitCount_0f7a4  h3) dX10_postageFor_17 rfl rfl ?_
  refine z_imul hX dX10_postageFor_20 ?_
  refine z_iadd hX dX10_postageFor_21 ?_
  obtain rfl := Option.some.inj hf
  exact z_iret hX hr rfl (zl rfl) (zl rfl) dX10_postageFor_22
set_option maxHeartbeats 4000000 in
set_option maxRecDepth 100000 in
theorem ct_X10_postageFor {E : zE} {h : Nat} {r1 : Nat} (hkh : zK h = 9) (hk1 : zK r1 = 3) {g : zM} {r : Int32} (hf : fX10_postageFor h r1 g = some r) : zCt yX10_postageFor cX10_postageFor 2 (some .int) 2 0 E [.ref (E.1 + h), .ref (E.1 + r1)] g (.inl (some (.int r), g)) := by
  refine zmet (by decide) (zl rfl) (fun X hE hX hT hR hr hn => ?_)
  subst hE
  exact fX10_postageFor_ok hX hT hR hr hn hkh hk1 hf
def fX11_postage (v1 : Int32) (v2 : Int32) (v3 : Int32) (g : zM) : Option (Except Nat Int32 × zM) := zb3 (fX11_mailOf v1 g) (fun r_1 g1 => zjoin (fun t0_2 => zb3 (fX11_needAhead v2 t0_2 g1) (fun _ g3 => zb (fX7_look 446 r_1 (g3 3 2) g3) (fun g4 => zjoin (fun t0_5 => zb (fX7_go 446 29 t0_5 g4) (fun g6 => zb (fX10_postageFor 2 447 g6) (fun r_7 => if v3 = 0 then some (.ok r_7, g6) else zb (fX7_goWeek 446 29 g6) (fun g9 => zb (fX10_postageFor 2 447 g9) (fun r_10 => some (.ok (r_10 - r_7), g9))))) : Int32 → Option (Except Nat Int32 × zM)) (fun k61 => if v3 = 0 then k61 v2 else k61 (v2 - 1)))) : Int32 → Option (Except Nat Int32 × zM)) (fun k17 => if v3 = 0 then k17 0 else k17 1))
set_option maxHeartbeats 4000000 in
set_option maxRecDepth 100000 in
theorem fX11_postage_ok {X : zX} (hX : zCX X cX11_postage RX11) (hT : zNT X) (hR : X.2.2.2.1 = zrm 7 2) (hr : X.2.2.2.2.2.2.2.2.1.sig.returnType = (some .int)) (hn : X.2.2.2.2.2.2.2.2.2.1.maxLocals = 6) {v1 : Int32} {v2 : Int32} {v3 : Int32} {g : zM} {r : Except Nat Int32 × zM} (hf : fX11_postage v1 v2 v3 g = some r) : zW X (zQ X (zoI r) 2) 0 0 0 [(0, .ref (zB X + 0)), (1, .int v1), (2, .int v2), (3, .int v3)] [] g := by
  unfold fX11_postage at hf
  refine z_aload_n hX dX11_postage_0 0 rfl ?_
  refine z_iload_n hX dX11_postage_1 1 rfl ?_
  replace hf := zb3_some hf
  rcases hf with ⟨c1, g1, h1, rfl⟩ | ⟨r_1, g1, h1, hf⟩
  · exact z_callV_x hX hT ok_X11_mailOf q974 q976 q25 (zrm_ok hR (by decide)) (ct_X11_mailOf  h1) (zrec_Post hX zq_0) dX11_postage_2 rfl rfl (zl rfl) (zl rfl)
  refine z_callV1 hX ok_X11_mailOf q974 q976 q25 (zrm_ok hR (by decide)) (ct_X11_mailOf  h1) (zrec_Post hX zq_0) dX11_postage_2 rfl rfl ?_
  refine z_astore (lv' := [(4, .ref (zB X + r_1)), (0, .ref (zB X + 0)), (1, .int v1), (2, .int v2), (3, .int v3)]) hX dX11_postage_5 hn (by decide) rfl ?_
  refine z_iload_n hX dX11_postage_7 3 rfl ?_
  refine z_iload_n hX dX11_postage_8 4 rfl ?_
  refine zjoin_ok (P := fun (k : Int32 → Option (Except Nat Int32 × zM)) => ∀ (t0_2 : Int32), k t0_2 = some r → zW X (zQ X (zoI r) 2) 1 6 17 [(0, .ref (zB X + 0)), (2, .int v2), (3, .int v3), (4, .ref (zB X + r_1))] [.int t0_2, .int v2] g1) hf (fun t0_2 hf => ?_) (fun k17 hk17 hf => ?_)
  · replace hf := zb3_some hf
    rcases hf with ⟨c3, g3, h3, rfl⟩ | ⟨r_3, g3, h3, hf⟩
    · exact z_callS_x hX hT ok_X11_needAhead rfl q1195 q1196 (zrm_ok hR (by decide)) (ct_X11_needAhead  h3) dX11_postage_17 rfl rfl (zl rfl) (zl rfl)
    refine z_callS0 hX ok_X11_needAhead rfl q1195 q1196 (zrm_ok hR (by decide)) (ct_X11_needAhead  h3) dX11_postage_17 rfl rfl ?_
    refine z_aload_n hX dX11_postage_20 0 rfl ?_
    refine gf_Post_sight hX zq_0 q445 dX11_postage_21 ?_
    refine z_aload hX dX11_postage_24 3 rfl ?_
    refine z_aload_n hX dX11_postage_26 0 rfl ?_
    refine gf_Post_now hX zq_0 q439 dX11_postage_27 ?_
    refine gf_World_bag_N hX zq_2 qn273 dX11_postage_30 ?_
    refine gf_Bag_week_N hX zq_3 qn219 dX11_postage_33 ?_
    replace hf := zb_some hf
    obtain ⟨g4, h4, hf⟩ := hf
    refine z_callV0 hX ok_X7_look q506 q507 q508 (zrm_ok hR (by decide)) (ct_X7_look zq_446 (fk_X11_mailOf  h1) h4) (zrec_Sight hX zq_446) dX11_postage_36 rfl rfl ?_
    refine z_aload_n hX dX11_postage_39 0 rfl ?_
    refine gf_Post_sight hX zq_0 q445 dX11_postage_40 ?_
    refine z_aload_n hX dX11_postage_43 0 rfl ?_
    refine gf_Post_now hX zq_0 q439 dX11_postage_44 ?_
    refine gf_World_law_N hX zq_2 qn275 dX11_postage_47 ?_
    refine z_iload_n hX dX11_postage_50 2 rfl ?_
    refine zjoin_ok (P := fun (k : Int32 → Option (Except Nat Int32 × zM)) => ∀ (t0_5 : Int32), k t0_5 = some r → zW X (zQ X (zoI r) 2) 2 12 61 [(0, .ref (zB X + 0)), (3, .int v3)] [.int t0_5, .ref (zB X + 29), .ref (zB X + 446)] g4) hf (fun t0_5 hf => ?_) (fun k61 hk61 hf => ?_)
    · replace hf := zb_some hf
      obtain ⟨g6, h6, hf⟩ := hf
      refine z_callV0 hX ok_X7_go q1200 q1201 q1202 (zrm_ok hR (by decide)) (ct_X7_go zq_446 zq_29 h6) (zrec_Sight hX zq_446) dX11_postage_61 rfl rfl ?_
      refine z_aload_n hX dX11_postage_64 0 rfl ?_
      refine gf_Post_now hX zq_0 q439 dX11_postage_65 ?_
      refine z_aload_n hX dX11_postage_68 0 rfl ?_
      refine gf_Post_sight hX zq_0 q445 dX11_postage_69 ?_
      refine gf_Sight_mail_N hX zq_446 qn404 dX11_postage_72 ?_
      replace hf := zb_some hf
      obtain ⟨r_7, h7, hf⟩ := hf
      refine z_callV1 hX ok_X10_postageFor q1366 q1367 q1368 (zrm_ok hR (by decide)) (ct_X10_postageFor zq_2 zq_447 h7) (zrec_World hX zq_2) dX11_postage_75 rfl rfl ?_
      refine z_istore (lv' := [(5, .int r_7), (0, .ref (zB X + 0)), (3, .int v3)]) hX dX11_postage_78 hn (by decide) rfl ?_
      refine z_iload_n hX dX11_postage_80 2 rfl ?_
      refine z_if_ne hX 87 dX11_postage_81 (by decide) (fun h8 => ?_) (fun h8 => ?_)
      · replace hf := zif_neg h8 hf
        refine z_aload_n hX dX11_postage_87 1 rfl ?_
        refine gf_Post_sight hX zq_0 q445 dX11_postage_88 ?_
        refine z_aload_n hX dX11_postage_91 1 rfl ?_
        refine gf_Post_now hX zq_0 q439 dX11_postage_92 ?_
        refine gf_World_law_N hX zq_2 qn275 dX11_postage_95 ?_
        replace hf := zb_some hf
        obtain ⟨g9, h9, hf⟩ := hf
        refine z_callV0 hX ok_X7_goWeek q525 q526 q527 (zrm_ok hR (by decide)) (ct_X7_goWeek zq_446 zq_29 h9) (zrec_Sight hX zq_446) dX11_postage_98 rfl rfl ?_
        refine z_aload_n hX dX11_postage_101 1 rfl ?_
        refine gf_Post_now hX zq_0 q439 dX11_postage_102 ?_
        refine z_aload_n hX dX11_postage_105 1 rfl ?_
        refine gf_Post_sight hX zq_0 q445 dX11_postage_106 ?_
        refine gf_Sight_mail_N hX zq_446 qn404 dX11_postage_109 ?_
        replace hf := zb_some hf
        obtain ⟨r_10, h10, hf⟩ := hf
        refine z_callV1 hX ok_X10_postageFor q1366 q1367 q1368 (zrm_ok hR (by decide)) (ct_X10_postageFor zq_2 zq_447 h10) (zrec_World hX zq_2) dX11_postage_112 rfl rfl ?_
        refine z_iload hX dX11_postage_115 0 rfl ?_
        refine z_isub hX dX11_postage_117 ?_
        obtain rfl := Option.some.inj hf
        exact z_iret hX hr rfl (zl rfl) (zl rfl) dX11_postage_118
      · replace hf := zif_pos h8 hf
        refine z_iload hX dX11_postage_84 0 rfl ?_
        obtain rfl := Option.some.inj hf
        exact z_iret hX hr rfl (zl rfl) (zl rfl) dX11_postage_86
    · refine z_if_eq hX 60 dX11_postage_51 (by decide) (fun h11 => ?_) (fun h11 => ?_)
      · replace hf := zif_pos h11 hf
        refine z_iload_n hX dX11_postage_60 1 rfl ?_
        refine zW.sub [0, 2] rfl ?_
        exact hk61 v2 hf
      · replace hf := zif_neg h11 hf
        refine z_iload_n hX dX11_postage_54 1 rfl ?_
        refine z_iconst hX dX11_postage_55 ci_1 ?_
        refine z_isub hX dX11_postage_56 ?_
        refine z_goto hX 61 dX11_postage_57 (by decide) ?_
        refine zW.sub [0, 2] rfl ?_
        exact hk61 (v2 - 1) hf
  · refine z_if_eq hX 16 dX11_postage_9 (by decide) (fun h12 => ?_) (fun h12 => ?_)
    · replace hf := zif_pos h12 hf
      refine z_iconst hX dX11_postage_16 ci_0 ?_
      refine zW.sub [1, 3, 4, 0] rfl ?_
      exact hk17 0 hf
    · replace hf := zif_neg h12 hf
      refine z_iconst hX dX11_postage_12 ci_1 ?_
      refine z_goto hX 17 dX11_postage_13 (by decide) ?_
      refine zW.sub [1, 3, 4, 0] rfl ?_
      exact hk17 1 hf
set_option maxHeartbeats 4000000 in
set_option maxRecDepth 100000 in
theorem ct_X11_postage {E : zE} {v1 : Int32} {v2 : Int32} {v3 : Int32} {g : zM} {r : Except Nat Int32 × zM} (hf : fX11_postage v1 v2 v3 g = some r) : zCt yX11_postage cX11_postage 6 (some .int) 7 2 E [.ref (E.1 + 0), .int v1, .int v2, .int v3] g (zoI r) := by
  refine zmet (by decide) (zl rfl) (fun X hE hX hT hR hr hn => ?_)
  subst hE
  exact fX11_postage_ok hX hT hR hr hn  hf
def fX11_forks_L17 (v2 : Int32) (r3 : Nat) : Nat → Int32 → Int32 → zM → Option (Except Nat Int32 × zM)
  | 0, _, _, _ => none
  | n + 1, v4, v5, g => if 12 ≤ v5 then some (.ok v4, g) else zb (fX7_look 446 r3 (g 3 2) g) (fun g4 => zput g4 446 2 v5 (fun g5 => zb (fX7_go 446 29 v2 g5) (fun g6 => zb (fX3_lastKind 447 g6) (fun r_7 => fX11_forks_L17 v2 r3 n (v4 ||| ((1 : Int32) <<< (r_7 &&& 31))) (v5 + 1) g6))))
def fX11_forks (v1 : Int32) (v2 : Int32) (g : zM) : Option (Except Nat Int32 × zM) := zb3 (fX11_mailOf v1 g) (fun r_1 g1 => zb3 (fX11_needAhead v2 1 g1) (fun _ g2 => fX11_forks_L17 v2 r_1 zFU 0 0 g2))
set_option maxHeartbeats 4000000 in
set_option maxRecDepth 100000 in
theorem fX11_forks_L17_ok {X : zX} (hX : zCX X cX11_forks RX11) (hT : zNT X) (hR : X.2.2.2.1 = zrm 7 2) (hr : X.2.2.2.2.2.2.2.2.1.sig.returnType = (some .int)) (hn : X.2.2.2.2.2.2.2.2.2.1.maxLocals = 6) {v2 : Int32} {r3 : Nat} (hkr3 : zK r3 = 3) {r : Except Nat Int32 × zM}  : ∀ (n : Nat) (v4 : Int32) (v5 : Int32) (g : zM), fX11_forks_L17 v2 r3 n v4 v5 g = some r → zW X (zQ X (zoI r) 2) 2 12 17 [(0, .ref (zB X + 0)), (2, .int v2), (3, .ref (zB X + r3)), (4, .int v4), (5, .int v5)] [] g := by
  intro n
  induction n with
  | zero => intro v4 v5 g hf; exact zno hf
  | succ n ih =>
    intro v4 v5 g hf
    rw [fX11_forks_L17] at hf
    refine z_iload hX dX11_forks_17 4 rfl ?_
    refine z_bipush hX dX11_forks_19 cb_12 ?_
    refine z_icmp_ge hX 89 dX11_forks_21 (by decide) (fun h3 => ?_) (fun h3 => ?_)
    · replace hf := zif_pos h3 hf
      refine z_iload hX dX11_forks_89 3 rfl ?_
      obtain rfl := Option.some.inj hf
      exact z_iret hX hr rfl (zl rfl) (zl rfl) dX11_forks_91
    · replace hf := zif_neg h3 hf
      refine z_aload_n hX dX11_forks_24 0 rfl ?_
      refine gf_Post_sight hX zq_0 q445 dX11_forks_25 ?_
      refine z_aload_n hX dX11_forks_28 2 rfl ?_
      refine z_aload_n hX dX11_forks_29 0 rfl ?_
      refine gf_Post_now hX zq_0 q439 dX11_forks_30 ?_
      refine gf_World_bag_N hX zq_2 qn273 dX11_forks_33 ?_
      refine gf_Bag_week_N hX zq_3 qn219 dX11_forks_36 ?_
      replace hf := zb_some hf
      obtain ⟨g4, h4, hf⟩ := hf
      refine z_callV0 hX ok_X7_look q506 q507 q508 (zrm_ok hR (by decide)) (ct_X7_look zq_446 hkr3 h4) (zrec_Sight hX zq_446) dX11_forks_39 rfl rfl ?_
      refine z_aload_n hX dX11_forks_42 0 rfl ?_
      refine gf_Post_sight hX zq_0 q445 dX11_forks_43 ?_
      refine z_iload hX dX11_forks_46 4 rfl ?_
      replace hf := zput_some hf
      obtain ⟨g5, eg5, hf⟩ := hf
      refine gp_Sight_fork_N hX zq_446 qn408 dX11_forks_48 (zW.eqg eg5 ?_)
      refine z_aload_n hX dX11_forks_51 0 rfl ?_
      refine gf_Post_sight hX zq_0 q445 dX11_forks_52 ?_
      refine z_aload_n hX dX11_forks_55 0 rfl ?_
      refine gf_Post_now hX zq_0 q439 dX11_forks_56 ?_
      refine gf_World_law_N hX zq_2 qn275 dX11_forks_59 ?_
      refine z_iload_n hX dX11_forks_62 1 rfl ?_
      replace hf := zb_some hf
      obtain ⟨g6, h6, hf⟩ := hf
      refine z_callV0 hX ok_X7_go q1200 q1201 q1202 (zrm_ok hR (by decide)) (ct_X7_go zq_446 zq_29 h6) (zrec_Sight hX zq_446) dX11_forks_63 rfl rfl ?_
      refine z_iload hX dX11_forks_66 3 rfl ?_
      refine z_iconst hX dX11_forks_68 ci_1 ?_
      refine z_aload_n hX dX11_forks_69 0 rfl ?_
      refine gf_Post_sight hX zq_0 q445 dX11_forks_70 ?_
      refine gf_Sight_mail_N hX zq_446 qn404 dX11_forks_73 ?_
      replace hf := zb_some hf
      obtain ⟨r_7, h7, hf⟩ := hf
      refine z_callV1 hX ok_X3_lastKind q517 q518 q519 (zrm_ok hR (by decide)) (ct_X3_lastKind zq_447 h7) (zrec_Mail hX zq_447) dX11_forks_76 rfl rfl ?_
      refine z_ishl hX dX11_forks_79 ?_
      refine z_ior hX dX11_forks_80 ?_
      refine z_istore (lv' := [(4, .int (v4 ||| ((1 : Int32) <<< (r_7 &&& 31)))), (0, .ref (zB X + 0)), (2, .int v2), (3, .ref (zB X + r3)), (5, .int v5)]) hX dX11_forks_81 hn (by decide) rfl ?_
      refine z_iincc (lv' := [(5, .int (v5 + 1)), (4, .int (v4 ||| ((1 : Int32) <<< (r_7 &&& 31)))), (0, .ref (zB X + 0)), (2, .int v2), (3, .ref (zB X + r3))]) hX dX11_forks_83 hn (by decide) 4 rfl ci_1 rfl ?_
      refine z_goto hX 17 dX11_forks_86 (by decide) ?_
      refine zW.sub [2, 3, 4, 1, 0] rfl ?_
      exact ih (v4 ||| ((1 : Int32) <<< (r_7 &&& 31))) (v5 + 1) g6 hf
set_option maxHeartbeats 4000000 in
set_option maxRecDepth 100000 in
theorem fX11_forks_ok {X : zX} (hX : zCX X cX11_forks RX11) (hT : zNT X) (hR : X.2.2.2.1 = zrm 7 2) (hr : X.2.2.2.2.2.2.2.2.1.sig.returnType = (some .int)) (hn : X.2.2.2.2.2.2.2.2.2.1.maxLocals = 6) {v1 : Int32} {v2 : Int32} {g : zM} {r : Except Nat Int32 × zM} (hf : fX11_forks v1 v2 g = some r) : zW X (zQ X (zoI r) 2) 0 0 0 [(0, .ref (zB X + 0)), (1, .int v1), (2, .int v2)] [] g := by
  unfold fX11_forks at hf
  refine z_aload_n hX dX11_forks_0 0 rfl ?_
  refine z_iload_n hX dX11_forks_1 1 rfl ?_
  replace hf := zb3_some hf
  rcases hf with ⟨c1, g1, h1, rfl⟩ | ⟨r_1, g1, h1, hf⟩
  · exact z_callV_x hX hT ok_X11_mailOf q974 q976 q25 (zrm_ok hR (by decide)) (ct_X11_mailOf  h1) (zrec_Post hX zq_0) dX11_forks_2 rfl rfl (zl rfl) (zl rfl)
  refine z_callV1 hX ok_X11_mailOf q974 q976 q25 (zrm_ok hR (by decide)) (ct_X11_mailOf  h1) (zrec_Post hX zq_0) dX11_forks_2 rfl rfl ?_
  refine z_astore_n (lv' := [(3, .ref (zB X + r_1)), (0, .ref (zB X + 0)), (1, .int v1), (2, .int v2)]) hX dX11_forks_5 hn (by decide) rfl ?_
  refine z_iload_n hX dX11_forks_6 3 rfl ?_
  refine z_iconst hX dX11_forks_7 ci_1 ?_
  replace hf := zb3_some hf
  rcases hf with ⟨c2, g2, h2, rfl⟩ | ⟨r_2, g2, h2, hf⟩
  · exact z_callS_x hX hT ok_X11_needAhead rfl q1195 q1196 (zrm_ok hR (by decide)) (ct_X11_needAhead  h2) dX11_forks_8 rfl rfl (zl rfl) (zl rfl)
  refine z_callS0 hX ok_X11_needAhead rfl q1195 q1196 (zrm_ok hR (by decide)) (ct_X11_needAhead  h2) dX11_forks_8 rfl rfl ?_
  refine z_iconst hX dX11_forks_11 ci_0 ?_
  refine z_istore (lv' := [(4, .int 0), (3, .ref (zB X + r_1)), (0, .ref (zB X + 0)), (1, .int v1), (2, .int v2)]) hX dX11_forks_12 hn (by decide) rfl ?_
  refine z_iconst hX dX11_forks_14 ci_0 ?_
  refine z_istore (lv' := [(5, .int 0), (4, .int 0), (3, .ref (zB X + r_1)), (0, .ref (zB X + 0)), (1, .int v1), (2, .int v2)]) hX dX11_forks_15 hn (by decide) rfl ?_
  refine zW.sub [3, 5, 2, 1, 0] rfl ?_
  exact fX11_forks_L17_ok hX hT hR hr hn (fk_X11_mailOf  h1) zFU 0 0 g2 hf
set_option maxHeartbeats 4000000 in
set_option maxRecDepth 100000 in
theorem ct_X11_forks {E : zE} {v1 : Int32} {v2 : Int32} {g : zM} {r : Except Nat Int32 × zM} (hf : fX11_forks v1 v2 g = some r) : zCt yX11_forks cX11_forks 6 (some .int) 7 2 E [.ref (E.1 + 0), .int v1, .int v2] g (zoI r) := by
  refine zmet (by decide) (zl rfl) (fun X hE hX hT hR hr hn => ?_)
  subst hE
  exact fX11_forks_ok hX hT hR hr hn  hf
def fX11_ripe_L33 (v2 : Int32) (k94 : Int32 → Int32 → zM → Option (Except Nat Int32 × zM)) : Nat → Int32 → Int32 → Int32 → zM → Option (Except Nat Int32 × zM)
  | 0, _, _, _, _ => none
  | n + 1, v4, v5, v6, g => if 40 < v6 then k94 v4 v5 g else zb (fX10_binding 2 447 g) (fun r_4 => zb (fJ6_bitCount_0f7a4 r_4 g) (fun r_5 => if r_5 ≤ v4 then zb (fX7_goWeek 446 29 g) (fun g7 => fX11_ripe_L33 v2 k94 n v4 v5 (v6 + 1) g7) else zb (fX7_goWeek 446 29 g) (fun g8 => fX11_ripe_L33 v2 k94 n r_5 v6 (v6 + 1) g8)))
def fX11_ripe (v1 : Int32) (v2 : Int32) (g : zM) : Option (Except Nat Int32 × zM) := zb3 (fX11_mailOf v1 g) (fun r_1 g1 => zb (fX7_look 446 r_1 (g1 3 2) g1) (fun g2 => fX11_ripe_L33 v2 (fun v4_9 v5_9 g9 => if v2 = 0 then some (.ok v5_9, g9) else some (.ok v4_9, g9)) zFU ((-1)) 0 0 g2))
set_option maxHeartbeats 4000000 in
set_option maxRecDepth 100000 in
theorem fX11_ripe_L33_ok {X : zX} (hX : zCX X cX11_ripe RX11) (hT : zNT X) (hR : X.2.2.2.1 = zrm 7 1) (hr : X.2.2.2.2.2.2.2.2.1.sig.returnType = (some .int)) (hn : X.2.2.2.2.2.2.2.2.2.1.maxLocals = 8) {v2 : Int32} {k94 : Int32 → Int32 → zM → Option (Except Nat Int32 × zM)} {r : Except Nat Int32 × zM} (hk94 : ∀ (v4 : Int32) (v5 : Int32) (g : zM), k94 v4 v5 g = some r → zW X (zQ X (zoI r) 1) 1 6 94 [(2, .int v2), (4, .int v4), (5, .int v5)] [] g) : ∀ (n : Nat) (v4 : Int32) (v5 : Int32) (v6 : Int32) (g : zM), fX11_ripe_L33 v2 k94 n v4 v5 v6 g = some r → zW X (zQ X (zoI r) 1) 1 6 33 [(0, .ref (zB X + 0)), (2, .int v2), (4, .int v4), (5, .int v5), (6, .int v6)] [] g := by
  intro n
  induction n with
  | zero => intro v4 v5 v6 g hf; exact zno hf
  | succ n ih =>
    intro v4 v5 v6 g hf
    rw [fX11_ripe_L33] at hf
    refine z_iload hX dX11_ripe_33 4 rfl ?_
    refine z_bipush hX dX11_ripe_35 cb_40 ?_
    refine z_icmp_gt hX 94 dX11_ripe_37 (by decide) (fun h3 => ?_) (fun h3 => ?_)
    · replace hf := zif_pos h3 hf
      refine zW.sub [1, 2, 3] rfl ?_
      exact hk94 v4 v5 g hf
    · replace hf := zif_neg h3 hf
      refine z_aload_n hX dX11_ripe_40 0 rfl ?_
      refine gf_Post_now hX zq_0 q439 dX11_ripe_41 ?_
      refine z_aload_n hX dX11_ripe_44 0 rfl ?_
      refine gf_Post_sight hX zq_0 q445 dX11_ripe_45 ?_
      refine gf_Sight_mail_N hX zq_446 qn404 dX11_ripe_48 ?_
      replace hf := zb_some hf
      obtain ⟨r_4, h4, hf⟩ := hf
      refine z_callV1 hX ok_X10_binding q1326 q1327 q1328 (zrm_ok hR (by decide)) (ct_X10_binding zq_2 zq_447 h4) (zrec_World hX zq_2) dX11_ripe_51 rfl rfl ?_
      replace hf := zb_some hf
      obtain ⟨r_5, h5, hf⟩ := hf
      refine z_callJ1 hX ok_J6_bitCount_0f7a4 q1392 q1373 (zrm_ok hR (by decide)) (ct_J6_bitCount_0f7a4  h5) dX11_ripe_54 rfl rfl ?_
      refine z_istore (lv' := [(7, .int r_5), (0, .ref (zB X + 0)), (2, .int v2), (4, .int v4), (5, .int v5), (6, .int v6)]) hX dX11_ripe_57 hn (by decide) rfl ?_
      refine z_iload hX dX11_ripe_59 0 rfl ?_
      refine z_iload hX dX11_ripe_61 3 rfl ?_
      refine z_icmp_le hX 74 dX11_ripe_63 (by decide) (fun h6 => ?_) (fun h6 => ?_)
      · replace hf := zif_pos h6 hf
        refine z_aload_n hX dX11_ripe_74 1 rfl ?_
        refine gf_Post_sight hX zq_0 q445 dX11_ripe_75 ?_
        refine z_aload_n hX dX11_ripe_78 1 rfl ?_
        refine gf_Post_now hX zq_0 q439 dX11_ripe_79 ?_
        refine gf_World_law_N hX zq_2 qn275 dX11_ripe_82 ?_
        replace hf := zb_some hf
        obtain ⟨g7, h7, hf⟩ := hf
        refine z_callV0 hX ok_X7_goWeek q525 q526 q527 (zrm_ok hR (by decide)) (ct_X7_goWeek zq_446 zq_29 h7) (zrec_Sight hX zq_446) dX11_ripe_85 rfl rfl ?_
        refine z_iincc (lv' := [(6, .int (v6 + 1)), (7, .int r_5), (0, .ref (zB X + 0)), (2, .int v2), (4, .int v4), (5, .int v5)]) hX dX11_ripe_88 hn (by decide) 5 rfl ci_1 rfl ?_
        refine z_goto hX 33 dX11_ripe_91 (by decide) ?_
        refine zW.sub [2, 3, 4, 5, 0] rfl ?_
        exact ih v4 v5 (v6 + 1) g7 hf
      · replace hf := zif_neg h6 hf
        refine z_iload hX dX11_ripe_66 0 rfl ?_
        refine z_istore (lv' := [(4, .int r_5), (7, .int r_5), (0, .ref (zB X + 0)), (2, .int v2), (5, .int v5), (6, .int v6)]) hX dX11_ripe_68 hn (by decide) rfl ?_
        refine z_iload hX dX11_ripe_70 5 rfl ?_
        refine z_istore (lv' := [(5, .int v6), (4, .int r_5), (7, .int r_5), (0, .ref (zB X + 0)), (2, .int v2), (6, .int v6)]) hX dX11_ripe_72 hn (by decide) rfl ?_
        refine z_aload_n hX dX11_ripe_74 3 rfl ?_
        refine gf_Post_sight hX zq_0 q445 dX11_ripe_75 ?_
        refine z_aload_n hX dX11_ripe_78 3 rfl ?_
        refine gf_Post_now hX zq_0 q439 dX11_ripe_79 ?_
        refine gf_World_law_N hX zq_2 qn275 dX11_ripe_82 ?_
        replace hf := zb_some hf
        obtain ⟨g8, h8, hf⟩ := hf
        refine z_callV0 hX ok_X7_goWeek q525 q526 q527 (zrm_ok hR (by decide)) (ct_X7_goWeek zq_446 zq_29 h8) (zrec_Sight hX zq_446) dX11_ripe_85 rfl rfl ?_
        refine z_iincc (lv' := [(6, .int (v6 + 1)), (5, .int v6), (4, .int r_5), (7, .int r_5), (0, .ref (zB X + 0)), (2, .int v2)]) hX dX11_ripe_88 hn (by decide) 5 rfl ci_1 rfl ?_
        refine z_goto hX 33 dX11_ripe_91 (by decide) ?_
        refine zW.sub [4, 5, 2, 1, 0] rfl ?_
        exact ih r_5 v6 (v6 + 1) g8 hf
set_option maxHeartbeats 4000000 in
set_option maxRecDepth 100000 in
theorem fX11_ripe_ok {X : zX} (hX : zCX X cX11_ripe RX11) (hT : zNT X) (hR : X.2.2.2.1 = zrm 7 1) (hr : X.2.2.2.2.2.2.2.2.1.sig.returnType = (some .int)) (hn : X.2.2.2.2.2.2.2.2.2.1.maxLocals = 8) {v1 : Int32} {v2 : Int32} {g : zM} {r : Except Nat Int32 × zM} (hf : fX11_ripe v1 v2 g = some r) : zW X (zQ X (zoI r) 1) 0 0 0 [(0, .ref (zB X + 0)), (1, .int v1), (2, .int v2)] [] g := by
  unfold fX11_ripe at hf
  refine z_aload_n hX dX11_ripe_0 0 rfl ?_
  refine z_iload_n hX dX11_ripe_1 1 rfl ?_
  replace hf := zb3_some hf
  rcases hf with ⟨c1, g1, h1, rfl⟩ | ⟨r_1, g1, h1, hf⟩
  · exact z_callV_x hX hT ok_X11_mailOf q974 q976 q25 (zrm_ok hR (by decide)) (ct_X11_mailOf  h1) (zrec_Post hX zq_0) dX11_ripe_2 rfl rfl (zl rfl) (zl rfl)
  refine z_callV1 hX ok_X11_mailOf q974 q976 q25 (zrm_ok hR (by decide)) (ct_X11_mailOf  h1) (zrec_Post hX zq_0) dX11_ripe_2 rfl rfl ?_
  refine z_astore_n (lv' := [(3, .ref (zB X + r_1)), (0, .ref (zB X + 0)), (1, .int v1), (2, .int v2)]) hX dX11_ripe_5 hn (by decide) rfl ?_
  refine z_aload_n hX dX11_ripe_6 1 rfl ?_
  refine gf_Post_sight hX zq_0 q445 dX11_ripe_7 ?_
  refine z_aload_n hX dX11_ripe_10 0 rfl ?_
  refine z_aload_n hX dX11_ripe_11 1 rfl ?_
  refine gf_Post_now hX zq_0 q439 dX11_ripe_12 ?_
  refine gf_World_bag_N hX zq_2 qn273 dX11_ripe_15 ?_
  refine gf_Bag_week_N hX zq_3 qn219 dX11_ripe_18 ?_
  replace hf := zb_some hf
  obtain ⟨g2, h2, hf⟩ := hf
  refine z_callV0 hX ok_X7_look q506 q507 q508 (zrm_ok hR (by decide)) (ct_X7_look zq_446 (fk_X11_mailOf  h1) h2) (zrec_Sight hX zq_446) dX11_ripe_21 rfl rfl ?_
  refine z_iconst hX dX11_ripe_24 ci_m1 ?_
  refine z_istore (lv' := [(4, .int ((-1))), (3, .ref (zB X + r_1)), (0, .ref (zB X + 0)), (1, .int v1), (2, .int v2)]) hX dX11_ripe_25 hn (by decide) rfl ?_
  refine z_iconst hX dX11_ripe_27 ci_0 ?_
  refine z_istore (lv' := [(5, .int 0), (4, .int ((-1))), (3, .ref (zB X + r_1)), (0, .ref (zB X + 0)), (1, .int v1), (2, .int v2)]) hX dX11_ripe_28 hn (by decide) rfl ?_
  refine z_iconst hX dX11_ripe_30 ci_0 ?_
  refine z_istore (lv' := [(6, .int 0), (5, .int 0), (4, .int ((-1))), (3, .ref (zB X + r_1)), (0, .ref (zB X + 0)), (1, .int v1), (2, .int v2)]) hX dX11_ripe_31 hn (by decide) rfl ?_
  refine zW.sub [4, 6, 2, 1, 0] rfl ?_
  refine fX11_ripe_L33_ok hX hT hR hr hn (fun v4_9 v5_9 g9 hf => ?_) zFU ((-1)) 0 0 g2 hf
  · refine z_iload_n hX dX11_ripe_94 0 rfl ?_
    refine z_if_eq hX 103 dX11_ripe_95 (by decide) (fun h10 => ?_) (fun h10 => ?_)
    · replace hf := zif_pos h10 hf
      refine z_iload hX dX11_ripe_103 2 rfl ?_
      obtain rfl := Option.some.inj hf
      exact z_iret hX hr rfl (zl rfl) (zl rfl) dX11_ripe_105
    · replace hf := zif_neg h10 hf
      refine z_iload hX dX11_ripe_98 1 rfl ?_
      refine z_goto hX 105 dX11_ripe_100 (by decide) ?_
      obtain rfl := Option.some.inj hf
      exact z_iret hX hr rfl (zl rfl) (zl rfl) dX11_ripe_105
set_option maxHeartbeats 4000000 in
set_option maxRecDepth 100000 in
theorem ct_X11_ripe {E : zE} {v1 : Int32} {v2 : Int32} {g : zM} {r : Except Nat Int32 × zM} (hf : fX11_ripe v1 v2 g = some r) : zCt yX11_ripe cX11_ripe 8 (some .int) 7 1 E [.ref (E.1 + 0), .int v1, .int v2] g (zoI r) := by
  refine zmet (by decide) (zl rfl) (fun X hE hX hT hR hr hn => ?_)
  subst hE
  exact fX11_ripe_ok hX hT hR hr hn  hf
def fX11_has (v1 : Int32) (g : zM) : Option (Except Nat Int32 × zM) := zb3 (fX11_mailOf v1 g) (fun r_1 g1 => zb (fX3_kindSet r_1 g1) (fun r_2 => some (.ok r_2, g1)))
set_option maxHeartbeats 4000000 in
set_option maxRecDepth 100000 in
theorem fX11_has_ok {X : zX} (hX : zCX X cX11_has RX11) (hT : zNT X) (hR : X.2.2.2.1 = zrm 2 1) (hr : X.2.2.2.2.2.2.2.2.1.sig.returnType = (some .int)) (hn : X.2.2.2.2.2.2.2.2.2.1.maxLocals = 2) {v1 : Int32} {g : zM} {r : Except Nat Int32 × zM} (hf : fX11_has v1 g = some r) : zW X (zQ X (zoI r) 1) 0 0 0 [(0, .ref (zB X + 0)), (1, .int v1)] [] g := by
  unfold fX11_has at hf
  refine z_aload_n hX dX11_has_0 0 rfl ?_
  refine z_iload_n hX dX11_has_1 1 rfl ?_
  replace hf := zb3_some hf
  rcases hf with ⟨c1, g1, h1, rfl⟩ | ⟨r_1, g1, h1, hf⟩
  · exact z_callV_x hX hT ok_X11_mailOf q974 q976 q25 (zrm_ok hR (by decide)) (ct_X11_mailOf  h1) (zrec_Post hX zq_0) dX11_has_2 rfl rfl (zl rfl) (zl rfl)
  refine z_callV1 hX ok_X11_mailOf q974 q976 q25 (zrm_ok hR (by decide)) (ct_X11_mailOf  h1) (zrec_Post hX zq_0) dX11_has_2 rfl rfl ?_
  replace hf := zb_some hf
  obtain ⟨r_2, h2, hf⟩ := hf
  refine z_callV1 hX ok_X3_kindSet q1400 q1217 q1218 (zrm_ok hR (by decide)) (ct_X3_kindSet (fk_X11_mailOf  h1) h2) (zrec_Mail hX (fk_X11_mailOf  h1)) dX11_has_5 rfl rfl ?_
  obtain rfl := Option.some.inj hf
  exact z_iret hX hr rfl (zl rfl) (zl rfl) dX11_has_8
set_option maxHeartbeats 4000000 in
set_option maxRecDepth 100000 in
theorem ct_X11_has {E : zE} {v1 : Int32} {g : zM} {r : Except Nat Int32 × zM} (hf : fX11_has v1 g = some r) : zCt yX11_has cX11_has 2 (some .int) 2 1 E [.ref (E.1 + 0), .int v1] g (zoI r) := by
  refine zmet (by decide) (zl rfl) (fun X hE hX hT hR hr hn => ?_)
  subst hE
  exact fX11_has_ok hX hT hR hr hn  hf
def fX3_alikeFrom_L6 (h : Nat) (v1 : Int32) (r2 : Nat) (v3 : Int32) (g : zM) : Nat → Int32 → Int32 → Option Int32
  | 0, _, _ => none
  | n + 1, v4, v5 => if (g h 2) ≤ (v1 + v5) then some v4 else if (g r2 2) ≤ (v3 + v5) then some v4 else zb (fX3_kindAt h (v1 + v5) g) (fun r_3 => zb (fX3_kindAt r2 (v3 + v5) g) (fun r_4 => if r_3 = r_4 then fX3_alikeFrom_L6 h v1 r2 v3 g n (v4 + 1) (v5 + 1) else some v4))
def fX3_alikeFrom (h : Nat) (v1 : Int32) (r2 : Nat) (v3 : Int32) (g : zM) : Option Int32 := fX3_alikeFrom_L6 h v1 r2 v3 g zFU 0 0
set_option maxHeartbeats 4000000 in
set_option maxRecDepth 100000 in
theorem fX3_alikeFrom_L6_ok {X : zX} (hX : zCX X cX3_alikeFrom RX3) (hT : zNT X) (hR : X.2.2.2.1 = zrm 1 0) (hr : X.2.2.2.2.2.2.2.2.1.sig.returnType = (some .int)) (hn : X.2.2.2.2.2.2.2.2.2.1.maxLocals = 6) {h : Nat} {v1 : Int32} {r2 : Nat} {v3 : Int32} (hkh : zK h = 3) (hkr2 : zK r2 = 3) {g : zM} {r : Int32}  : ∀ (n : Nat) (v4 : Int32) (v5 : Int32), fX3_alikeFrom_L6 h v1 r2 v3 g n v4 v5 = some r → zW X (zQ X (.inl (some (.int r), g)) 0) 0 0 6 [(0, .ref (zB X + h)), (1, .int v1), (2, .ref (zB X + r2)), (3, .int v3), (4, .int v4), (5, .int v5)] [] g := by
  intro n
  induction n with
  | zero => intro v4 v5 hf; exact zno hf
  | succ n ih =>
    intro v4 v5 hf
    rw [fX3_alikeFrom_L6] at hf
    refine z_iload_n hX dX3_alikeFrom_6 1 rfl ?_
    refine z_iload hX dX3_alikeFrom_7 5 rfl ?_
    refine z_iadd hX dX3_alikeFrom_9 ?_
    refine z_aload_n hX dX3_alikeFrom_10 0 rfl ?_
    refine gf_Mail_lines hX hkh q173 dX3_alikeFrom_11 ?_
    refine z_icmp_ge hX 59 dX3_alikeFrom_14 (by decide) (fun h1 => ?_) (fun h1 => ?_)
    · replace hf := zif_pos h1 hf
      refine z_iload hX dX3_alikeFrom_59 4 rfl ?_
      obtain rfl := Option.some.inj hf
      exact z_iret hX hr rfl (zl rfl) (zl rfl) dX3_alikeFrom_61
    · replace hf := zif_neg h1 hf
      refine z_iload_n hX dX3_alikeFrom_17 3 rfl ?_
      refine z_iload hX dX3_alikeFrom_18 5 rfl ?_
      refine z_iadd hX dX3_alikeFrom_20 ?_
      refine z_aload_n hX dX3_alikeFrom_21 2 rfl ?_
      refine gf_Mail_lines hX hkr2 q173 dX3_alikeFrom_22 ?_
      refine z_icmp_ge hX 59 dX3_alikeFrom_25 (by decide) (fun h2 => ?_) (fun h2 => ?_)
      · replace hf := zif_pos h2 hf
        refine z_iload hX dX3_alikeFrom_59 4 rfl ?_
        obtain rfl := Option.some.inj hf
        exact z_iret hX hr rfl (zl rfl) (zl rfl) dX3_alikeFrom_61
      · replace hf := zif_neg h2 hf
        refine z_aload_n hX dX3_alikeFrom_28 0 rfl ?_
        refine z_iload_n hX dX3_alikeFrom_29 1 rfl ?_
        refine z_iload hX dX3_alikeFrom_30 5 rfl ?_
        refine z_iadd hX dX3_alikeFrom_32 ?_
        replace hf := zb_some hf
        obtain ⟨r_3, h3, hf⟩ := hf
        refine z_callV1 hX ok_X3_kindAt q521 q522 q523 (zrm_ok hR (by decide)) (ct_X3_kindAt hkh h3) (zrec_Mail hX hkh) dX3_alikeFrom_33 rfl rfl ?_
        refine z_aload_n hX dX3_alikeFrom_36 2 rfl ?_
        refine z_iload_n hX dX3_alikeFrom_37 3 rfl ?_
        refine z_iload hX dX3_alikeFrom_38 5 rfl ?_
        refine z_iadd hX dX3_alikeFrom_40 ?_
        replace hf := zb_some hf
        obtain ⟨r_4, h4, hf⟩ := hf
        refine z_callV1 hX ok_X3_kindAt q521 q522 q523 (zrm_ok hR (by decide)) (ct_X3_kindAt hkr2 h4) (zrec_Mail hX hkr2) dX3_alikeFrom_41 rfl rfl ?_
        refine z_icmp_eq hX 50 dX3_alikeFrom_44 (by decide) (fun h5 => ?_) (fun h5 => ?_)
        · replace hf := zif_pos h5 hf
          refine z_iincc (lv' := [(4, .int (v4 + 1)), (0, .ref (zB X + h)), (1, .int v1), (2, .ref (zB X + r2)), (3, .int v3), (5, .int v5)]) hX dX3_alikeFrom_50 hn (by decide) 4 rfl ci_1 rfl ?_
          refine z_iincc (lv' := [(5, .int (v5 + 1)), (4, .int (v4 + 1)), (0, .ref (zB X + h)), (1, .int v1), (2, .ref (zB X + r2)), (3, .int v3)]) hX dX3_alikeFrom_53 hn (by decide) 5 rfl ci_1 rfl ?_
          refine z_goto hX 6 dX3_alikeFrom_56 (by decide) ?_
          refine zW.sub [2, 3, 4, 5, 1, 0] rfl ?_
          exact ih (v4 + 1) (v5 + 1) hf
        · replace hf := zif_neg h5 hf
          refine z_iload hX dX3_alikeFrom_47 4 rfl ?_
          obtain rfl := Option.some.inj hf
          exact z_iret hX hr rfl (zl rfl) (zl rfl) dX3_alikeFrom_49
set_option maxHeartbeats 4000000 in
set_option maxRecDepth 100000 in
theorem fX3_alikeFrom_ok {X : zX} (hX : zCX X cX3_alikeFrom RX3) (hT : zNT X) (hR : X.2.2.2.1 = zrm 1 0) (hr : X.2.2.2.2.2.2.2.2.1.sig.returnType = (some .int)) (hn : X.2.2.2.2.2.2.2.2.2.1.maxLocals = 6) {h : Nat} {v1 : Int32} {r2 : Nat} {v3 : Int32} (hkh : zK h = 3) (hk2 : zK r2 = 3) {g : zM} {r : Int32} (hf : fX3_alikeFrom h v1 r2 v3 g = some r) : zW X (zQ X (.inl (some (.int r), g)) 0) 0 0 0 [(0, .ref (zB X + h)), (1, .int v1), (2, .ref (zB X + r2)), (3, .int v3)] [] g := by
  unfold fX3_alikeFrom at hf
  refine z_iconst hX dX3_alikeFrom_0 ci_0 ?_
  refine z_istore (lv' := [(4, .int 0), (0, .ref (zB X + h)), (1, .int v1), (2, .ref (zB X + r2)), (3, .int v3)]) hX dX3_alikeFrom_1 hn (by decide) rfl ?_
  refine z_iconst hX dX3_alikeFrom_3 ci_0 ?_
  refine z_istore (lv' := [(5, .int 0), (4, .int 0), (0, .ref (zB X + h)), (1, .int v1), (2, .ref (zB X + r2)), (3, .int v3)]) hX dX3_alikeFrom_4 hn (by decide) rfl ?_
  refine zW.sub [2, 3, 4, 5, 1, 0] rfl ?_
  exact fX3_alikeFrom_L6_ok hX hT hR hr hn hkh hk2 zFU 0 0 hf
set_option maxHeartbeats 4000000 in
set_option maxRecDepth 100000 in
theorem ct_X3_alikeFrom {E : zE} {h : Nat} {v1 : Int32} {r2 : Nat} {v3 : Int32} (hkh : zK h = 3) (hk2 : zK r2 = 3) {g : zM} {r : Int32} (hf : fX3_alikeFrom h v1 r2 v3 g = some r) : zCt yX3_alikeFrom cX3_alikeFrom 6 (some .int) 1 0 E [.ref (E.1 + h), .int v1, .ref (E.1 + r2), .int v3] g (.inl (some (.int r), g)) := by
  refine zmet (by decide) (zl rfl) (fun X hE hX hT hR hr hn => ?_)
  subst hE
  exact fX3_alikeFrom_ok hX hT hR hr hn hkh hk2 hf
def fX11_echo_L26 (r2 : Nat) (v4 : Int32) (g : zM) (k55 : Int32 → Option (Except Nat Int32 × zM)) : Nat → Int32 → Int32 → Option (Except Nat Int32 × zM)
  | 0, _, _ => none
  | n + 1, v3, v5 => if (g r2 2) ≤ v5 then k55 v3 else zb (fX3_alikeFrom r2 v4 r2 v5 g) (fun r_4 => fX11_echo_L26 r2 v4 g k55 n (if v3 < r_4 then r_4 else v3) (v5 + 1))
def fX11_echo_L11 (r2 : Nat) (g : zM) : Nat → Int32 → Int32 → Option (Except Nat Int32 × zM)
  | 0, _, _ => none
  | n + 1, v3, v4 => if (g r2 2) ≤ v4 then some (.ok v3, g) else fX11_echo_L26 r2 v4 g (fun v3_5 => fX11_echo_L11 r2 g n v3_5 (v4 + 1)) zFU v3 (v4 + 1)
def fX11_echo (v1 : Int32) (g : zM) : Option (Except Nat Int32 × zM) := zb3 (fX11_mailOf v1 g) (fun r_1 g1 => fX11_echo_L11 r_1 g1 zFU 0 0)
set_option maxHeartbeats 4000000 in
set_option maxRecDepth 100000 in
theorem fX11_echo_L26_ok {X : zX} (hX : zCX X cX11_echo RX11) (hT : zNT X) (hR : X.2.2.2.1 = zrm 5 1) (hr : X.2.2.2.2.2.2.2.2.1.sig.returnType = (some .int)) (hn : X.2.2.2.2.2.2.2.2.2.1.maxLocals = 6) {r2 : Nat} {v4 : Int32} (hkr2 : zK r2 = 3) {g : zM} {k55 : Int32 → Option (Except Nat Int32 × zM)} {r : Except Nat Int32 × zM} (hk55 : ∀ (v3 : Int32), k55 v3 = some r → zW X (zQ X (zoI r) 1) 1 6 55 [(2, .ref (zB X + r2)), (3, .int v3), (4, .int v4)] [] g) : ∀ (n : Nat) (v3 : Int32) (v5 : Int32), fX11_echo_L26 r2 v4 g k55 n v3 v5 = some r → zW X (zQ X (zoI r) 1) 1 6 26 [(2, .ref (zB X + r2)), (3, .int v3), (4, .int v4), (5, .int v5)] [] g := by
  intro n
  induction n with
  | zero => intro v3 v5 hf; exact zno hf
  | succ n ih =>
    intro v3 v5 hf
    rw [fX11_echo_L26] at hf
    refine z_iload hX dX11_echo_26 3 rfl ?_
    refine z_aload_n hX dX11_echo_28 0 rfl ?_
    refine gf_Mail_lines_N hX hkr2 qn176 dX11_echo_29 ?_
    refine z_icmp_ge hX 55 dX11_echo_32 (by decide) (fun h3 => ?_) (fun h3 => ?_)
    · replace hf := zif_pos h3 hf
      refine zW.sub [0, 1, 2] rfl ?_
      exact hk55 v3 hf
    · replace hf := zif_neg h3 hf
      refine z_iload_n hX dX11_echo_35 1 rfl ?_
      refine z_aload_n hX dX11_echo_36 0 rfl ?_
      refine z_iload hX dX11_echo_37 2 rfl ?_
      refine z_aload_n hX dX11_echo_39 0 rfl ?_
      refine z_iload hX dX11_echo_40 3 rfl ?_
      replace hf := zb_some hf
      obtain ⟨r_4, h4, hf⟩ := hf
      refine z_callV1 hX ok_X3_alikeFrom q1408 q1409 q1410 (zrm_ok hR (by decide)) (ct_X3_alikeFrom hkr2 hkr2 h4) (zrec_Mail hX hkr2) dX11_echo_42 rfl rfl ?_
      refine z_max hX hR ⟨zl rfl, zl rfl⟩ q1412 dX11_echo_45 (zl rfl) ?_
      refine z_istore_n (lv' := [(3, .int (if v3 < r_4 then r_4 else v3)), (2, .ref (zB X + r2)), (4, .int v4), (5, .int v5)]) hX dX11_echo_48 hn (by decide) rfl ?_
      refine z_iincc (lv' := [(5, .int (v5 + 1)), (3, .int (if v3 < r_4 then r_4 else v3)), (2, .ref (zB X + r2)), (4, .int v4)]) hX dX11_echo_49 hn (by decide) 3 rfl ci_1 rfl ?_
      refine z_goto hX 26 dX11_echo_52 (by decide) ?_
      refine zW.sub [2, 1, 3, 0] rfl ?_
      exact ih (if v3 < r_4 then r_4 else v3) (v5 + 1) hf
set_option maxHeartbeats 4000000 in
set_option maxRecDepth 100000 in
theorem fX11_echo_L11_ok {X : zX} (hX : zCX X cX11_echo RX11) (hT : zNT X) (hR : X.2.2.2.1 = zrm 5 1) (hr : X.2.2.2.2.2.2.2.2.1.sig.returnType = (some .int)) (hn : X.2.2.2.2.2.2.2.2.2.1.maxLocals = 6) {r2 : Nat} (hkr2 : zK r2 = 3) {g : zM} {r : Except Nat Int32 × zM}  : ∀ (n : Nat) (v3 : Int32) (v4 : Int32), fX11_echo_L11 r2 g n v3 v4 = some r → zW X (zQ X (zoI r) 1) 1 6 11 [(2, .ref (zB X + r2)), (3, .int v3), (4, .int v4)] [] g := by
  intro n
  induction n with
  | zero => intro v3 v4 hf; exact zno hf
  | succ n ih =>
    intro v3 v4 hf
    rw [fX11_echo_L11] at hf
    refine z_iload hX dX11_echo_11 2 rfl ?_
    refine z_aload_n hX dX11_echo_13 0 rfl ?_
    refine gf_Mail_lines_N hX hkr2 qn176 dX11_echo_14 ?_
    refine z_icmp_ge hX 61 dX11_echo_17 (by decide) (fun h2 => ?_) (fun h2 => ?_)
    · replace hf := zif_pos h2 hf
      refine z_iload_n hX dX11_echo_61 1 rfl ?_
      obtain rfl := Option.some.inj hf
      exact z_iret hX hr rfl (zl rfl) (zl rfl) dX11_echo_62
    · replace hf := zif_neg h2 hf
      refine z_iload hX dX11_echo_20 2 rfl ?_
      refine z_iconst hX dX11_echo_22 ci_1 ?_
      refine z_iadd hX dX11_echo_23 ?_
      refine z_istore (lv' := [(5, .int (v4 + 1)), (2, .ref (zB X + r2)), (3, .int v3), (4, .int v4)]) hX dX11_echo_24 hn (by decide) rfl ?_
      refine zW.sub [1, 2, 3, 0] rfl ?_
      refine fX11_echo_L26_ok hX hT hR hr hn hkr2 (fun v3_5 hf => ?_) zFU v3 (v4 + 1) hf
      · refine z_iincc (lv' := [(4, .int (v4 + 1)), (2, .ref (zB X + r2)), (3, .int v3_5)]) hX dX11_echo_55 hn (by decide) 2 rfl ci_1 rfl ?_
        refine z_goto hX 11 dX11_echo_58 (by decide) ?_
        refine zW.sub [1, 2, 0] rfl ?_
        exact ih v3_5 (v4 + 1) hf
set_option maxHeartbeats 4000000 in
set_option maxRecDepth 100000 in
theorem fX11_echo_ok {X : zX} (hX : zCX X cX11_echo RX11) (hT : zNT X) (hR : X.2.2.2.1 = zrm 5 1) (hr : X.2.2.2.2.2.2.2.2.1.sig.returnType = (some .int)) (hn : X.2.2.2.2.2.2.2.2.2.1.maxLocals = 6) {v1 : Int32} {g : zM} {r : Except Nat Int32 × zM} (hf : fX11_echo v1 g = some r) : zW X (zQ X (zoI r) 1) 0 0 0 [(0, .ref (zB X + 0)), (1, .int v1)] [] g := by
  unfold fX11_echo at hf
  refine z_aload_n hX dX11_echo_0 0 rfl ?_
  refine z_iload_n hX dX11_echo_1 1 rfl ?_
  replace hf := zb3_some hf
  rcases hf with ⟨c1, g1, h1, rfl⟩ | ⟨r_1, g1, h1, hf⟩
  · exact z_callV_x hX hT ok_X11_mailOf q974 q976 q25 (zrm_ok hR (by decide)) (ct_X11_mailOf  h1) (zrec_Post hX zq_0) dX11_echo_2 rfl rfl (zl rfl) (zl rfl)
  refine z_callV1 hX ok_X11_mailOf q974 q976 q25 (zrm_ok hR (by decide)) (ct_X11_mailOf  h1) (zrec_Post hX zq_0) dX11_echo_2 rfl rfl ?_
  refine z_astore_n (lv' := [(2, .ref (zB X + r_1)), (0, .ref (zB X + 0)), (1, .int v1)]) hX dX11_echo_5 hn (by decide) rfl ?_
  refine z_iconst hX dX11_echo_6 ci_0 ?_
  refine z_istore_n (lv' := [(3, .int 0), (2, .ref (zB X + r_1)), (0, .ref (zB X + 0)), (1, .int v1)]) hX dX11_echo_7 hn (by decide) rfl ?_
  refine z_iconst hX dX11_echo_8 ci_0 ?_
  refine z_istore (lv' := [(4, .int 0), (3, .int 0), (2, .ref (zB X + r_1)), (0, .ref (zB X + 0)), (1, .int v1)]) hX dX11_echo_9 hn (by decide) rfl ?_
  refine zW.sub [2, 1, 0] rfl ?_
  exact fX11_echo_L11_ok hX hT hR hr hn (fk_X11_mailOf  h1) zFU 0 0 hf
set_option maxHeartbeats 4000000 in
set_option maxRecDepth 100000 in
theorem ct_X11_echo {E : zE} {v1 : Int32} {g : zM} {r : Except Nat Int32 × zM} (hf : fX11_echo v1 g = some r) : zCt yX11_echo cX11_echo 6 (some .int) 5 1 E [.ref (E.1 + 0), .int v1] g (zoI r) := by
  refine zmet (by decide) (zl rfl) (fun X hE hX hT hR hr hn => ?_)
  subst hE
  exact fX11_echo_ok hX hT hR hr hn  hf
def fX11_common_L36 (r3 : Nat) (r4 : Nat) (v6 : Int32) (g : zM) (k69 : Int32 → Option (Except Nat Int32 × zM)) : Nat → Int32 → Int32 → Option (Except Nat Int32 × zM)
  | 0, _, _ => none
  | n + 1, v5, v7 => if (g r4 2) ≤ v7 then k69 v5 else zb (fX3_alikeFrom r3 v6 r4 v7 g) (fun r_6 => fX11_common_L36 r3 r4 v6 g k69 n (if v5 < r_6 then r_6 else v5) (v7 + 1))
def fX11_common_L24 (r3 : Nat) (r4 : Nat) (g : zM) : Nat → Int32 → Int32 → Option (Except Nat Int32 × zM)
  | 0, _, _ => none
  | n + 1, v5, v6 => if (g r3 2) ≤ v6 then some (.ok v5, g) else fX11_common_L36 r3 r4 v6 g (fun v5_7 => fX11_common_L24 r3 r4 g n v5_7 (v6 + 1)) zFU v5 0
def fX11_common (v1 : Int32) (v2 : Int32) (g : zM) : Option (Except Nat Int32 × zM) := zb3 (fX11_mailOf v1 g) (fun r_1 g1 => zb3 (fX11_mailOf v2 g1) (fun r_2 g2 => zb3 (fX11_needTwo v1 v2 g2) (fun _ g3 => fX11_common_L24 r_1 r_2 g3 zFU 0 0)))
set_option maxHeartbeats 4000000 in
set_option maxRecDepth 100000 in
theorem fX11_common_L36_ok {X : zX} (hX : zCX X cX11_common RX11) (hT : zNT X) (hR : X.2.2.2.1 = zrm 5 3) (hr : X.2.2.2.2.2.2.2.2.1.sig.returnType = (some .int)) (hn : X.2.2.2.2.2.2.2.2.2.1.maxLocals = 8) {r3 : Nat} {r4 : Nat} {v6 : Int32} (hkr3 : zK r3 = 3) (hkr4 : zK r4 = 3) {g : zM} {k69 : Int32 → Option (Except Nat Int32 × zM)} {r : Except Nat Int32 × zM} (hk69 : ∀ (v5 : Int32), k69 v5 = some r → zW X (zQ X (zoI r) 3) 3 18 69 [(3, .ref (zB X + r3)), (4, .ref (zB X + r4)), (5, .int v5), (6, .int v6)] [] g) : ∀ (n : Nat) (v5 : Int32) (v7 : Int32), fX11_common_L36 r3 r4 v6 g k69 n v5 v7 = some r → zW X (zQ X (zoI r) 3) 3 18 36 [(3, .ref (zB X + r3)), (4, .ref (zB X + r4)), (5, .int v5), (6, .int v6), (7, .int v7)] [] g := by
  intro n
  induction n with
  | zero => intro v5 v7 hf; exact zno hf
  | succ n ih =>
    intro v5 v7 hf
    rw [fX11_common_L36] at hf
    refine z_iload hX dX11_common_36 4 rfl ?_
    refine z_aload hX dX11_common_38 1 rfl ?_
    refine gf_Mail_lines_N hX hkr4 qn176 dX11_common_40 ?_
    refine z_icmp_ge hX 69 dX11_common_43 (by decide) (fun h5 => ?_) (fun h5 => ?_)
    · replace hf := zif_pos h5 hf
      refine zW.sub [0, 1, 2, 3] rfl ?_
      exact hk69 v5 hf
    · replace hf := zif_neg h5 hf
      refine z_iload hX dX11_common_46 2 rfl ?_
      refine z_aload_n hX dX11_common_48 0 rfl ?_
      refine z_iload hX dX11_common_49 3 rfl ?_
      refine z_aload hX dX11_common_51 1 rfl ?_
      refine z_iload hX dX11_common_53 4 rfl ?_
      replace hf := zb_some hf
      obtain ⟨r_6, h6, hf⟩ := hf
      refine z_callV1 hX ok_X3_alikeFrom q1408 q1409 q1410 (zrm_ok hR (by decide)) (ct_X3_alikeFrom hkr3 hkr4 h6) (zrec_Mail hX hkr3) dX11_common_55 rfl rfl ?_
      refine z_max hX hR ⟨zl rfl, zl rfl⟩ q1412 dX11_common_58 (zl rfl) ?_
      refine z_istore (lv' := [(5, .int (if v5 < r_6 then r_6 else v5)), (3, .ref (zB X + r3)), (4, .ref (zB X + r4)), (6, .int v6), (7, .int v7)]) hX dX11_common_61 hn (by decide) rfl ?_
      refine z_iincc (lv' := [(7, .int (v7 + 1)), (5, .int (if v5 < r_6 then r_6 else v5)), (3, .ref (zB X + r3)), (4, .ref (zB X + r4)), (6, .int v6)]) hX dX11_common_63 hn (by decide) 4 rfl ci_1 rfl ?_
      refine z_goto hX 36 dX11_common_66 (by decide) ?_
      refine zW.sub [2, 3, 1, 4, 0] rfl ?_
      exact ih (if v5 < r_6 then r_6 else v5) (v7 + 1) hf
set_option maxHeartbeats 4000000 in
set_option maxRecDepth 100000 in
theorem fX11_common_L24_ok {X : zX} (hX : zCX X cX11_common RX11) (hT : zNT X) (hR : X.2.2.2.1 = zrm 5 3) (hr : X.2.2.2.2.2.2.2.2.1.sig.returnType = (some .int)) (hn : X.2.2.2.2.2.2.2.2.2.1.maxLocals = 8) {r3 : Nat} {r4 : Nat} (hkr3 : zK r3 = 3) (hkr4 : zK r4 = 3) {g : zM} {r : Except Nat Int32 × zM}  : ∀ (n : Nat) (v5 : Int32) (v6 : Int32), fX11_common_L24 r3 r4 g n v5 v6 = some r → zW X (zQ X (zoI r) 3) 3 18 24 [(3, .ref (zB X + r3)), (4, .ref (zB X + r4)), (5, .int v5), (6, .int v6)] [] g := by
  intro n
  induction n with
  | zero => intro v5 v6 hf; exact zno hf
  | succ n ih =>
    intro v5 v6 hf
    rw [fX11_common_L24] at hf
    refine z_iload hX dX11_common_24 3 rfl ?_
    refine z_aload_n hX dX11_common_26 0 rfl ?_
    refine gf_Mail_lines_N hX hkr3 qn176 dX11_common_27 ?_
    refine z_icmp_ge hX 75 dX11_common_30 (by decide) (fun h4 => ?_) (fun h4 => ?_)
    · replace hf := zif_pos h4 hf
      refine z_iload hX dX11_common_75 2 rfl ?_
      obtain rfl := Option.some.inj hf
      exact z_iret hX hr rfl (zl rfl) (zl rfl) dX11_common_77
    · replace hf := zif_neg h4 hf
      refine z_iconst hX dX11_common_33 ci_0 ?_
      refine z_istore (lv' := [(7, .int 0), (3, .ref (zB X + r3)), (4, .ref (zB X + r4)), (5, .int v5), (6, .int v6)]) hX dX11_common_34 hn (by decide) rfl ?_
      refine zW.sub [1, 2, 3, 4, 0] rfl ?_
      refine fX11_common_L36_ok hX hT hR hr hn hkr3 hkr4 (fun v5_7 hf => ?_) zFU v5 0 hf
      · refine z_iincc (lv' := [(6, .int (v6 + 1)), (3, .ref (zB X + r3)), (4, .ref (zB X + r4)), (5, .int v5_7)]) hX dX11_common_69 hn (by decide) 3 rfl ci_1 rfl ?_
        refine z_goto hX 24 dX11_common_72 (by decide) ?_
        refine zW.sub [1, 2, 3, 0] rfl ?_
        exact ih v5_7 (v6 + 1) hf
set_option maxHeartbeats 4000000 in
set_option maxRecDepth 100000 in
theorem fX11_common_ok {X : zX} (hX : zCX X cX11_common RX11) (hT : zNT X) (hR : X.2.2.2.1 = zrm 5 3) (hr : X.2.2.2.2.2.2.2.2.1.sig.returnType = (some .int)) (hn : X.2.2.2.2.2.2.2.2.2.1.maxLocals = 8) {v1 : Int32} {v2 : Int32} {g : zM} {r : Except Nat Int32 × zM} (hf : fX11_common v1 v2 g = some r) : zW X (zQ X (zoI r) 3) 0 0 0 [(0, .ref (zB X + 0)), (1, .int v1), (2, .int v2)] [] g := by
  unfold fX11_common at hf
  refine z_aload_n hX dX11_common_0 0 rfl ?_
  refine z_iload_n hX dX11_common_1 1 rfl ?_
  replace hf := zb3_some hf
  rcases hf with ⟨c1, g1, h1, rfl⟩ | ⟨r_1, g1, h1, hf⟩
  · exact z_callV_x hX hT ok_X11_mailOf q974 q976 q25 (zrm_ok hR (by decide)) (ct_X11_mailOf  h1) (zrec_Post hX zq_0) dX11_common_2 rfl rfl (zl rfl) (zl rfl)
  refine z_callV1 hX ok_X11_mailOf q974 q976 q25 (zrm_ok hR (by decide)) (ct_X11_mailOf  h1) (zrec_Post hX zq_0) dX11_common_2 rfl rfl ?_
  refine z_astore_n (lv' := [(3, .ref (zB X + r_1)), (0, .ref (zB X + 0)), (1, .int v1), (2, .int v2)]) hX dX11_common_5 hn (by decide) rfl ?_
  refine z_aload_n hX dX11_common_6 1 rfl ?_
  refine z_iload_n hX dX11_common_7 3 rfl ?_
  replace hf := zb3_some hf
  rcases hf with ⟨c2, g2, h2, rfl⟩ | ⟨r_2, g2, h2, hf⟩
  · exact z_callV_x hX hT ok_X11_mailOf q974 q976 q25 (zrm_ok hR (by decide)) (ct_X11_mailOf  h2) (zrec_Post hX zq_0) dX11_common_8 rfl rfl (zl rfl) (zl rfl)
  refine z_callV1 hX ok_X11_mailOf q974 q976 q25 (zrm_ok hR (by decide)) (ct_X11_mailOf  h2) (zrec_Post hX zq_0) dX11_common_8 rfl rfl ?_
  refine z_astore (lv' := [(4, .ref (zB X + r_2)), (3, .ref (zB X + r_1)), (0, .ref (zB X + 0)), (1, .int v1), (2, .int v2)]) hX dX11_common_11 hn (by decide) rfl ?_
  refine z_iload_n hX dX11_common_13 3 rfl ?_
  refine z_iload_n hX dX11_common_14 4 rfl ?_
  replace hf := zb3_some hf
  rcases hf with ⟨c3, g3, h3, rfl⟩ | ⟨r_3, g3, h3, hf⟩
  · exact z_callS_x hX hT ok_X11_needTwo rfl q1301 q1302 (zrm_ok hR (by decide)) (ct_X11_needTwo  h3) dX11_common_15 rfl rfl (zl rfl) (zl rfl)
  refine z_callS0 hX ok_X11_needTwo rfl q1301 q1302 (zrm_ok hR (by decide)) (ct_X11_needTwo  h3) dX11_common_15 rfl rfl ?_
  refine z_iconst hX dX11_common_18 ci_0 ?_
  refine z_istore (lv' := [(5, .int 0), (4, .ref (zB X + r_2)), (3, .ref (zB X + r_1)), (0, .ref (zB X + 0)), (1, .int v1), (2, .int v2)]) hX dX11_common_19 hn (by decide) rfl ?_
  refine z_iconst hX dX11_common_21 ci_0 ?_
  refine z_istore (lv' := [(6, .int 0), (5, .int 0), (4, .ref (zB X + r_2)), (3, .ref (zB X + r_1)), (0, .ref (zB X + 0)), (1, .int v1), (2, .int v2)]) hX dX11_common_22 hn (by decide) rfl ?_
  refine zW.sub [3, 2, 1, 0] rfl ?_
  exact fX11_common_L24_ok hX hT hR hr hn (fk_X11_mailOf  h1) (fk_X11_mailOf  h2) zFU 0 0 hf
set_option maxHeartbeats 4000000 in
set_option maxRecDepth 100000 in
theorem ct_X11_common {E : zE} {v1 : Int32} {v2 : Int32} {g : zM} {r : Except Nat Int32 × zM} (hf : fX11_common v1 v2 g = some r) : zCt yX11_common cX11_common 8 (some .int) 5 3 E [.ref (E.1 + 0), .int v1, .int v2] g (zoI r) := by
  refine zmet (by decide) (zl rfl) (fun X hE hX hT hR hr hn => ?_)
  subst hE
  exact fX11_common_ok hX hT hR hr hn  hf
def fX11_author_L31 (v2 : Int32) : Nat → Int32 → Int32 → Int32 → zM → Option (Except Nat Int32 × zM)
  | 0, _, _, _, _ => none
  | n + 1, v3, v4, v5, g => if 10 ≤ v5 then some (.ok v4, g) else zjoin (fun g4 => zb2 (fX1_astrayIn 29 447 g4) (fun r_5 g5 => zb (fJ6_bitCount_0f7a4 r_5 g5) (fun r_6 => if v3 ≤ r_6 then fX11_author_L31 v2 n v3 v4 (v5 + 1) g5 else fX11_author_L31 v2 n r_6 v5 (v5 + 1) g5)) : zM → Option (Except Nat Int32 × zM)) (fun k69 => if v2 = 0 then zput g 447 3 v5 (fun g9 => k69 g9) else zput g 447 4 v5 (fun g10 => k69 g10))
def fX11_author (v1 : Int32) (v2 : Int32) (g : zM) : Option (Except Nat Int32 × zM) := zb3 (fX11_mailOf v1 g) (fun r_1 g1 => zb (fX7_look 446 r_1 (g1 3 2) g1) (fun g2 => fX11_author_L31 v2 zFU 25 0 0 g2))
set_option maxHeartbeats 4000000 in
set_option maxRecDepth 100000 in
theorem fX11_author_L31_ok {X : zX} (hX : zCX X cX11_author RX11) (hT : zNT X) (hR : X.2.2.2.1 = zrm 7 1) (hr : X.2.2.2.2.2.2.2.2.1.sig.returnType = (some .int)) (hn : X.2.2.2.2.2.2.2.2.2.1.maxLocals = 7) {v2 : Int32} {r : Except Nat Int32 × zM}  : ∀ (n : Nat) (v3 : Int32) (v4 : Int32) (v5 : Int32) (g : zM), fX11_author_L31 v2 n v3 v4 v5 g = some r → zW X (zQ X (zoI r) 1) 1 6 31 [(0, .ref (zB X + 0)), (2, .int v2), (3, .int v3), (4, .int v4), (5, .int v5)] [] g := by
  intro n
  induction n with
  | zero => intro v3 v4 v5 g hf; exact zno hf
  | succ n ih =>
    intro v3 v4 v5 g hf
    rw [fX11_author_L31] at hf
    refine z_iload hX dX11_author_31 4 rfl ?_
    refine z_bipush hX dX11_author_33 cb_10 ?_
    refine z_icmp_ge hX 110 dX11_author_35 (by decide) (fun h3 => ?_) (fun h3 => ?_)
    · replace hf := zif_pos h3 hf
      refine z_iload hX dX11_author_110 3 rfl ?_
      obtain rfl := Option.some.inj hf
      exact z_iret hX hr rfl (zl rfl) (zl rfl) dX11_author_112
    · replace hf := zif_neg h3 hf
      refine z_iload_n hX dX11_author_38 1 rfl ?_
      refine zjoin_ok (P := fun (k : zM → Option (Except Nat Int32 × zM)) => ∀ (g4 : zM), k g4 = some r → zW X (zQ X (zoI r) 1) 1 6 69 [(0, .ref (zB X + 0)), (2, .int v2), (3, .int v3), (4, .int v4), (5, .int v5)] [] g4) hf (fun g4 hf => ?_) (fun k69 hk69 hf => ?_)
      · refine z_aload_n hX dX11_author_69 0 rfl ?_
        refine gf_Post_now hX zq_0 q439 dX11_author_70 ?_
        refine gf_World_law_N hX zq_2 qn275 dX11_author_73 ?_
        refine z_aload_n hX dX11_author_76 0 rfl ?_
        refine gf_Post_sight hX zq_0 q445 dX11_author_77 ?_
        refine gf_Sight_mail_N hX zq_446 qn404 dX11_author_80 ?_
        replace hf := zb2_some hf
        obtain ⟨r_5, g5, h5, hf⟩ := hf
        refine z_callV1 hX ok_X1_astrayIn q1271 q1272 q1273 (zrm_ok hR (by decide)) (ct_X1_astrayIn zq_29 zq_447 h5) (zrec_Law hX zq_29) dX11_author_83 rfl rfl ?_
        replace hf := zb_some hf
        obtain ⟨r_6, h6, hf⟩ := hf
        refine z_callJ1 hX ok_J6_bitCount_0f7a4 q1392 q1373 (zrm_ok hR (by decide)) (ct_J6_bitCount_0f7a4  h6) dX11_author_86 rfl rfl ?_
        refine z_istore (lv' := [(6, .int r_6), (0, .ref (zB X + 0)), (2, .int v2), (3, .int v3), (4, .int v4), (5, .int v5)]) hX dX11_author_89 hn (by decide) rfl ?_
        refine z_iload hX dX11_author_91 0 rfl ?_
        refine z_iload_n hX dX11_author_93 3 rfl ?_
        refine z_icmp_ge hX 104 dX11_author_94 (by decide) (fun h7 => ?_) (fun h7 => ?_)
        · replace hf := zif_pos h7 hf
          refine z_iincc (lv' := [(5, .int (v5 + 1)), (6, .int r_6), (0, .ref (zB X + 0)), (2, .int v2), (3, .int v3), (4, .int v4)]) hX dX11_author_104 hn (by decide) 5 rfl ci_1 rfl ?_
          refine z_goto hX 31 dX11_author_107 (by decide) ?_
          refine zW.sub [2, 3, 4, 5, 0] rfl ?_
          exact ih v3 v4 (v5 + 1) g5 hf
        · replace hf := zif_neg h7 hf
          refine z_iload hX dX11_author_97 0 rfl ?_
          refine z_istore_n (lv' := [(3, .int r_6), (6, .int r_6), (0, .ref (zB X + 0)), (2, .int v2), (4, .int v4), (5, .int v5)]) hX dX11_author_99 hn (by decide) rfl ?_
          refine z_iload hX dX11_author_100 5 rfl ?_
          refine z_istore (lv' := [(4, .int v5), (3, .int r_6), (6, .int r_6), (0, .ref (zB X + 0)), (2, .int v2), (5, .int v5)]) hX dX11_author_102 hn (by decide) rfl ?_
          refine z_iincc (lv' := [(5, .int (v5 + 1)), (4, .int v5), (3, .int r_6), (6, .int r_6), (0, .ref (zB X + 0)), (2, .int v2)]) hX dX11_author_104 hn (by decide) 5 rfl ci_1 rfl ?_
          refine z_goto hX 31 dX11_author_107 (by decide) ?_
          refine zW.sub [4, 5, 2, 1, 0] rfl ?_
          exact ih r_6 v5 (v5 + 1) g5 hf
      · refine z_if_eq hX 57 dX11_author_39 (by decide) (fun h8 => ?_) (fun h8 => ?_)
        · replace hf := zif_pos h8 hf
          refine z_aload_n hX dX11_author_57 0 rfl ?_
          refine gf_Post_sight hX zq_0 q445 dX11_author_58 ?_
          refine gf_Sight_mail_N hX zq_446 qn404 dX11_author_61 ?_
          refine z_iload hX dX11_author_64 4 rfl ?_
          replace hf := zput_some hf
          obtain ⟨g9, eg9, hf⟩ := hf
          refine gp_Mail_temper_N hX zq_447 qn179 dX11_author_66 (zW.eqg eg9 ?_)
          exact hk69 g9 hf
        · replace hf := zif_neg h8 hf
          refine z_aload_n hX dX11_author_42 0 rfl ?_
          refine gf_Post_sight hX zq_0 q445 dX11_author_43 ?_
          refine gf_Sight_mail_N hX zq_446 qn404 dX11_author_46 ?_
          refine z_iload hX dX11_author_49 4 rfl ?_
          replace hf := zput_some hf
          obtain ⟨g10, eg10, hf⟩ := hf
          refine gp_Mail_sender_N hX zq_447 qn182 dX11_author_51 (zW.eqg eg10 ?_)
          refine z_goto hX 69 dX11_author_54 (by decide) ?_
          exact hk69 g10 hf
set_option maxHeartbeats 4000000 in
set_option maxRecDepth 100000 in
theorem fX11_author_ok {X : zX} (hX : zCX X cX11_author RX11) (hT : zNT X) (hR : X.2.2.2.1 = zrm 7 1) (hr : X.2.2.2.2.2.2.2.2.1.sig.returnType = (some .int)) (hn : X.2.2.2.2.2.2.2.2.2.1.maxLocals = 7) {v1 : Int32} {v2 : Int32} {g : zM} {r : Except Nat Int32 × zM} (hf : fX11_author v1 v2 g = some r) : zW X (zQ X (zoI r) 1) 0 0 0 [(0, .ref (zB X + 0)), (1, .int v1), (2, .int v2)] [] g := by
  unfold fX11_author at hf
  refine z_aload_n hX dX11_author_0 0 rfl ?_
  refine gf_Post_sight hX zq_0 q445 dX11_author_1 ?_
  refine z_aload_n hX dX11_author_4 0 rfl ?_
  refine z_iload_n hX dX11_author_5 1 rfl ?_
  replace hf := zb3_some hf
  rcases hf with ⟨c1, g1, h1, rfl⟩ | ⟨r_1, g1, h1, hf⟩
  · exact z_callV_x hX hT ok_X11_mailOf q974 q976 q25 (zrm_ok hR (by decide)) (ct_X11_mailOf  h1) (zrec_Post hX zq_0) dX11_author_6 rfl rfl (zl rfl) (zl rfl)
  refine z_callV1 hX ok_X11_mailOf q974 q976 q25 (zrm_ok hR (by decide)) (ct_X11_mailOf  h1) (zrec_Post hX zq_0) dX11_author_6 rfl rfl ?_
  refine z_aload_n hX dX11_author_9 0 rfl ?_
  refine gf_Post_now hX zq_0 q439 dX11_author_10 ?_
  refine gf_World_bag_N hX zq_2 qn273 dX11_author_13 ?_
  refine gf_Bag_week_N hX zq_3 qn219 dX11_author_16 ?_
  replace hf := zb_some hf
  obtain ⟨g2, h2, hf⟩ := hf
  refine z_callV0 hX ok_X7_look q506 q507 q508 (zrm_ok hR (by decide)) (ct_X7_look zq_446 (fk_X11_mailOf  h1) h2) (zrec_Sight hX zq_446) dX11_author_19 rfl rfl ?_
  refine z_bipush hX dX11_author_22 cb_25 ?_
  refine z_istore_n (lv' := [(3, .int 25), (0, .ref (zB X + 0)), (1, .int v1), (2, .int v2)]) hX dX11_author_24 hn (by decide) rfl ?_
  refine z_iconst hX dX11_author_25 ci_0 ?_
  refine z_istore (lv' := [(4, .int 0), (3, .int 25), (0, .ref (zB X + 0)), (1, .int v1), (2, .int v2)]) hX dX11_author_26 hn (by decide) rfl ?_
  refine z_iconst hX dX11_author_28 ci_0 ?_
  refine z_istore (lv' := [(5, .int 0), (4, .int 0), (3, .int 25), (0, .ref (zB X + 0)), (1, .int v1), (2, .int v2)]) hX dX11_author_29 hn (by decide) rfl ?_
  refine zW.sub [3, 5, 2, 1, 0] rfl ?_
  exact fX11_author_L31_ok hX hT hR hr hn  zFU 25 0 0 g2 hf
set_option maxHeartbeats 4000000 in
set_option maxRecDepth 100000 in
theorem ct_X11_author {E : zE} {v1 : Int32} {v2 : Int32} {g : zM} {r : Except Nat Int32 × zM} (hf : fX11_author v1 v2 g = some r) : zCt yX11_author cX11_author 7 (some .int) 7 1 E [.ref (E.1 + 0), .int v1, .int v2] g (zoI r) := by
  refine zmet (by decide) (zl rfl) (fun X hE hX hT hR hr hn => ?_)
  subst hE
  exact fX11_author_ok hX hT hR hr hn  hf
def fX6_clear (g : zM) : Option zM := zput g 480 2 0 (fun g1 => some g1)
set_option maxHeartbeats 4000000 in
set_option maxRecDepth 100000 in
theorem fX6_clear_ok {X : zX} (hX : zCX X cX6_clear RX6) (hT : zNT X) (hR : X.2.2.2.1 = zrm 0 0) (hr : X.2.2.2.2.2.2.2.2.1.sig.returnType = none) (hn : X.2.2.2.2.2.2.2.2.2.1.maxLocals = 1)  {g : zM} {r : zM} (hf : fX6_clear g = some r) : zW X (zQ X (.inl (none, r)) 0) 0 0 0 [(0, .ref (zB X + 480))] [] g := by
  unfold fX6_clear at hf
  refine z_aload_n hX dX6_clear_0 0 rfl ?_
  refine z_iconst hX dX6_clear_1 ci_0 ?_
  replace hf := zput_some hf
  obtain ⟨g1, eg1, hf⟩ := hf
  refine gp_Shelving_letters hX zq_480 q426 dX6_clear_2 (zW.eqg eg1 ?_)
  obtain rfl := Option.some.inj hf
  exact z_vret hX hr (zl rfl) (zl rfl) dX6_clear_5
set_option maxHeartbeats 4000000 in
set_option maxRecDepth 100000 in
theorem ct_X6_clear {E : zE} {g : zM} {r : zM} (hf : fX6_clear g = some r) : zCt yX6_clear cX6_clear 1 none 0 0 E [.ref (E.1 + 480)] g (.inl (none, r)) := by
  refine zmet (by decide) (zl rfl) (fun X hE hX hT hR hr hn => ?_)
  subst hE
  exact fX6_clear_ok hX hT hR hr hn  hf
def fX6_add_L19 (v1 : Int32) (v2 : Int32) (k46 : zM → Option zM) : Nat → Int32 → zM → Option zM
  | 0, _, _ => none
  | n + 1, v3, g => if v2 ≤ v3 then k46 g else zchk v3 256 (zchk (v2 + v3) 256 (zput g 481 (v2 + v3).toNatClampNeg ((g 481 v3.toNatClampNeg) + v1) (fun g5 => fX6_add_L19 v1 v2 k46 n (v3 + 1) g5)))
def fX6_add (v1 : Int32) (g : zM) : Option zM := if (g 480 2) < 8 then fX6_add_L19 v1 ((1 : Int32) <<< ((g 480 2) &&& 31)) (fun g6 => zput g6 480 2 ((g6 480 2) + 1) (fun g7 => some g7)) zFU 0 g else some g
set_option maxHeartbeats 4000000 in
set_option maxRecDepth 100000 in
theorem fX6_add_L19_ok {X : zX} (hX : zCX X cX6_add RX6) (hT : zNT X) (hR : X.2.2.2.1 = zrm 0 0) (hr : X.2.2.2.2.2.2.2.2.1.sig.returnType = none) (hn : X.2.2.2.2.2.2.2.2.2.1.maxLocals = 4) {v1 : Int32} {v2 : Int32} {k46 : zM → Option zM} {r : zM} (hk46 : ∀ (g : zM), k46 g = some r → zW X (zQ X (.inl (none, r)) 0) 0 0 46 [(0, .ref (zB X + 480))] [] g) : ∀ (n : Nat) (v3 : Int32) (g : zM), fX6_add_L19 v1 v2 k46 n v3 g = some r → zW X (zQ X (.inl (none, r)) 0) 0 0 19 [(0, .ref (zB X + 480)), (1, .int v1), (2, .int v2), (3, .int v3)] [] g := by
  intro n
  induction n with
  | zero => intro v3 g hf; exact zno hf
  | succ n ih =>
    intro v3 g hf
    rw [fX6_add_L19] at hf
    refine z_iload_n hX dX6_add_19 3 rfl ?_
    refine z_iload_n hX dX6_add_20 2 rfl ?_
    refine z_icmp_ge hX 46 dX6_add_21 (by decide) (fun h2 => ?_) (fun h2 => ?_)
    · replace hf := zif_pos h2 hf
      refine zW.sub [0] rfl ?_
      exact hk46 g hf
    · replace hf := zif_neg h2 hf
      refine z_aload_n hX dX6_add_24 0 rfl ?_
      refine gf_Shelving_loads hX zq_480 q424 dX6_add_25 ?_
      refine z_iload_n hX dX6_add_28 2 rfl ?_
      refine z_iload_n hX dX6_add_29 3 rfl ?_
      refine z_iadd hX dX6_add_30 ?_
      refine z_aload_n hX dX6_add_31 0 rfl ?_
      refine gf_Shelving_loads hX zq_480 q424 dX6_add_32 ?_
      refine z_iload_n hX dX6_add_35 3 rfl ?_
      replace hf := zchk_some hf
      obtain ⟨h3, hf⟩ := hf
      refine z_iald hX zq_481 (by decide) (zc_1256 _ _ _) h3 dX6_add_36 ?_
      refine z_iload_n hX dX6_add_37 1 rfl ?_
      refine z_iadd hX dX6_add_38 ?_
      replace hf := zchk_some hf
      obtain ⟨h4, hf⟩ := hf
      replace hf := zput_some hf
      obtain ⟨g5, eg5, hf⟩ := hf
      refine z_iast hX zq_481 (by decide) (zc_1256 _ _) h4 dX6_add_39 (zW.eqg eg5 ?_)
      refine z_iincc (lv' := [(3, .int (v3 + 1)), (0, .ref (zB X + 480)), (1, .int v1), (2, .int v2)]) hX dX6_add_40 hn (by decide) 3 rfl ci_1 rfl ?_
      refine z_goto hX 19 dX6_add_43 (by decide) ?_
      refine zW.sub [1, 2, 3, 0] rfl ?_
      exact ih (v3 + 1) g5 hf
set_option maxHeartbeats 4000000 in
set_option maxRecDepth 100000 in
theorem fX6_add_ok {X : zX} (hX : zCX X cX6_add RX6) (hT : zNT X) (hR : X.2.2.2.1 = zrm 0 0) (hr : X.2.2.2.2.2.2.2.2.1.sig.returnType = none) (hn : X.2.2.2.2.2.2.2.2.2.1.maxLocals = 4) {v1 : Int32} {g : zM} {r : zM} (hf : fX6_add v1 g = some r) : zW X (zQ X (.inl (none, r)) 0) 0 0 0 [(0, .ref (zB X + 480)), (1, .int v1)] [] g := by
  unfold fX6_add at hf
  refine z_aload_n hX dX6_add_0 0 rfl ?_
  refine gf_Shelving_letters hX zq_480 q426 dX6_add_1 ?_
  refine z_bipush hX dX6_add_4 cb_8 ?_
  refine z_icmp_lt hX 10 dX6_add_6 (by decide) (fun h1 => ?_) (fun h1 => ?_)
  · replace hf := zif_pos h1 hf
    refine z_iconst hX dX6_add_10 ci_1 ?_
    refine z_aload_n hX dX6_add_11 0 rfl ?_
    refine gf_Shelving_letters hX zq_480 q426 dX6_add_12 ?_
    refine z_ishl hX dX6_add_15 ?_
    refine z_istore_n (lv' := [(2, .int ((1 : Int32) <<< ((g 480 2) &&& 31))), (0, .ref (zB X + 480)), (1, .int v1)]) hX dX6_add_16 hn (by decide) rfl ?_
    refine z_iconst hX dX6_add_17 ci_0 ?_
    refine z_istore_n (lv' := [(3, .int 0), (2, .int ((1 : Int32) <<< ((g 480 2) &&& 31))), (0, .ref (zB X + 480)), (1, .int v1)]) hX dX6_add_18 hn (by decide) rfl ?_
    refine zW.sub [2, 3, 1, 0] rfl ?_
    refine fX6_add_L19_ok hX hT hR hr hn (fun g6 hf => ?_) zFU 0 g hf
    · refine z_aload_n hX dX6_add_46 0 rfl ?_
      refine z_dup hX dX6_add_47 rfl ?_
      refine gf_Shelving_letters hX zq_480 q426 dX6_add_48 ?_
      refine z_iconst hX dX6_add_51 ci_1 ?_
      refine z_iadd hX dX6_add_52 ?_
      replace hf := zput_some hf
      obtain ⟨g7, eg7, hf⟩ := hf
      refine gp_Shelving_letters hX zq_480 q426 dX6_add_53 (zW.eqg eg7 ?_)
      obtain rfl := Option.some.inj hf
      exact z_vret hX hr (zl rfl) (zl rfl) dX6_add_56
  · replace hf := zif_neg h1 hf
    obtain rfl := Option.some.inj hf
    exact z_vret hX hr (zl rfl) (zl rfl) dX6_add_9
set_option maxHeartbeats 4000000 in
set_option maxRecDepth 100000 in
theorem ct_X6_add {E : zE} {v1 : Int32} {g : zM} {r : zM} (hf : fX6_add v1 g = some r) : zCt yX6_add cX6_add 4 none 0 0 E [.ref (E.1 + 480), .int v1] g (.inl (none, r)) := by
  refine zmet (by decide) (zl rfl) (fun X hE hX hT hR hr hn => ?_)
  subst hE
  exact fX6_add_ok hX hT hR hr hn  hf
def fX6_mostOnOne_L4 (v1 : Int32) (g : zM) : Nat → Int32 → Int32 → Option Int32
  | 0, _, _ => none
  | n + 1, v2, v3 => if ((1 : Int32) <<< ((g 480 2) &&& 31)) ≤ v3 then some v2 else zchk v3 256 (if v1 < (g 481 v3.toNatClampNeg) then fX6_mostOnOne_L4 v1 g n v2 (v3 + 1) else zb (fJ6_bitCount_0f7a4 v3 g) (fun r_4 => fX6_mostOnOne_L4 v1 g n (if v2 < r_4 then r_4 else v2) (v3 + 1)))
def fX6_mostOnOne (v1 : Int32) (g : zM) : Option Int32 := fX6_mostOnOne_L4 v1 g zFU 0 0
set_option maxHeartbeats 4000000 in
set_option maxRecDepth 100000 in
theorem fX6_mostOnOne_L4_ok {X : zX} (hX : zCX X cX6_mostOnOne RX6) (hT : zNT X) (hR : X.2.2.2.1 = zrm 5 0) (hr : X.2.2.2.2.2.2.2.2.1.sig.returnType = (some .int)) (hn : X.2.2.2.2.2.2.2.2.2.1.maxLocals = 4) {v1 : Int32} {g : zM} {r : Int32}  : ∀ (n : Nat) (v2 : Int32) (v3 : Int32), fX6_mostOnOne_L4 v1 g n v2 v3 = some r → zW X (zQ X (.inl (some (.int r), g)) 0) 0 0 4 [(0, .ref (zB X + 480)), (1, .int v1), (2, .int v2), (3, .int v3)] [] g := by
  intro n
  induction n with
  | zero => intro v2 v3 hf; exact zno hf
  | succ n ih =>
    intro v2 v3 hf
    rw [fX6_mostOnOne_L4] at hf
    refine z_iload_n hX dX6_mostOnOne_4 3 rfl ?_
    refine z_iconst hX dX6_mostOnOne_5 ci_1 ?_
    refine z_aload_n hX dX6_mostOnOne_6 0 rfl ?_
    refine gf_Shelving_letters hX zq_480 q426 dX6_mostOnOne_7 ?_
    refine z_ishl hX dX6_mostOnOne_10 ?_
    refine z_icmp_ge hX 39 dX6_mostOnOne_11 (by decide) (fun h1 => ?_) (fun h1 => ?_)
    · replace hf := zif_pos h1 hf
      refine z_iload_n hX dX6_mostOnOne_39 2 rfl ?_
      obtain rfl := Option.some.inj hf
      exact z_iret hX hr rfl (zl rfl) (zl rfl) dX6_mostOnOne_40
    · replace hf := zif_neg h1 hf
      refine z_aload_n hX dX6_mostOnOne_14 0 rfl ?_
      refine gf_Shelving_loads hX zq_480 q424 dX6_mostOnOne_15 ?_
      refine z_iload_n hX dX6_mostOnOne_18 3 rfl ?_
      replace hf := zchk_some hf
      obtain ⟨h2, hf⟩ := hf
      refine z_iald hX zq_481 (by decide) (zc_1256 _ _ _) h2 dX6_mostOnOne_19 ?_
      refine z_iload_n hX dX6_mostOnOne_20 1 rfl ?_
      refine z_icmp_gt hX 33 dX6_mostOnOne_21 (by decide) (fun h3 => ?_) (fun h3 => ?_)
      · replace hf := zif_pos h3 hf
        refine z_iincc (lv' := [(3, .int (v3 + 1)), (0, .ref (zB X + 480)), (1, .int v1), (2, .int v2)]) hX dX6_mostOnOne_33 hn (by decide) 3 rfl ci_1 rfl ?_
        refine z_goto hX 4 dX6_mostOnOne_36 (by decide) ?_
        refine zW.sub [1, 2, 3, 0] rfl ?_
        exact ih v2 (v3 + 1) hf
      · replace hf := zif_neg h3 hf
        refine z_iload_n hX dX6_mostOnOne_24 2 rfl ?_
        refine z_iload_n hX dX6_mostOnOne_25 3 rfl ?_
        replace hf := zb_some hf
        obtain ⟨r_4, h4, hf⟩ := hf
        refine z_callJ1 hX ok_J6_bitCount_0f7a4 q1447 q1373 (zrm_ok hR (by decide)) (ct_J6_bitCount_0f7a4  h4) dX6_mostOnOne_26 rfl rfl ?_
        refine z_max hX hR ⟨zl rfl, zl rfl⟩ q1448 dX6_mostOnOne_29 (zl rfl) ?_
        refine z_istore_n (lv' := [(2, .int (if v2 < r_4 then r_4 else v2)), (0, .ref (zB X + 480)), (1, .int v1), (3, .int v3)]) hX dX6_mostOnOne_32 hn (by decide) rfl ?_
        refine z_iincc (lv' := [(3, .int (v3 + 1)), (2, .int (if v2 < r_4 then r_4 else v2)), (0, .ref (zB X + 480)), (1, .int v1)]) hX dX6_mostOnOne_33 hn (by decide) 3 rfl ci_1 rfl ?_
        refine z_goto hX 4 dX6_mostOnOne_36 (by decide) ?_
        refine zW.sub [2, 3, 1, 0] rfl ?_
        exact ih (if v2 < r_4 then r_4 else v2) (v3 + 1) hf
set_option maxHeartbeats 4000000 in
set_option maxRecDepth 100000 in
theorem fX6_mostOnOne_ok {X : zX} (hX : zCX X cX6_mostOnOne RX6) (hT : zNT X) (hR : X.2.2.2.1 = zrm 5 0) (hr : X.2.2.2.2.2.2.2.2.1.sig.returnType = (some .int)) (hn : X.2.2.2.2.2.2.2.2.2.1.maxLocals = 4) {v1 : Int32} {g : zM} {r : Int32} (hf : fX6_mostOnOne v1 g = some r) : zW X (zQ X (.inl (some (.int r), g)) 0) 0 0 0 [(0, .ref (zB X + 480)), (1, .int v1)] [] g := by
  unfold fX6_mostOnOne at hf
  refine z_iconst hX dX6_mostOnOne_0 ci_0 ?_
  refine z_istore_n (lv' := [(2, .int 0), (0, .ref (zB X + 480)), (1, .int v1)]) hX dX6_mostOnOne_1 hn (by decide) rfl ?_
  refine z_iconst hX dX6_mostOnOne_2 ci_0 ?_
  refine z_istore_n (lv' := [(3, .int 0), (2, .int 0), (0, .ref (zB X + 480)), (1, .int v1)]) hX dX6_mostOnOne_3 hn (by decide) rfl ?_
  refine zW.sub [2, 3, 1, 0] rfl ?_
  exact fX6_mostOnOne_L4_ok hX hT hR hr hn  zFU 0 0 hf
set_option maxHeartbeats 4000000 in
set_option maxRecDepth 100000 in
theorem ct_X6_mostOnOne {E : zE} {v1 : Int32} {g : zM} {r : Int32} (hf : fX6_mostOnOne v1 g = some r) : zCt yX6_mostOnOne cX6_mostOnOne 4 (some .int) 5 0 E [.ref (E.1 + 480), .int v1] g (.inl (some (.int r), g)) := by
  refine zmet (by decide) (zl rfl) (fun X hE hX hT hR hr hn => ?_)
  subst hE
  exact fX6_mostOnOne_ok hX hT hR hr hn  hf
def fX6_fewestShelves_L24 (v1 : Int32) (v2 : Int32) (v3 : Int32) (k113 : zM → Option (Int32 × zM)) : Nat → Int32 → zM → Option (Int32 × zM)
  | 0, _, _ => none
  | n + 1, v4, g => if v4 ≤ 0 then k113 g else zchk (v3 - v4) 256 (zchk v4 256 (zjoin (fun t0_7 => if t0_7 = 0 then fX6_fewestShelves_L24 v1 v2 v3 k113 n ((v4 - 1) &&& v3) g else zchk v3 256 (zjoin (zchk v3 256 (zput g 482 v3.toNatClampNeg ((g 482 (v3 - v4).toNatClampNeg) + 1) (fun g12 => fX6_fewestShelves_L24 v1 v2 v3 k113 n ((v4 - 1) &&& v3) g12)) : Option (Int32 × zM)) (fun k92 => if (g 482 v3.toNatClampNeg) = ((-1)) then k92 else zchk v3 256 (if (g 482 v3.toNatClampNeg) ≤ ((g 482 (v3 - v4).toNatClampNeg) + 1) then fX6_fewestShelves_L24 v1 v2 v3 k113 n ((v4 - 1) &&& v3) g else k92))) : Int32 → Option (Int32 × zM)) (fun k62 => if v1 < (g 481 v4.toNatClampNeg) then k62 0 else if (g 482 (v3 - v4).toNatClampNeg) = ((-1)) then k62 0 else k62 1)))
def fX6_fewestShelves_L9 (v1 : Int32) (v2 : Int32) (k119 : zM → Option (Int32 × zM)) : Nat → Int32 → zM → Option (Int32 × zM)
  | 0, _, _ => none
  | n + 1, v3, g => if v2 ≤ v3 then k119 g else zchk v3 256 (zput g 482 v3.toNatClampNeg ((-1)) (fun g3 => fX6_fewestShelves_L24 v1 v2 v3 (fun g18 => fX6_fewestShelves_L9 v1 v2 k119 n (v3 + 1) g18) zFU v3 g3))
def fX6_fewestShelves (v1 : Int32) (g : zM) : Option (Int32 × zM) := fX6_fewestShelves_L9 v1 ((1 : Int32) <<< ((g 480 2) &&& 31)) (fun g19 => zchk (((1 : Int32) <<< ((g 480 2) &&& 31)) - 1) 256 (some (g19 482 (((1 : Int32) <<< ((g 480 2) &&& 31)) - 1).toNatClampNeg, g19))) zFU 1 g
set_option maxHeartbeats 4000000 in
set_option maxRecDepth 100000 in
theorem fX6_fewestShelves_L24_ok {X : zX} (hX : zCX X cX6_fewestShelves RX6) (hT : zNT X) (hR : X.2.2.2.1 = zrm 0 0) (hr : X.2.2.2.2.2.2.2.2.1.sig.returnType = (some .int)) (hn : X.2.2.2.2.2.2.2.2.2.1.maxLocals = 7) {v1 : Int32} {v2 : Int32} {v3 : Int32} {k113 : zM → Option (Int32 × zM)} {r : Int32 × zM} (hk113 : ∀ (g : zM), k113 g = some r → zW X (zQ X (.inl (some (.int r.1), r.2)) 0) 0 0 113 [(0, .ref (zB X + 480)), (1, .int v1), (2, .int v2), (3, .int v3)] [] g) : ∀ (n : Nat) (v4 : Int32) (g : zM), fX6_fewestShelves_L24 v1 v2 v3 k113 n v4 g = some r → zW X (zQ X (.inl (some (.int r.1), r.2)) 0) 0 0 24 [(0, .ref (zB X + 480)), (1, .int v1), (2, .int v2), (3, .int v3), (4, .int v4)] [] g := by
  intro n
  induction n with
  | zero => intro v4 g hf; exact zno hf
  | succ n ih =>
    intro v4 g hf
    rw [fX6_fewestShelves_L24] at hf
    refine z_iload hX dX6_fewestShelves_24 4 rfl ?_
    refine z_if_le hX 113 dX6_fewestShelves_26 (by decide) (fun h4 => ?_) (fun h4 => ?_)
    · replace hf := zif_pos h4 hf
      refine zW.sub [0, 1, 2, 3] rfl ?_
      exact hk113 g hf
    · replace hf := zif_neg h4 hf
      refine z_aload_n hX dX6_fewestShelves_29 0 rfl ?_
      refine gf_Shelving_fewest hX zq_480 q425 dX6_fewestShelves_30 ?_
      refine z_iload_n hX dX6_fewestShelves_33 3 rfl ?_
      refine z_iload hX dX6_fewestShelves_34 4 rfl ?_
      refine z_isub hX dX6_fewestShelves_36 ?_
      replace hf := zchk_some hf
      obtain ⟨h5, hf⟩ := hf
      refine z_iald hX zq_482 (by decide) (zc_1256 _ _ _) h5 dX6_fewestShelves_37 ?_
      refine z_istore (lv' := [(5, .int (g 482 (v3 - v4).toNatClampNeg)), (0, .ref (zB X + 480)), (1, .int v1), (2, .int v2), (3, .int v3), (4, .int v4)]) hX dX6_fewestShelves_38 hn (by decide) rfl ?_
      refine z_aload_n hX dX6_fewestShelves_40 1 rfl ?_
      refine gf_Shelving_loads hX zq_480 q424 dX6_fewestShelves_41 ?_
      refine z_iload hX dX6_fewestShelves_44 5 rfl ?_
      replace hf := zchk_some hf
      obtain ⟨h6, hf⟩ := hf
      refine z_iald hX zq_481 (by decide) (zc_1256 _ _ _) h6 dX6_fewestShelves_46 ?_
      refine z_iload_n hX dX6_fewestShelves_47 2 rfl ?_
      refine zjoin_ok (P := fun (k : Int32 → Option (Int32 × zM)) => ∀ (t0_7 : Int32), k t0_7 = some r → zW X (zQ X (.inl (some (.int r.1), r.2)) 0) 0 0 62 [(0, .ref (zB X + 480)), (1, .int v1), (2, .int v2), (3, .int v3), (4, .int v4), (5, .int (g 482 (v3 - v4).toNatClampNeg))] [.int t0_7] g) hf (fun t0_7 hf => ?_) (fun k62 hk62 hf => ?_)
      · refine z_istore (lv' := [(6, .int t0_7), (0, .ref (zB X + 480)), (1, .int v1), (2, .int v2), (3, .int v3), (4, .int v4), (5, .int (g 482 (v3 - v4).toNatClampNeg))]) hX dX6_fewestShelves_62 hn (by decide) rfl ?_
        refine z_iload hX dX6_fewestShelves_64 0 rfl ?_
        refine z_if_eq hX 102 dX6_fewestShelves_66 (by decide) (fun h8 => ?_) (fun h8 => ?_)
        · replace hf := zif_pos h8 hf
          refine z_iload hX dX6_fewestShelves_102 5 rfl ?_
          refine z_iconst hX dX6_fewestShelves_104 ci_1 ?_
          refine z_isub hX dX6_fewestShelves_105 ?_
          refine z_iload_n hX dX6_fewestShelves_106 4 rfl ?_
          refine z_iand hX dX6_fewestShelves_107 ?_
          refine z_istore (lv' := [(4, .int ((v4 - 1) &&& v3)), (6, .int t0_7), (0, .ref (zB X + 480)), (1, .int v1), (2, .int v2), (3, .int v3), (5, .int (g 482 (v3 - v4).toNatClampNeg))]) hX dX6_fewestShelves_108 hn (by decide) rfl ?_
          refine z_goto hX 24 dX6_fewestShelves_110 (by decide) ?_
          refine zW.sub [2, 3, 4, 5, 0] rfl ?_
          exact ih ((v4 - 1) &&& v3) g hf
        · replace hf := zif_neg h8 hf
          refine z_aload_n hX dX6_fewestShelves_69 1 rfl ?_
          refine gf_Shelving_fewest hX zq_480 q425 dX6_fewestShelves_70 ?_
          refine z_iload_n hX dX6_fewestShelves_73 4 rfl ?_
          replace hf := zchk_some hf
          obtain ⟨h9, hf⟩ := hf
          refine z_iald hX zq_482 (by decide) (zc_1256 _ _ _) h9 dX6_fewestShelves_74 ?_
          refine z_iconst hX dX6_fewestShelves_75 ci_m1 ?_
          refine zjoin_ok (P := fun (k : Option (Int32 × zM)) => k = some r → zW X (zQ X (.inl (some (.int r.1), r.2)) 0) 0 0 92 [(0, .ref (zB X + 480)), (1, .int v1), (2, .int v2), (3, .int v3), (4, .int v4), (5, .int (g 482 (v3 - v4).toNatClampNeg))] [] g) hf (fun hf => ?_) (fun k92 hk92 hf => ?_)
          · refine z_aload_n hX dX6_fewestShelves_92 0 rfl ?_
            refine gf_Shelving_fewest hX zq_480 q425 dX6_fewestShelves_93 ?_
            refine z_iload_n hX dX6_fewestShelves_96 3 rfl ?_
            refine z_iload hX dX6_fewestShelves_97 5 rfl ?_
            refine z_iconst hX dX6_fewestShelves_99 ci_1 ?_
            refine z_iadd hX dX6_fewestShelves_100 ?_
            replace hf := zchk_some hf
            obtain ⟨h11, hf⟩ := hf
            replace hf := zput_some hf
            obtain ⟨g12, eg12, hf⟩ := hf
            refine z_iast hX zq_482 (by decide) (zc_1256 _ _) h11 dX6_fewestShelves_101 (zW.eqg eg12 ?_)
            refine z_iload hX dX6_fewestShelves_102 4 rfl ?_
            refine z_iconst hX dX6_fewestShelves_104 ci_1 ?_
            refine z_isub hX dX6_fewestShelves_105 ?_
            refine z_iload_n hX dX6_fewestShelves_106 3 rfl ?_
            refine z_iand hX dX6_fewestShelves_107 ?_
            refine z_istore (lv' := [(4, .int ((v4 - 1) &&& v3)), (0, .ref (zB X + 480)), (1, .int v1), (2, .int v2), (3, .int v3), (5, .int (g 482 (v3 - v4).toNatClampNeg))]) hX dX6_fewestShelves_108 hn (by decide) rfl ?_
            refine z_goto hX 24 dX6_fewestShelves_110 (by decide) ?_
            refine zW.sub [1, 2, 3, 4, 0] rfl ?_
            exact ih ((v4 - 1) &&& v3) g12 hf
          · refine z_icmp_eq hX 92 dX6_fewestShelves_76 (by decide) (fun h13 => ?_) (fun h13 => ?_)
            · replace hf := zif_pos h13 hf
              refine zW.sub [1, 2, 3, 4, 5, 6] rfl ?_
              exact hk92 hf
            · replace hf := zif_neg h13 hf
              refine z_iload hX dX6_fewestShelves_79 6 rfl ?_
              refine z_iconst hX dX6_fewestShelves_81 ci_1 ?_
              refine z_iadd hX dX6_fewestShelves_82 ?_
              refine z_aload_n hX dX6_fewestShelves_83 1 rfl ?_
              refine gf_Shelving_fewest hX zq_480 q425 dX6_fewestShelves_84 ?_
              refine z_iload_n hX dX6_fewestShelves_87 4 rfl ?_
              replace hf := zchk_some hf
              obtain ⟨h14, hf⟩ := hf
              refine z_iald hX zq_482 (by decide) (zc_1256 _ _ _) h14 dX6_fewestShelves_88 ?_
              refine z_icmp_ge hX 102 dX6_fewestShelves_89 (by decide) (fun h15 => ?_) (fun h15 => ?_)
              · replace hf := zif_pos h15 hf
                refine z_iload hX dX6_fewestShelves_102 5 rfl ?_
                refine z_iconst hX dX6_fewestShelves_104 ci_1 ?_
                refine z_isub hX dX6_fewestShelves_105 ?_
                refine z_iload_n hX dX6_fewestShelves_106 4 rfl ?_
                refine z_iand hX dX6_fewestShelves_107 ?_
                refine z_istore (lv' := [(4, .int ((v4 - 1) &&& v3)), (6, .int t0_7), (0, .ref (zB X + 480)), (1, .int v1), (2, .int v2), (3, .int v3), (5, .int (g 482 (v3 - v4).toNatClampNeg))]) hX dX6_fewestShelves_108 hn (by decide) rfl ?_
                refine z_goto hX 24 dX6_fewestShelves_110 (by decide) ?_
                refine zW.sub [2, 3, 4, 5, 0] rfl ?_
                exact ih ((v4 - 1) &&& v3) g hf
              · replace hf := zif_neg h15 hf
                refine zW.sub [1, 2, 3, 4, 5, 6] rfl ?_
                exact hk92 hf
      · refine z_icmp_gt hX 61 dX6_fewestShelves_48 (by decide) (fun h16 => ?_) (fun h16 => ?_)
        · replace hf := zif_pos h16 hf
          refine z_iconst hX dX6_fewestShelves_61 ci_0 ?_
          refine zW.sub [1, 2, 3, 4, 5, 0] rfl ?_
          exact hk62 0 hf
        · replace hf := zif_neg h16 hf
          refine z_iload hX dX6_fewestShelves_51 0 rfl ?_
          refine z_iconst hX dX6_fewestShelves_53 ci_m1 ?_
          refine z_icmp_eq hX 61 dX6_fewestShelves_54 (by decide) (fun h17 => ?_) (fun h17 => ?_)
          · replace hf := zif_pos h17 hf
            refine z_iconst hX dX6_fewestShelves_61 ci_0 ?_
            refine zW.sub [1, 2, 3, 4, 5, 0] rfl ?_
            exact hk62 0 hf
          · replace hf := zif_neg h17 hf
            refine z_iconst hX dX6_fewestShelves_57 ci_1 ?_
            refine z_goto hX 62 dX6_fewestShelves_58 (by decide) ?_
            refine zW.sub [1, 2, 3, 4, 5, 0] rfl ?_
            exact hk62 1 hf
set_option maxHeartbeats 4000000 in
set_option maxRecDepth 100000 in
theorem fX6_fewestShelves_L9_ok {X : zX} (hX : zCX X cX6_fewestShelves RX6) (hT : zNT X) (hR : X.2.2.2.1 = zrm 0 0) (hr : X.2.2.2.2.2.2.2.2.1.sig.returnType = (some .int)) (hn : X.2.2.2.2.2.2.2.2.2.1.maxLocals = 7) {v1 : Int32} {v2 : Int32} {k119 : zM → Option (Int32 × zM)} {r : Int32 × zM} (hk119 : ∀ (g : zM), k119 g = some r → zW X (zQ X (.inl (some (.int r.1), r.2)) 0) 0 0 119 [(0, .ref (zB X + 480)), (2, .int v2)] [] g) : ∀ (n : Nat) (v3 : Int32) (g : zM), fX6_fewestShelves_L9 v1 v2 k119 n v3 g = some r → zW X (zQ X (.inl (some (.int r.1), r.2)) 0) 0 0 9 [(0, .ref (zB X + 480)), (1, .int v1), (2, .int v2), (3, .int v3)] [] g := by
  intro n
  induction n with
  | zero => intro v3 g hf; exact zno hf
  | succ n ih =>
    intro v3 g hf
    rw [fX6_fewestShelves_L9] at hf
    refine z_iload_n hX dX6_fewestShelves_9 3 rfl ?_
    refine z_iload_n hX dX6_fewestShelves_10 2 rfl ?_
    refine z_icmp_ge hX 119 dX6_fewestShelves_11 (by decide) (fun h1 => ?_) (fun h1 => ?_)
    · replace hf := zif_pos h1 hf
      refine zW.sub [0, 2] rfl ?_
      exact hk119 g hf
    · replace hf := zif_neg h1 hf
      refine z_aload_n hX dX6_fewestShelves_14 0 rfl ?_
      refine gf_Shelving_fewest hX zq_480 q425 dX6_fewestShelves_15 ?_
      refine z_iload_n hX dX6_fewestShelves_18 3 rfl ?_
      refine z_iconst hX dX6_fewestShelves_19 ci_m1 ?_
      replace hf := zchk_some hf
      obtain ⟨h2, hf⟩ := hf
      replace hf := zput_some hf
      obtain ⟨g3, eg3, hf⟩ := hf
      refine z_iast hX zq_482 (by decide) (zc_1256 _ _) h2 dX6_fewestShelves_20 (zW.eqg eg3 ?_)
      refine z_iload_n hX dX6_fewestShelves_21 3 rfl ?_
      refine z_istore (lv' := [(4, .int v3), (0, .ref (zB X + 480)), (1, .int v1), (2, .int v2), (3, .int v3)]) hX dX6_fewestShelves_22 hn (by decide) rfl ?_
      refine zW.sub [1, 2, 3, 4, 0] rfl ?_
      refine fX6_fewestShelves_L24_ok hX hT hR hr hn (fun g18 hf => ?_) zFU v3 g3 hf
      · refine z_iincc (lv' := [(3, .int (v3 + 1)), (0, .ref (zB X + 480)), (1, .int v1), (2, .int v2)]) hX dX6_fewestShelves_113 hn (by decide) 3 rfl ci_1 rfl ?_
        refine z_goto hX 9 dX6_fewestShelves_116 (by decide) ?_
        refine zW.sub [1, 2, 3, 0] rfl ?_
        exact ih (v3 + 1) g18 hf
set_option maxHeartbeats 4000000 in
set_option maxRecDepth 100000 in
theorem fX6_fewestShelves_ok {X : zX} (hX : zCX X cX6_fewestShelves RX6) (hT : zNT X) (hR : X.2.2.2.1 = zrm 0 0) (hr : X.2.2.2.2.2.2.2.2.1.sig.returnType = (some .int)) (hn : X.2.2.2.2.2.2.2.2.2.1.maxLocals = 7) {v1 : Int32} {g : zM} {r : Int32 × zM} (hf : fX6_fewestShelves v1 g = some r) : zW X (zQ X (.inl (some (.int r.1), r.2)) 0) 0 0 0 [(0, .ref (zB X + 480)), (1, .int v1)] [] g := by
  unfold fX6_fewestShelves at hf
  refine z_iconst hX dX6_fewestShelves_0 ci_1 ?_
  refine z_aload_n hX dX6_fewestShelves_1 0 rfl ?_
  refine gf_Shelving_letters hX zq_480 q426 dX6_fewestShelves_2 ?_
  refine z_ishl hX dX6_fewestShelves_5 ?_
  refine z_istore_n (lv' := [(2, .int ((1 : Int32) <<< ((g 480 2) &&& 31))), (0, .ref (zB X + 480)), (1, .int v1)]) hX dX6_fewestShelves_6 hn (by decide) rfl ?_
  refine z_iconst hX dX6_fewestShelves_7 ci_1 ?_
  refine z_istore_n (lv' := [(3, .int 1), (2, .int ((1 : Int32) <<< ((g 480 2) &&& 31))), (0, .ref (zB X + 480)), (1, .int v1)]) hX dX6_fewestShelves_8 hn (by decide) rfl ?_
  refine zW.sub [2, 3, 1, 0] rfl ?_
  refine fX6_fewestShelves_L9_ok hX hT hR hr hn (fun g19 hf => ?_) zFU 1 g hf
  · refine z_aload_n hX dX6_fewestShelves_119 0 rfl ?_
    refine gf_Shelving_fewest hX zq_480 q425 dX6_fewestShelves_120 ?_
    refine z_iload_n hX dX6_fewestShelves_123 1 rfl ?_
    refine z_iconst hX dX6_fewestShelves_124 ci_1 ?_
    refine z_isub hX dX6_fewestShelves_125 ?_
    replace hf := zchk_some hf
    obtain ⟨h20, hf⟩ := hf
    refine z_iald hX zq_482 (by decide) (zc_1256 _ _ _) h20 dX6_fewestShelves_126 ?_
    obtain rfl := Option.some.inj hf
    exact z_iret hX hr rfl (zl rfl) (zl rfl) dX6_fewestShelves_127
set_option maxHeartbeats 4000000 in
set_option maxRecDepth 100000 in
theorem ct_X6_fewestShelves {E : zE} {v1 : Int32} {g : zM} {r : Int32 × zM} (hf : fX6_fewestShelves v1 g = some r) : zCt yX6_fewestShelves cX6_fewestShelves 7 (some .int) 0 0 E [.ref (E.1 + 480), .int v1] g (.inl (some (.int r.1), r.2)) := by
  refine zmet (by decide) (zl rfl) (fun X hE hX hT hR hr hn => ?_)
  subst hE
  exact fX6_fewestShelves_ok hX hT hR hr hn  hf
def fX11_shelves_L37 (v1 : Int32) (v2 : Int32) (v3 : Int32) (k120 : zM → Option (Except Nat Int32 × zM)) : Nat → Int32 → zM → Option (Except Nat Int32 × zM)
  | 0, _, _ => none
  | n + 1, v4, g => if (g 3 1) ≤ v4 then k120 g else zchk v4 8 (zb (fX7_look 446 (4 + 1 + 3 * v4.toNatClampNeg) (g 3 2) g) (fun g7 => zb (fX7_go 446 29 v2 g7) (fun g8 => zb (fX6_add (g8 447 2) g8) (fun g9 => fX11_shelves_L37 v1 v2 v3 k120 n (v4 + 1) g9))))
def fX11_shelves (v1 : Int32) (v2 : Int32) (v3 : Int32) (g : zM) : Option (Except Nat Int32 × zM) := if v1 < 1 then some (.error 2, g) else if v1 ≤ 99 then zb3 (fX11_needAhead v2 0 g) (fun _ g3 => zb (fX6_clear g3) (fun g4 => fX11_shelves_L37 v1 v2 v3 (fun g10 => if v3 = 0 then zb2 (fX6_fewestShelves v1 g10) (fun r_12 g12 => some (.ok r_12, g12)) else zb (fX6_mostOnOne v1 g10) (fun r_13 => some (.ok r_13, g10))) zFU 0 g4)) else some (.error 2, g)
set_option maxHeartbeats 4000000 in
set_option maxRecDepth 100000 in
theorem fX11_shelves_L37_ok {X : zX} (hX : zCX X cX11_shelves RX11) (hT : zNT X) (hR : X.2.2.2.1 = zrm 7 2) (hr : X.2.2.2.2.2.2.2.2.1.sig.returnType = (some .int)) (hn : X.2.2.2.2.2.2.2.2.2.1.maxLocals = 5) {v1 : Int32} {v2 : Int32} {v3 : Int32} {k120 : zM → Option (Except Nat Int32 × zM)} {r : Except Nat Int32 × zM} (hk120 : ∀ (g : zM), k120 g = some r → zW X (zQ X (zoI r) 2) 1 6 120 [(0, .ref (zB X + 0)), (1, .int v1), (3, .int v3)] [] g) : ∀ (n : Nat) (v4 : Int32) (g : zM), fX11_shelves_L37 v1 v2 v3 k120 n v4 g = some r → zW X (zQ X (zoI r) 2) 1 6 37 [(0, .ref (zB X + 0)), (1, .int v1), (2, .int v2), (3, .int v3), (4, .int v4)] [] g := by
  intro n
  induction n with
  | zero => intro v4 g hf; exact zno hf
  | succ n ih =>
    intro v4 g hf
    rw [fX11_shelves_L37] at hf
    refine z_iload hX dX11_shelves_37 4 rfl ?_
    refine z_aload_n hX dX11_shelves_39 0 rfl ?_
    refine gf_Post_now hX zq_0 q439 dX11_shelves_40 ?_
    refine gf_World_bag_N hX zq_2 qn273 dX11_shelves_43 ?_
    refine gf_Bag_size_N hX zq_3 qn216 dX11_shelves_46 ?_
    refine z_icmp_ge hX 120 dX11_shelves_49 (by decide) (fun h5 => ?_) (fun h5 => ?_)
    · replace hf := zif_pos h5 hf
      refine zW.sub [0, 1, 3] rfl ?_
      exact hk120 g hf
    · replace hf := zif_neg h5 hf
      refine z_aload_n hX dX11_shelves_52 0 rfl ?_
      refine gf_Post_sight hX zq_0 q445 dX11_shelves_53 ?_
      refine z_aload_n hX dX11_shelves_56 0 rfl ?_
      refine gf_Post_now hX zq_0 q439 dX11_shelves_57 ?_
      refine gf_World_bag_N hX zq_2 qn273 dX11_shelves_60 ?_
      refine gf_Bag_mails_N hX zq_3 qn213 dX11_shelves_63 ?_
      refine z_iload hX dX11_shelves_66 4 rfl ?_
      replace hf := zchk_some hf
      obtain ⟨h6, hf⟩ := hf
      refine z_aald_mail hX zq_4 h6 dX11_shelves_68 ?_
      refine z_aload_n hX dX11_shelves_69 0 rfl ?_
      refine gf_Post_now hX zq_0 q439 dX11_shelves_70 ?_
      refine gf_World_bag_N hX zq_2 qn273 dX11_shelves_73 ?_
      refine gf_Bag_week_N hX zq_3 qn219 dX11_shelves_76 ?_
      replace hf := zb_some hf
      obtain ⟨g7, h7, hf⟩ := hf
      refine z_callV0 hX ok_X7_look q506 q507 q508 (zrm_ok hR (by decide)) (ct_X7_look zq_446 (zk_el22 zq_4 h6) h7) (zrec_Sight hX zq_446) dX11_shelves_79 rfl rfl ?_
      refine z_aload_n hX dX11_shelves_82 0 rfl ?_
      refine gf_Post_sight hX zq_0 q445 dX11_shelves_83 ?_
      refine z_aload_n hX dX11_shelves_86 0 rfl ?_
      refine gf_Post_now hX zq_0 q439 dX11_shelves_87 ?_
      refine gf_World_law_N hX zq_2 qn275 dX11_shelves_90 ?_
      refine z_iload_n hX dX11_shelves_93 2 rfl ?_
      replace hf := zb_some hf
      obtain ⟨g8, h8, hf⟩ := hf
      refine z_callV0 hX ok_X7_go q1200 q1201 q1202 (zrm_ok hR (by decide)) (ct_X7_go zq_446 zq_29 h8) (zrec_Sight hX zq_446) dX11_shelves_94 rfl rfl ?_
      refine z_aload_n hX dX11_shelves_97 0 rfl ?_
      refine gf_Post_shelving hX zq_0 q448 dX11_shelves_98 ?_
      refine z_aload_n hX dX11_shelves_101 0 rfl ?_
      refine gf_Post_sight hX zq_0 q445 dX11_shelves_102 ?_
      refine gf_Sight_mail_N hX zq_446 qn404 dX11_shelves_105 ?_
      refine gf_Mail_lines_N hX zq_447 qn176 dX11_shelves_108 ?_
      replace hf := zb_some hf
      obtain ⟨g9, h9, hf⟩ := hf
      refine z_callV0 hX ok_X6_add q1439 q1440 q1441 (zrm_ok hR (by decide)) (ct_X6_add  h9) (zrec_Shelving hX zq_480) dX11_shelves_111 rfl rfl ?_
      refine z_iincc (lv' := [(4, .int (v4 + 1)), (0, .ref (zB X + 0)), (1, .int v1), (2, .int v2), (3, .int v3)]) hX dX11_shelves_114 hn (by decide) 4 rfl ci_1 rfl ?_
      refine z_goto hX 37 dX11_shelves_117 (by decide) ?_
      refine zW.sub [1, 2, 3, 4, 0] rfl ?_
      exact ih (v4 + 1) g9 hf
set_option maxHeartbeats 4000000 in
set_option maxRecDepth 100000 in
theorem fX11_shelves_ok {X : zX} (hX : zCX X cX11_shelves RX11) (hT : zNT X) (hR : X.2.2.2.1 = zrm 7 2) (hr : X.2.2.2.2.2.2.2.2.1.sig.returnType = (some .int)) (hn : X.2.2.2.2.2.2.2.2.2.1.maxLocals = 5) {v1 : Int32} {v2 : Int32} {v3 : Int32} {g : zM} {r : Except Nat Int32 × zM} (hf : fX11_shelves v1 v2 v3 g = some r) : zW X (zQ X (zoI r) 2) 0 0 0 [(0, .ref (zB X + 0)), (1, .int v1), (2, .int v2), (3, .int v3)] [] g := by
  unfold fX11_shelves at hf
  refine z_iload_n hX dX11_shelves_0 1 rfl ?_
  refine z_iconst hX dX11_shelves_1 ci_1 ?_
  refine z_icmp_lt hX 11 dX11_shelves_2 (by decide) (fun h1 => ?_) (fun h1 => ?_)
  · replace hf := zif_pos h1 hf
    obtain rfl := Option.some.inj hf
    exact z_throwW hX hT hR at_2_114 (i := 19) rfl dX11_shelves_11 dX11_shelves_14 dX11_shelves_15 dX11_shelves_18 dX11_shelves_21 (zl rfl) (zl rfl) (zl rfl) (zl rfl)
  · replace hf := zif_neg h1 hf
    refine z_iload_n hX dX11_shelves_5 1 rfl ?_
    refine z_bipush hX dX11_shelves_6 cb_99 ?_
    refine z_icmp_le hX 22 dX11_shelves_8 (by decide) (fun h2 => ?_) (fun h2 => ?_)
    · replace hf := zif_pos h2 hf
      refine z_iload_n hX dX11_shelves_22 2 rfl ?_
      refine z_iconst hX dX11_shelves_23 ci_0 ?_
      replace hf := zb3_some hf
      rcases hf with ⟨c3, g3, h3, rfl⟩ | ⟨r_3, g3, h3, hf⟩
      · exact z_callS_x hX hT ok_X11_needAhead rfl q1195 q1196 (zrm_ok hR (by decide)) (ct_X11_needAhead  h3) dX11_shelves_24 rfl rfl (zl rfl) (zl rfl)
      refine z_callS0 hX ok_X11_needAhead rfl q1195 q1196 (zrm_ok hR (by decide)) (ct_X11_needAhead  h3) dX11_shelves_24 rfl rfl ?_
      refine z_aload_n hX dX11_shelves_27 0 rfl ?_
      refine gf_Post_shelving hX zq_0 q448 dX11_shelves_28 ?_
      replace hf := zb_some hf
      obtain ⟨g4, h4, hf⟩ := hf
      refine z_callV0 hX ok_X6_clear q1435 q1436 q1437 (zrm_ok hR (by decide)) (ct_X6_clear  h4) (zrec_Shelving hX zq_480) dX11_shelves_31 rfl rfl ?_
      refine z_iconst hX dX11_shelves_34 ci_0 ?_
      refine z_istore (lv' := [(4, .int 0), (0, .ref (zB X + 0)), (1, .int v1), (2, .int v2), (3, .int v3)]) hX dX11_shelves_35 hn (by decide) rfl ?_
      refine zW.sub [1, 2, 3, 4, 0] rfl ?_
      refine fX11_shelves_L37_ok hX hT hR hr hn (fun g10 hf => ?_) zFU 0 g4 hf
      · refine z_iload_n hX dX11_shelves_120 2 rfl ?_
        refine z_if_eq hX 135 dX11_shelves_121 (by decide) (fun h11 => ?_) (fun h11 => ?_)
        · replace hf := zif_pos h11 hf
          refine z_aload_n hX dX11_shelves_135 0 rfl ?_
          refine gf_Post_shelving hX zq_0 q448 dX11_shelves_136 ?_
          refine z_iload_n hX dX11_shelves_139 1 rfl ?_
          replace hf := zb2_some hf
          obtain ⟨r_12, g12, h12, hf⟩ := hf
          refine z_callV1 hX ok_X6_fewestShelves q1449 q1450 q1451 (zrm_ok hR (by decide)) (ct_X6_fewestShelves  h12) (zrec_Shelving hX zq_480) dX11_shelves_140 rfl rfl ?_
          obtain rfl := Option.some.inj hf
          exact z_iret hX hr rfl (zl rfl) (zl rfl) dX11_shelves_143
        · replace hf := zif_neg h11 hf
          refine z_aload_n hX dX11_shelves_124 0 rfl ?_
          refine gf_Post_shelving hX zq_0 q448 dX11_shelves_125 ?_
          refine z_iload_n hX dX11_shelves_128 1 rfl ?_
          replace hf := zb_some hf
          obtain ⟨r_13, h13, hf⟩ := hf
          refine z_callV1 hX ok_X6_mostOnOne q1443 q1444 q1445 (zrm_ok hR (by decide)) (ct_X6_mostOnOne  h13) (zrec_Shelving hX zq_480) dX11_shelves_129 rfl rfl ?_
          refine z_goto hX 143 dX11_shelves_132 (by decide) ?_
          obtain rfl := Option.some.inj hf
          exact z_iret hX hr rfl (zl rfl) (zl rfl) dX11_shelves_143
    · replace hf := zif_neg h2 hf
      obtain rfl := Option.some.inj hf
      exact z_throwW hX hT hR at_2_114 (i := 19) rfl dX11_shelves_11 dX11_shelves_14 dX11_shelves_15 dX11_shelves_18 dX11_shelves_21 (zl rfl) (zl rfl) (zl rfl) (zl rfl)
set_option maxHeartbeats 4000000 in
set_option maxRecDepth 100000 in
theorem ct_X11_shelves {E : zE} {v1 : Int32} {v2 : Int32} {v3 : Int32} {g : zM} {r : Except Nat Int32 × zM} (hf : fX11_shelves v1 v2 v3 g = some r) : zCt yX11_shelves cX11_shelves 5 (some .int) 7 2 E [.ref (E.1 + 0), .int v1, .int v2, .int v3] g (zoI r) := by
  refine zmet (by decide) (zl rfl) (fun X hE hX hT hR hr hn => ?_)
  subst hE
  exact fX11_shelves_ok hX hT hR hr hn  hf
