def fX11_putBytes_L3 (v1 : Int32) : Nat → Int32 → zM → Option zM
  | 0, _, _ => none
  | n + 1, v2, g => if v2 < 0 then some g else if 400 ≤ (g 0 1) then fX11_putBytes_L3 v1 n (v2 + (-8)) g else zchk (g 0 1) 400 (zput g 1 (g 0 1).toNatClampNeg (((v1.toUInt32 >>> (v2.toUInt32 &&& Int32.toUInt32 31)).toInt32) &&& 255) (fun g4 => zput g4 0 1 ((g4 0 1) + 1) (fun g5 => fX11_putBytes_L3 v1 n (v2 + (-8)) g5)))
def fX11_putBytes (v1 : Int32) (g : zM) : Option zM := fX11_putBytes_L3 v1 zFU 24 g
set_option maxHeartbeats 4000000 in
set_option maxRecDepth 100000 in
theorem fX11_putBytes_L3_ok {X : zX} (hX : zCX X cX11_putBytes RX11) (hT : zNT X) (hR : X.2.2.2.1 = zrm 0 0) (hr : X.2.2.2.2.2.2.2.2.1.sig.returnType = none) (hn : X.2.2.2.2.2.2.2.2.2.1.maxLocals = 3) {v1 : Int32} {r : zM}  : ∀ (n : Nat) (v2 : Int32) (g : zM), fX11_putBytes_L3 v1 n v2 g = some r → zW X (zQ X (.inl (none, r)) 0) 0 0 3 [(0, .ref (zB X + 0)), (1, .int v1), (2, .int v2)] [] g := by
  intro n
  induction n with
  | zero => intro v2 g hf; exact zno hf
  | succ n ih =>
    intro v2 g hf
    rw [fX11_putBytes_L3] at hf
    refine z_iload_n hX dX11_putBytes_3 2 rfl ?_
    refine z_if_lt hX 49 dX11_putBytes_4 (by decide) (fun h1 => ?_) (fun h1 => ?_)
    · replace hf := zif_pos h1 hf
      obtain rfl := Option.some.inj hf
      exact z_vret hX hr (zl rfl) (zl rfl) dX11_putBytes_49
    · replace hf := zif_neg h1 hf
      refine z_aload_n hX dX11_putBytes_7 0 rfl ?_
      refine gf_Post_tapeSize hX zq_0 q437 dX11_putBytes_8 ?_
      refine z_sipush hX dX11_putBytes_11 cs_400 ?_
      refine z_icmp_ge hX 43 dX11_putBytes_14 (by decide) (fun h2 => ?_) (fun h2 => ?_)
      · replace hf := zif_pos h2 hf
        refine z_iincc (lv' := [(2, .int (v2 + (-8))), (0, .ref (zB X + 0)), (1, .int v1)]) hX dX11_putBytes_43 hn (by decide) 2 rfl ci_m8 rfl ?_
        refine z_goto hX 3 dX11_putBytes_46 (by decide) ?_
        refine zW.sub [1, 2, 0] rfl ?_
        exact ih (v2 + (-8)) g hf
      · replace hf := zif_neg h2 hf
        refine z_aload_n hX dX11_putBytes_17 0 rfl ?_
        refine gf_Post_tape hX zq_0 q436 dX11_putBytes_18 ?_
        refine z_aload_n hX dX11_putBytes_21 0 rfl ?_
        refine gf_Post_tapeSize hX zq_0 q437 dX11_putBytes_22 ?_
        refine z_iload_n hX dX11_putBytes_25 1 rfl ?_
        refine z_iload_n hX dX11_putBytes_26 2 rfl ?_
        refine z_iushr hX dX11_putBytes_27 ?_
        refine z_sipush hX dX11_putBytes_28 cs_255 ?_
        refine z_iand hX dX11_putBytes_31 ?_
        replace hf := zchk_some hf
        obtain ⟨h3, hf⟩ := hf
        replace hf := zput_some hf
        obtain ⟨g4, eg4, hf⟩ := hf
        refine z_iast hX zq_1 (by decide) (zc_1400 _ _) h3 dX11_putBytes_32 (zW.eqg eg4 ?_)
        refine z_aload_n hX dX11_putBytes_33 0 rfl ?_
        refine z_dup hX dX11_putBytes_34 rfl ?_
        refine gf_Post_tapeSize hX zq_0 q437 dX11_putBytes_35 ?_
        refine z_iconst hX dX11_putBytes_38 ci_1 ?_
        refine z_iadd hX dX11_putBytes_39 ?_
        replace hf := zput_some hf
        obtain ⟨g5, eg5, hf⟩ := hf
        refine gp_Post_tapeSize hX zq_0 q437 dX11_putBytes_40 (zW.eqg eg5 ?_)
        refine z_iincc (lv' := [(2, .int (v2 + (-8))), (0, .ref (zB X + 0)), (1, .int v1)]) hX dX11_putBytes_43 hn (by decide) 2 rfl ci_m8 rfl ?_
        refine z_goto hX 3 dX11_putBytes_46 (by decide) ?_
        refine zW.sub [1, 2, 0] rfl ?_
        exact ih (v2 + (-8)) g5 hf
set_option maxHeartbeats 4000000 in
set_option maxRecDepth 100000 in
theorem fX11_putBytes_ok {X : zX} (hX : zCX X cX11_putBytes RX11) (hT : zNT X) (hR : X.2.2.2.1 = zrm 0 0) (hr : X.2.2.2.2.2.2.2.2.1.sig.returnType = none) (hn : X.2.2.2.2.2.2.2.2.2.1.maxLocals = 3) {v1 : Int32} {g : zM} {r : zM} (hf : fX11_putBytes v1 g = some r) : zW X (zQ X (.inl (none, r)) 0) 0 0 0 [(0, .ref (zB X + 0)), (1, .int v1)] [] g := by
  unfold fX11_putBytes at hf
  refine z_bipush hX dX11_putBytes_0 cb_24 ?_
  refine z_istore_n (lv' := [(2, .int 24), (0, .ref (zB X + 0)), (1, .int v1)]) hX dX11_putBytes_2 hn (by decide) rfl ?_
  refine zW.sub [1, 2, 0] rfl ?_
  exact fX11_putBytes_L3_ok hX hT hR hr hn  zFU 24 g hf
set_option maxHeartbeats 4000000 in
set_option maxRecDepth 100000 in
theorem ct_X11_putBytes {E : zE} {v1 : Int32} {g : zM} {r : zM} (hf : fX11_putBytes v1 g = some r) : zCt yX11_putBytes cX11_putBytes 3 none 0 0 E [.ref (E.1 + 0), .int v1] g (.inl (none, r)) := by
  refine zmet (by decide) (zl rfl) (fun X hE hX hT hR hr hn => ?_)
  subst hE
  exact fX11_putBytes_ok hX hT hR hr hn  hf
def fX11_feed (v1 : Int32) (v2 : Int32) (v3 : Int32) (v4 : Int32) (v5 : Int32) (g : zM) : Option (Int32 × zM) := if ((g 0 1) + 20) ≤ 400 then zb (fX11_putBytes v1 g) (fun g2 => zb (fX11_putBytes v2 g2) (fun g3 => zb (fX11_putBytes v3 g3) (fun g4 => zb (fX11_putBytes v4 g4) (fun g5 => zb (fX11_putBytes v5 g5) (fun g6 => some (g6 0 1, g6)))))) else some ((-1), g)
set_option maxHeartbeats 4000000 in
set_option maxRecDepth 100000 in
theorem fX11_feed_ok {X : zX} (hX : zCX X cX11_feed RX11) (hT : zNT X) (hR : X.2.2.2.1 = zrm 1 0) (hr : X.2.2.2.2.2.2.2.2.1.sig.returnType = (some .int)) (hn : X.2.2.2.2.2.2.2.2.2.1.maxLocals = 6) {v1 : Int32} {v2 : Int32} {v3 : Int32} {v4 : Int32} {v5 : Int32} {g : zM} {r : Int32 × zM} (hf : fX11_feed v1 v2 v3 v4 v5 g = some r) : zW X (zQ X (.inl (some (.int r.1), r.2)) 0) 0 0 0 [(0, .ref (zB X + 0)), (1, .int v1), (2, .int v2), (3, .int v3), (4, .int v4), (5, .int v5)] [] g := by
  unfold fX11_feed at hf
  refine z_aload_n hX dX11_feed_0 0 rfl ?_
  refine gf_Post_tapeSize hX zq_0 q437 dX11_feed_1 ?_
  refine z_bipush hX dX11_feed_4 cb_20 ?_
  refine z_iadd hX dX11_feed_6 ?_
  refine z_sipush hX dX11_feed_7 cs_400 ?_
  refine z_icmp_le hX 15 dX11_feed_10 (by decide) (fun h1 => ?_) (fun h1 => ?_)
  · replace hf := zif_pos h1 hf
    refine z_aload_n hX dX11_feed_15 0 rfl ?_
    refine z_iload_n hX dX11_feed_16 1 rfl ?_
    replace hf := zb_some hf
    obtain ⟨g2, h2, hf⟩ := hf
    refine z_callV0 hX ok_X11_putBytes q486 q488 q0 (zrm_ok hR (by decide)) (ct_X11_putBytes  h2) (zrec_Post hX zq_0) dX11_feed_17 rfl rfl ?_
    refine z_aload_n hX dX11_feed_20 0 rfl ?_
    refine z_iload_n hX dX11_feed_21 2 rfl ?_
    replace hf := zb_some hf
    obtain ⟨g3, h3, hf⟩ := hf
    refine z_callV0 hX ok_X11_putBytes q486 q488 q0 (zrm_ok hR (by decide)) (ct_X11_putBytes  h3) (zrec_Post hX zq_0) dX11_feed_22 rfl rfl ?_
    refine z_aload_n hX dX11_feed_25 0 rfl ?_
    refine z_iload_n hX dX11_feed_26 3 rfl ?_
    replace hf := zb_some hf
    obtain ⟨g4, h4, hf⟩ := hf
    refine z_callV0 hX ok_X11_putBytes q486 q488 q0 (zrm_ok hR (by decide)) (ct_X11_putBytes  h4) (zrec_Post hX zq_0) dX11_feed_27 rfl rfl ?_
    refine z_aload_n hX dX11_feed_30 0 rfl ?_
    refine z_iload hX dX11_feed_31 4 rfl ?_
    replace hf := zb_some hf
    obtain ⟨g5, h5, hf⟩ := hf
    refine z_callV0 hX ok_X11_putBytes q486 q488 q0 (zrm_ok hR (by decide)) (ct_X11_putBytes  h5) (zrec_Post hX zq_0) dX11_feed_33 rfl rfl ?_
    refine z_aload_n hX dX11_feed_36 0 rfl ?_
    refine z_iload hX dX11_feed_37 5 rfl ?_
    replace hf := zb_some hf
    obtain ⟨g6, h6, hf⟩ := hf
    refine z_callV0 hX ok_X11_putBytes q486 q488 q0 (zrm_ok hR (by decide)) (ct_X11_putBytes  h6) (zrec_Post hX zq_0) dX11_feed_39 rfl rfl ?_
    refine z_aload_n hX dX11_feed_42 0 rfl ?_
    refine gf_Post_tapeSize hX zq_0 q437 dX11_feed_43 ?_
    obtain rfl := Option.some.inj hf
    exact z_iret hX hr rfl (zl rfl) (zl rfl) dX11_feed_46
  · replace hf := zif_neg h1 hf
    refine z_iconst hX dX11_feed_13 ci_m1 ?_
    obtain rfl := Option.some.inj hf
    exact z_iret hX hr rfl (zl rfl) (zl rfl) dX11_feed_14
set_option maxHeartbeats 4000000 in
set_option maxRecDepth 100000 in
theorem ct_X11_feed {E : zE} {v1 : Int32} {v2 : Int32} {v3 : Int32} {v4 : Int32} {v5 : Int32} {g : zM} {r : Int32 × zM} (hf : fX11_feed v1 v2 v3 v4 v5 g = some r) : zCt yX11_feed cX11_feed 6 (some .int) 1 0 E [.ref (E.1 + 0), .int v1, .int v2, .int v3, .int v4, .int v5] g (.inl (some (.int r.1), r.2)) := by
  refine zmet (by decide) (zl rfl) (fun X hE hX hT hR hr hn => ?_)
  subst hE
  exact fX11_feed_ok hX hT hR hr hn  hf
def fX11_end (v1 : Int32) (g : zM) : Option (Int32 × zM) := if v1 < 0 then some (0, g) else if v1 ≤ (g 0 1) then zput g 0 1 v1 (fun g3 => some (1, g3)) else some (0, g)
set_option maxHeartbeats 4000000 in
set_option maxRecDepth 100000 in
theorem fX11_end_ok {X : zX} (hX : zCX X cX11_end RX11) (hT : zNT X) (hR : X.2.2.2.1 = zrm 0 0) (hr : X.2.2.2.2.2.2.2.2.1.sig.returnType = (some .boolean)) (hn : X.2.2.2.2.2.2.2.2.2.1.maxLocals = 2) {v1 : Int32} {g : zM} {r : Int32 × zM} (hf : fX11_end v1 g = some r) : zW X (zQ X (.inl (some (.int r.1), r.2)) 0) 0 0 0 [(0, .ref (zB X + 0)), (1, .int v1)] [] g := by
  unfold fX11_end at hf
  refine z_iload_n hX dX11_end_0 1 rfl ?_
  refine z_if_lt hX 12 dX11_end_1 (by decide) (fun h1 => ?_) (fun h1 => ?_)
  · replace hf := zif_pos h1 hf
    refine z_iconst hX dX11_end_12 ci_0 ?_
    obtain rfl := Option.some.inj hf
    exact z_iret hX hr (zbn (Or.inl rfl)) (zl rfl) (zl rfl) dX11_end_13
  · replace hf := zif_neg h1 hf
    refine z_iload_n hX dX11_end_4 1 rfl ?_
    refine z_aload_n hX dX11_end_5 0 rfl ?_
    refine gf_Post_tapeSize hX zq_0 q437 dX11_end_6 ?_
    refine z_icmp_le hX 14 dX11_end_9 (by decide) (fun h2 => ?_) (fun h2 => ?_)
    · replace hf := zif_pos h2 hf
      refine z_aload_n hX dX11_end_14 0 rfl ?_
      refine z_iload_n hX dX11_end_15 1 rfl ?_
      replace hf := zput_some hf
      obtain ⟨g3, eg3, hf⟩ := hf
      refine gp_Post_tapeSize hX zq_0 q437 dX11_end_16 (zW.eqg eg3 ?_)
      refine z_iconst hX dX11_end_19 ci_1 ?_
      obtain rfl := Option.some.inj hf
      exact z_iret hX hr (zbn (Or.inr rfl)) (zl rfl) (zl rfl) dX11_end_20
    · replace hf := zif_neg h2 hf
      refine z_iconst hX dX11_end_12 ci_0 ?_
      obtain rfl := Option.some.inj hf
      exact z_iret hX hr (zbn (Or.inl rfl)) (zl rfl) (zl rfl) dX11_end_13
set_option maxHeartbeats 4000000 in
set_option maxRecDepth 100000 in
theorem ct_X11_end {E : zE} {v1 : Int32} {g : zM} {r : Int32 × zM} (hf : fX11_end v1 g = some r) : zCt yX11_end cX11_end 2 (some .boolean) 0 0 E [.ref (E.1 + 0), .int v1] g (.inl (some (.int r.1), r.2)) := by
  refine zmet (by decide) (zl rfl) (fun X hE hX hT hR hr hn => ?_)
  subst hE
  exact fX11_end_ok hX hT hR hr hn  hf
def fX3_become (h : Nat) (r1 : Nat) (g : zM) : Option zM := zacp g (r1 + 1) 0 24 (h + 1) 0 24 24 (fun g2 => zacp g2 (r1 + 2) 0 24 (h + 2) 0 24 24 (fun g4 => zput g4 h 2 (g4 r1 2) (fun g5 => zput g5 h 3 (g5 r1 3) (fun g6 => zput g6 h 4 (g6 r1 4) (fun g7 => zbo (g7 r1 5) (zput g7 h 5 (g7 r1 5) (fun g9 => zbo (g9 r1 6) (zput g9 h 6 (g9 r1 6) (fun g11 => some g11)))))))))
set_option maxHeartbeats 4000000 in
set_option maxRecDepth 100000 in
theorem fX3_become_ok {X : zX} (hX : zCX X cX3_become RX3) (hT : zNT X) (hR : X.2.2.2.1 = zrm 5 0) (hr : X.2.2.2.2.2.2.2.2.1.sig.returnType = none) (hn : X.2.2.2.2.2.2.2.2.2.1.maxLocals = 2) {h : Nat} {r1 : Nat} (hkh : zK h = 3) (hk1 : zK r1 = 3) {g : zM} {r : zM} (hf : fX3_become h r1 g = some r) : zW X (zQ X (.inl (none, r)) 0) 0 0 0 [(0, .ref (zB X + h)), (1, .ref (zB X + r1))] [] g := by
  unfold fX3_become at hf
  refine z_aload_n hX dX3_become_0 1 rfl ?_
  refine gf_Mail_kinds hX hk1 q170 dX3_become_1 ?_
  refine z_iconst hX dX3_become_4 ci_0 ?_
  refine z_aload_n hX dX3_become_5 0 rfl ?_
  refine gf_Mail_kinds hX hkh q170 dX3_become_6 ?_
  refine z_iconst hX dX3_become_9 ci_0 ?_
  refine z_bipush hX dX3_become_10 cb_24 ?_
  replace hf := zacp_some hf
  obtain ⟨g2, eg2, h1, hf⟩ := hf
  refine z_acp hX hR (zk_Mail_kinds hk1) (by decide) (zc_1024 _ _) (zk_Mail_kinds hkh) (by decide) (zc_1024 _ _) q514 h1 (zl rfl) dX3_become_12 (zW.eqg eg2 ?_)
  refine z_aload_n hX dX3_become_15 1 rfl ?_
  refine gf_Mail_weeks hX hk1 q172 dX3_become_16 ?_
  refine z_iconst hX dX3_become_19 ci_0 ?_
  refine z_aload_n hX dX3_become_20 0 rfl ?_
  refine gf_Mail_weeks hX hkh q172 dX3_become_21 ?_
  refine z_iconst hX dX3_become_24 ci_0 ?_
  refine z_bipush hX dX3_become_25 cb_24 ?_
  replace hf := zacp_some hf
  obtain ⟨g4, eg4, h3, hf⟩ := hf
  refine z_acp hX hR (zk_Mail_weeks hk1) (by decide) (zc_1024 _ _) (zk_Mail_weeks hkh) (by decide) (zc_1024 _ _) q514 h3 (zl rfl) dX3_become_27 (zW.eqg eg4 ?_)
  refine z_aload_n hX dX3_become_30 0 rfl ?_
  refine z_aload_n hX dX3_become_31 1 rfl ?_
  refine gf_Mail_lines hX hk1 q173 dX3_become_32 ?_
  replace hf := zput_some hf
  obtain ⟨g5, eg5, hf⟩ := hf
  refine gp_Mail_lines hX hkh q173 dX3_become_35 (zW.eqg eg5 ?_)
  refine z_aload_n hX dX3_become_38 0 rfl ?_
  refine z_aload_n hX dX3_become_39 1 rfl ?_
  refine gf_Mail_temper hX hk1 q178 dX3_become_40 ?_
  replace hf := zput_some hf
  obtain ⟨g6, eg6, hf⟩ := hf
  refine gp_Mail_temper hX hkh q178 dX3_become_43 (zW.eqg eg6 ?_)
  refine z_aload_n hX dX3_become_46 0 rfl ?_
  refine z_aload_n hX dX3_become_47 1 rfl ?_
  refine gf_Mail_sender hX hk1 q181 dX3_become_48 ?_
  replace hf := zput_some hf
  obtain ⟨g7, eg7, hf⟩ := hf
  refine gp_Mail_sender hX hkh q181 dX3_become_51 (zW.eqg eg7 ?_)
  refine z_aload_n hX dX3_become_54 0 rfl ?_
  refine z_aload_n hX dX3_become_55 1 rfl ?_
  refine gf_Mail_open hX hk1 q184 dX3_become_56 ?_
  replace hf := zbo_some hf
  obtain ⟨h8, hf⟩ := hf
  replace hf := zput_some hf
  obtain ⟨g9, eg9, hf⟩ := hf
  refine gp_Mail_open hX hkh q184 h8 dX3_become_59 (zW.eqg eg9 ?_)
  refine z_aload_n hX dX3_become_62 0 rfl ?_
  refine z_aload_n hX dX3_become_63 1 rfl ?_
  refine gf_Mail_hot hX hk1 q189 dX3_become_64 ?_
  replace hf := zbo_some hf
  obtain ⟨h10, hf⟩ := hf
  replace hf := zput_some hf
  obtain ⟨g11, eg11, hf⟩ := hf
  refine gp_Mail_hot hX hkh q189 h10 dX3_become_67 (zW.eqg eg11 ?_)
  obtain rfl := Option.some.inj hf
  exact z_vret hX hr (zl rfl) (zl rfl) dX3_become_70
set_option maxHeartbeats 4000000 in
set_option maxRecDepth 100000 in
theorem ct_X3_become {E : zE} {h : Nat} {r1 : Nat} (hkh : zK h = 3) (hk1 : zK r1 = 3) {g : zM} {r : zM} (hf : fX3_become h r1 g = some r) : zCt yX3_become cX3_become 2 none 5 0 E [.ref (E.1 + h), .ref (E.1 + r1)] g (.inl (none, r)) := by
  refine zmet (by decide) (zl rfl) (fun X hE hX hT hR hr hn => ?_)
  subst hE
  exact fX3_become_ok hX hT hR hr hn hkh hk1 hf
def fX0_become_L2 (h : Nat) (r1 : Nat) (k37 : zM → Option zM) : Nat → Int32 → zM → Option zM
  | 0, _, _ => none
  | n + 1, v2, g => if (g r1 1) ≤ v2 then k37 g else if 8 ≤ v2 then k37 g else zchk v2 8 (zchk v2 8 (zb (fX3_become (h + 1 + 1 + 3 * v2.toNatClampNeg) (r1 + 1 + 1 + 3 * v2.toNatClampNeg) g) (fun g5 => fX0_become_L2 h r1 k37 n (v2 + 1) g5)))
def fX0_become (h : Nat) (r1 : Nat) (g : zM) : Option zM := fX0_become_L2 h r1 (fun g6 => zput g6 h 1 (g6 r1 1) (fun g7 => zput g7 h 2 (g7 r1 2) (fun g8 => zput g8 h 3 (g8 r1 3) (fun g9 => zput g9 h 4 (g9 r1 4) (fun g10 => some g10))))) zFU 0 g
set_option maxHeartbeats 4000000 in
set_option maxRecDepth 100000 in
theorem fX0_become_L2_ok {X : zX} (hX : zCX X cX0_become RX0) (hT : zNT X) (hR : X.2.2.2.1 = zrm 6 0) (hr : X.2.2.2.2.2.2.2.2.1.sig.returnType = none) (hn : X.2.2.2.2.2.2.2.2.2.1.maxLocals = 3) {h : Nat} {r1 : Nat} (hkh : zK h = 0) (hkr1 : zK r1 = 0) {k37 : zM → Option zM} {r : zM} (hk37 : ∀ (g : zM), k37 g = some r → zW X (zQ X (.inl (none, r)) 0) 0 0 37 [(0, .ref (zB X + h)), (1, .ref (zB X + r1))] [] g) : ∀ (n : Nat) (v2 : Int32) (g : zM), fX0_become_L2 h r1 k37 n v2 g = some r → zW X (zQ X (.inl (none, r)) 0) 0 0 2 [(0, .ref (zB X + h)), (1, .ref (zB X + r1)), (2, .int v2)] [] g := by
  intro n
  induction n with
  | zero => intro v2 g hf; exact zno hf
  | succ n ih =>
    intro v2 g hf
    rw [fX0_become_L2] at hf
    refine z_iload_n hX dX0_become_2 2 rfl ?_
    refine z_aload_n hX dX0_become_3 1 rfl ?_
    refine gf_Bag_size hX hkr1 q214 dX0_become_4 ?_
    refine z_icmp_ge hX 37 dX0_become_7 (by decide) (fun h1 => ?_) (fun h1 => ?_)
    · replace hf := zif_pos h1 hf
      refine zW.sub [0, 1] rfl ?_
      exact hk37 g hf
    · replace hf := zif_neg h1 hf
      refine z_iload_n hX dX0_become_10 2 rfl ?_
      refine z_bipush hX dX0_become_11 cb_8 ?_
      refine z_icmp_ge hX 37 dX0_become_13 (by decide) (fun h2 => ?_) (fun h2 => ?_)
      · replace hf := zif_pos h2 hf
        refine zW.sub [0, 1] rfl ?_
        exact hk37 g hf
      · replace hf := zif_neg h2 hf
        refine z_aload_n hX dX0_become_16 0 rfl ?_
        refine gf_Bag_mails hX hkh q211 dX0_become_17 ?_
        refine z_iload_n hX dX0_become_20 2 rfl ?_
        replace hf := zchk_some hf
        obtain ⟨h3, hf⟩ := hf
        refine z_aald_mail hX (zk_Bag_mails hkh) h3 dX0_become_21 ?_
        refine z_aload_n hX dX0_become_22 1 rfl ?_
        refine gf_Bag_mails hX hkr1 q211 dX0_become_23 ?_
        refine z_iload_n hX dX0_become_26 2 rfl ?_
        replace hf := zchk_some hf
        obtain ⟨h4, hf⟩ := hf
        refine z_aald_mail hX (zk_Bag_mails hkr1) h4 dX0_become_27 ?_
        replace hf := zb_some hf
        obtain ⟨g5, h5, hf⟩ := hf
        refine z_callV0 hX ok_X3_become q607 q511 q512 (zrm_ok hR (by decide)) (ct_X3_become (zk_el22 (zk_Bag_mails hkh) h3) (zk_el22 (zk_Bag_mails hkr1) h4) h5) (zrec_Mail hX (zk_el22 (zk_Bag_mails hkh) h3)) dX0_become_28 rfl rfl ?_
        refine z_iincc (lv' := [(2, .int (v2 + 1)), (0, .ref (zB X + h)), (1, .ref (zB X + r1))]) hX dX0_become_31 hn (by decide) 2 rfl ci_1 rfl ?_
        refine z_goto hX 2 dX0_become_34 (by decide) ?_
        refine zW.sub [1, 2, 0] rfl ?_
        exact ih (v2 + 1) g5 hf
set_option maxHeartbeats 4000000 in
set_option maxRecDepth 100000 in
theorem fX0_become_ok {X : zX} (hX : zCX X cX0_become RX0) (hT : zNT X) (hR : X.2.2.2.1 = zrm 6 0) (hr : X.2.2.2.2.2.2.2.2.1.sig.returnType = none) (hn : X.2.2.2.2.2.2.2.2.2.1.maxLocals = 3) {h : Nat} {r1 : Nat} (hkh : zK h = 0) (hk1 : zK r1 = 0) {g : zM} {r : zM} (hf : fX0_become h r1 g = some r) : zW X (zQ X (.inl (none, r)) 0) 0 0 0 [(0, .ref (zB X + h)), (1, .ref (zB X + r1))] [] g := by
  unfold fX0_become at hf
  refine z_iconst hX dX0_become_0 ci_0 ?_
  refine z_istore_n (lv' := [(2, .int 0), (0, .ref (zB X + h)), (1, .ref (zB X + r1))]) hX dX0_become_1 hn (by decide) rfl ?_
  refine zW.sub [1, 2, 0] rfl ?_
  refine fX0_become_L2_ok hX hT hR hr hn hkh hk1 (fun g6 hf => ?_) zFU 0 g hf
  · refine z_aload_n hX dX0_become_37 0 rfl ?_
    refine z_aload_n hX dX0_become_38 1 rfl ?_
    refine gf_Bag_size hX hk1 q214 dX0_become_39 ?_
    replace hf := zput_some hf
    obtain ⟨g7, eg7, hf⟩ := hf
    refine gp_Bag_size hX hkh q214 dX0_become_42 (zW.eqg eg7 ?_)
    refine z_aload_n hX dX0_become_45 0 rfl ?_
    refine z_aload_n hX dX0_become_46 1 rfl ?_
    refine gf_Bag_week hX hk1 q217 dX0_become_47 ?_
    replace hf := zput_some hf
    obtain ⟨g8, eg8, hf⟩ := hf
    refine gp_Bag_week hX hkh q217 dX0_become_50 (zW.eqg eg8 ?_)
    refine z_aload_n hX dX0_become_53 0 rfl ?_
    refine z_aload_n hX dX0_become_54 1 rfl ?_
    refine gf_Bag_seed hX hk1 q220 dX0_become_55 ?_
    replace hf := zput_some hf
    obtain ⟨g9, eg9, hf⟩ := hf
    refine gp_Bag_seed hX hkh q220 dX0_become_58 (zW.eqg eg9 ?_)
    refine z_aload_n hX dX0_become_61 0 rfl ?_
    refine z_aload_n hX dX0_become_62 1 rfl ?_
    refine gf_Bag_came hX hk1 q222 dX0_become_63 ?_
    replace hf := zput_some hf
    obtain ⟨g10, eg10, hf⟩ := hf
    refine gp_Bag_came hX hkh q222 dX0_become_66 (zW.eqg eg10 ?_)
    obtain rfl := Option.some.inj hf
    exact z_vret hX hr (zl rfl) (zl rfl) dX0_become_69
set_option maxHeartbeats 4000000 in
set_option maxRecDepth 100000 in
theorem ct_X0_become {E : zE} {h : Nat} {r1 : Nat} (hkh : zK h = 0) (hk1 : zK r1 = 0) {g : zM} {r : zM} (hf : fX0_become h r1 g = some r) : zCt yX0_become cX0_become 3 none 6 0 E [.ref (E.1 + h), .ref (E.1 + r1)] g (.inl (none, r)) := by
  refine zmet (by decide) (zl rfl) (fun X hE hX hT hR hr hn => ?_)
  subst hE
  exact fX0_become_ok hX hT hR hr hn hkh hk1 hf
def fX1_become (h : Nat) (r1 : Nat) (g : zM) : Option zM := zacp g (r1 + 1) 0 12 (h + 1) 0 12 12 (fun g2 => zacp g2 (r1 + 2) 0 12 (h + 2) 0 12 12 (fun g4 => zacp g4 (r1 + 3) 0 12 (h + 3) 0 12 12 (fun g6 => zacp g6 (r1 + 4) 0 400 (h + 4) 0 400 400 (fun g8 => zput g8 h 6 (g8 r1 6) (fun g9 => zput g9 h 7 (g9 r1 7) (fun g10 => zbo (g10 r1 8) (zput g10 h 8 (g10 r1 8) (fun g12 => some g12))))))))
set_option maxHeartbeats 4000000 in
set_option maxRecDepth 100000 in
theorem fX1_become_ok {X : zX} (hX : zCX X cX1_become RX1) (hT : zNT X) (hR : X.2.2.2.1 = zrm 5 0) (hr : X.2.2.2.2.2.2.2.2.1.sig.returnType = none) (hn : X.2.2.2.2.2.2.2.2.2.1.maxLocals = 2) {h : Nat} {r1 : Nat} (hkh : zK h = 1) (hk1 : zK r1 = 1) {g : zM} {r : zM} (hf : fX1_become h r1 g = some r) : zW X (zQ X (.inl (none, r)) 0) 0 0 0 [(0, .ref (zB X + h)), (1, .ref (zB X + r1))] [] g := by
  unfold fX1_become at hf
  refine z_aload_n hX dX1_become_0 1 rfl ?_
  refine gf_Law_froms hX hk1 q241 dX1_become_1 ?_
  refine z_iconst hX dX1_become_4 ci_0 ?_
  refine z_aload_n hX dX1_become_5 0 rfl ?_
  refine gf_Law_froms hX hkh q241 dX1_become_6 ?_
  refine z_iconst hX dX1_become_9 ci_0 ?_
  refine z_bipush hX dX1_become_10 cb_12 ?_
  replace hf := zacp_some hf
  obtain ⟨g2, eg2, h1, hf⟩ := hf
  refine z_acp hX hR (zk_Law_froms hk1) (by decide) (zc_1012 _ _) (zk_Law_froms hkh) (by decide) (zc_1012 _ _) q621 h1 (zl rfl) dX1_become_12 (zW.eqg eg2 ?_)
  refine z_aload_n hX dX1_become_15 1 rfl ?_
  refine gf_Law_tos hX hk1 q242 dX1_become_16 ?_
  refine z_iconst hX dX1_become_19 ci_0 ?_
  refine z_aload_n hX dX1_become_20 0 rfl ?_
  refine gf_Law_tos hX hkh q242 dX1_become_21 ?_
  refine z_iconst hX dX1_become_24 ci_0 ?_
  refine z_bipush hX dX1_become_25 cb_12 ?_
  replace hf := zacp_some hf
  obtain ⟨g4, eg4, h3, hf⟩ := hf
  refine z_acp hX hR (zk_Law_tos hk1) (by decide) (zc_1012 _ _) (zk_Law_tos hkh) (by decide) (zc_1012 _ _) q621 h3 (zl rfl) dX1_become_27 (zW.eqg eg4 ?_)
  refine z_aload_n hX dX1_become_30 1 rfl ?_
  refine gf_Law_ends hX hk1 q243 dX1_become_31 ?_
  refine z_iconst hX dX1_become_34 ci_0 ?_
  refine z_aload_n hX dX1_become_35 0 rfl ?_
  refine gf_Law_ends hX hkh q243 dX1_become_36 ?_
  refine z_iconst hX dX1_become_39 ci_0 ?_
  refine z_bipush hX dX1_become_40 cb_12 ?_
  replace hf := zacp_some hf
  obtain ⟨g6, eg6, h5, hf⟩ := hf
  refine z_acp hX hR (zk_Law_ends hk1) (by decide) (zc_1012 _ _) (zk_Law_ends hkh) (by decide) (zc_1012 _ _) q621 h5 (zl rfl) dX1_become_42 (zW.eqg eg6 ?_)
  refine z_aload_n hX dX1_become_45 1 rfl ?_
  refine gf_Law_codes hX hk1 q244 dX1_become_46 ?_
  refine z_iconst hX dX1_become_49 ci_0 ?_
  refine z_aload_n hX dX1_become_50 0 rfl ?_
  refine gf_Law_codes hX hkh q244 dX1_become_51 ?_
  refine z_iconst hX dX1_become_54 ci_0 ?_
  refine z_sipush hX dX1_become_55 cs_400 ?_
  replace hf := zacp_some hf
  obtain ⟨g8, eg8, h7, hf⟩ := hf
  refine z_acp hX hR (zk_Law_codes hk1) (by decide) (zc_1400 _ _) (zk_Law_codes hkh) (by decide) (zc_1400 _ _) q621 h7 (zl rfl) dX1_become_58 (zW.eqg eg8 ?_)
  refine z_aload_n hX dX1_become_61 0 rfl ?_
  refine z_aload_n hX dX1_become_62 1 rfl ?_
  refine gf_Law_codeSize hX hk1 q247 dX1_become_63 ?_
  replace hf := zput_some hf
  obtain ⟨g9, eg9, hf⟩ := hf
  refine gp_Law_codeSize hX hkh q247 dX1_become_66 (zW.eqg eg9 ?_)
  refine z_aload_n hX dX1_become_69 0 rfl ?_
  refine z_aload_n hX dX1_become_70 1 rfl ?_
  refine gf_Law_size hX hk1 q248 dX1_become_71 ?_
  replace hf := zput_some hf
  obtain ⟨g10, eg10, hf⟩ := hf
  refine gp_Law_size hX hkh q248 dX1_become_74 (zW.eqg eg10 ?_)
  refine z_aload_n hX dX1_become_77 0 rfl ?_
  refine z_aload_n hX dX1_become_78 1 rfl ?_
  refine gf_Law_told hX hk1 q250 dX1_become_79 ?_
  replace hf := zbo_some hf
  obtain ⟨h11, hf⟩ := hf
  replace hf := zput_some hf
  obtain ⟨g12, eg12, hf⟩ := hf
  refine gp_Law_told hX hkh q250 h11 dX1_become_82 (zW.eqg eg12 ?_)
  obtain rfl := Option.some.inj hf
  exact z_vret hX hr (zl rfl) (zl rfl) dX1_become_85
set_option maxHeartbeats 4000000 in
set_option maxRecDepth 100000 in
theorem ct_X1_become {E : zE} {h : Nat} {r1 : Nat} (hkh : zK h = 1) (hk1 : zK r1 = 1) {g : zM} {r : zM} (hf : fX1_become h r1 g = some r) : zCt yX1_become cX1_become 2 none 5 0 E [.ref (E.1 + h), .ref (E.1 + r1)] g (.inl (none, r)) := by
  refine zmet (by decide) (zl rfl) (fun X hE hX hT hR hr hn => ?_)
  subst hE
  exact fX1_become_ok hX hT hR hr hn hkh hk1 hf
def fX10_become (h : Nat) (r1 : Nat) (g : zM) : Option zM := zb (fX0_become (h + 1) (r1 + 1) g) (fun g1 => zb (fX1_become (h + 27) (r1 + 27) g1) (fun g2 => zacp g2 (r1 + 34) 0 12 (h + 34) 0 12 12 (fun g4 => zacp g4 (r1 + 35) 0 8 (h + 35) 0 8 8 (fun g6 => zacp g6 (r1 + 36) 0 8 (h + 36) 0 8 8 (fun g8 => zput g8 h 5 (g8 r1 5) (fun g9 => zput g9 h 6 (g9 r1 6) (fun g10 => zput g10 h 7 (g10 r1 7) (fun g11 => some g11))))))))
set_option maxHeartbeats 4000000 in
set_option maxRecDepth 100000 in
theorem fX10_become_ok {X : zX} (hX : zCX X cX10_become RX10) (hT : zNT X) (hR : X.2.2.2.1 = zrm 7 0) (hr : X.2.2.2.2.2.2.2.2.1.sig.returnType = none) (hn : X.2.2.2.2.2.2.2.2.2.1.maxLocals = 2) {h : Nat} {r1 : Nat} (hkh : zK h = 9) (hk1 : zK r1 = 9) {g : zM} {r : zM} (hf : fX10_become h r1 g = some r) : zW X (zQ X (.inl (none, r)) 0) 0 0 0 [(0, .ref (zB X + h)), (1, .ref (zB X + r1))] [] g := by
  unfold fX10_become at hf
  refine z_aload_n hX dX10_become_0 0 rfl ?_
  refine gf_World_bag hX hkh q271 dX10_become_1 ?_
  refine z_aload_n hX dX10_become_4 1 rfl ?_
  refine gf_World_bag hX hk1 q271 dX10_become_5 ?_
  replace hf := zb_some hf
  obtain ⟨g1, h1, hf⟩ := hf
  refine z_callV0 hX ok_X0_become q616 q604 q605 (zrm_ok hR (by decide)) (ct_X0_become (zk_World_bag hkh) (zk_World_bag hk1) h1) (zrec_Bag hX (zk_World_bag hkh)) dX10_become_8 rfl rfl ?_
  refine z_aload_n hX dX10_become_11 0 rfl ?_
  refine gf_World_law hX hkh q274 dX10_become_12 ?_
  refine z_aload_n hX dX10_become_15 1 rfl ?_
  refine gf_World_law hX hk1 q274 dX10_become_16 ?_
  replace hf := zb_some hf
  obtain ⟨g2, h2, hf⟩ := hf
  refine z_callV0 hX ok_X1_become q617 q618 q619 (zrm_ok hR (by decide)) (ct_X1_become (zk_World_law hkh) (zk_World_law hk1) h2) (zrec_Law hX (zk_World_law hkh)) dX10_become_19 rfl rfl ?_
  refine z_aload_n hX dX10_become_22 1 rfl ?_
  refine gf_World_words hX hk1 q276 dX10_become_23 ?_
  refine z_iconst hX dX10_become_26 ci_0 ?_
  refine z_aload_n hX dX10_become_27 0 rfl ?_
  refine gf_World_words hX hkh q276 dX10_become_28 ?_
  refine z_iconst hX dX10_become_31 ci_0 ?_
  refine z_bipush hX dX10_become_32 cb_12 ?_
  replace hf := zacp_some hf
  obtain ⟨g4, eg4, h3, hf⟩ := hf
  refine z_acp hX hR (zk_World_words hk1) (by decide) (zc_1012 _ _) (zk_World_words hkh) (by decide) (zc_1012 _ _) q622 h3 (zl rfl) dX10_become_34 (zW.eqg eg4 ?_)
  refine z_aload_n hX dX10_become_37 1 rfl ?_
  refine gf_World_firsts hX hk1 q277 dX10_become_38 ?_
  refine z_iconst hX dX10_become_41 ci_0 ?_
  refine z_aload_n hX dX10_become_42 0 rfl ?_
  refine gf_World_firsts hX hkh q277 dX10_become_43 ?_
  refine z_iconst hX dX10_become_46 ci_0 ?_
  refine z_bipush hX dX10_become_47 cb_8 ?_
  replace hf := zacp_some hf
  obtain ⟨g6, eg6, h5, hf⟩ := hf
  refine z_acp hX hR (zk_World_firsts hk1) (by decide) (zc_1008 _ _) (zk_World_firsts hkh) (by decide) (zc_1008 _ _) q622 h5 (zl rfl) dX10_become_49 (zW.eqg eg6 ?_)
  refine z_aload_n hX dX10_become_52 1 rfl ?_
  refine gf_World_seconds hX hk1 q278 dX10_become_53 ?_
  refine z_iconst hX dX10_become_56 ci_0 ?_
  refine z_aload_n hX dX10_become_57 0 rfl ?_
  refine gf_World_seconds hX hkh q278 dX10_become_58 ?_
  refine z_iconst hX dX10_become_61 ci_0 ?_
  refine z_bipush hX dX10_become_62 cb_8 ?_
  replace hf := zacp_some hf
  obtain ⟨g8, eg8, h7, hf⟩ := hf
  refine z_acp hX hR (zk_World_seconds hk1) (by decide) (zc_1008 _ _) (zk_World_seconds hkh) (by decide) (zc_1008 _ _) q622 h7 (zl rfl) dX10_become_64 (zW.eqg eg8 ?_)
  refine z_aload_n hX dX10_become_67 0 rfl ?_
  refine z_aload_n hX dX10_become_68 1 rfl ?_
  refine gf_World_promises hX hk1 q279 dX10_become_69 ?_
  replace hf := zput_some hf
  obtain ⟨g9, eg9, hf⟩ := hf
  refine gp_World_promises hX hkh q279 dX10_become_72 (zW.eqg eg9 ?_)
  refine z_aload_n hX dX10_become_75 0 rfl ?_
  refine z_aload_n hX dX10_become_76 1 rfl ?_
  refine gf_World_slip hX hk1 q282 dX10_become_77 ?_
  replace hf := zput_some hf
  obtain ⟨g10, eg10, hf⟩ := hf
  refine gp_World_slip hX hkh q282 dX10_become_80 (zW.eqg eg10 ?_)
  refine z_aload_n hX dX10_become_83 0 rfl ?_
  refine z_aload_n hX dX10_become_84 1 rfl ?_
  refine gf_World_texts hX hk1 q285 dX10_become_85 ?_
  replace hf := zput_some hf
  obtain ⟨g11, eg11, hf⟩ := hf
  refine gp_World_texts hX hkh q285 dX10_become_88 (zW.eqg eg11 ?_)
  obtain rfl := Option.some.inj hf
  exact z_vret hX hr (zl rfl) (zl rfl) dX10_become_91
set_option maxHeartbeats 4000000 in
set_option maxRecDepth 100000 in
theorem ct_X10_become {E : zE} {h : Nat} {r1 : Nat} (hkh : zK h = 9) (hk1 : zK r1 = 9) {g : zM} {r : zM} (hf : fX10_become h r1 g = some r) : zCt yX10_become cX10_become 2 none 7 0 E [.ref (E.1 + h), .ref (E.1 + r1)] g (.inl (none, r)) := by
  refine zmet (by decide) (zl rfl) (fun X hE hX hT hR hr hn => ?_)
  subst hE
  exact fX10_become_ok hX hT hR hr hn hkh hk1 hf
def fX9_sortOf (v0 : Int32) (g : zM) : Option Int32 := zjoin (if v0 < 48 then some 0 else if 57 < v0 then some 0 else some 2 : Option Int32) (fun k14 => if v0 < 97 then k14 else if 122 < v0 then k14 else some 1)
set_option maxHeartbeats 4000000 in
set_option maxRecDepth 100000 in
theorem fX9_sortOf_ok {X : zX} (hX : zCX X cX9_sortOf RX9) (hT : zNT X) (hR : X.2.2.2.1 = zrm 0 0) (hr : X.2.2.2.2.2.2.2.2.1.sig.returnType = (some .int)) (hn : X.2.2.2.2.2.2.2.2.2.1.maxLocals = 1) {v0 : Int32} {g : zM} {r : Int32} (hf : fX9_sortOf v0 g = some r) : zW X (zQ X (.inl (some (.int r), g)) 0) 0 0 0 [(0, .int v0)] [] g := by
  unfold fX9_sortOf at hf
  refine z_iload_n hX dX9_sortOf_0 0 rfl ?_
  refine z_bipush hX dX9_sortOf_1 cb_97 ?_
  refine zjoin_ok (P := fun (k : Option Int32) => k = some r → zW X (zQ X (.inl (some (.int r), g)) 0) 0 0 14 [(0, .int v0)] [] g) hf (fun hf => ?_) (fun k14 hk14 hf => ?_)
  · refine z_iload_n hX dX9_sortOf_14 0 rfl ?_
    refine z_bipush hX dX9_sortOf_15 cb_48 ?_
    refine z_icmp_lt hX 30 dX9_sortOf_17 (by decide) (fun h2 => ?_) (fun h2 => ?_)
    · replace hf := zif_pos h2 hf
      refine z_iconst hX dX9_sortOf_30 ci_0 ?_
      obtain rfl := Option.some.inj hf
      exact z_iret hX hr rfl (zl rfl) (zl rfl) dX9_sortOf_31
    · replace hf := zif_neg h2 hf
      refine z_iload_n hX dX9_sortOf_20 0 rfl ?_
      refine z_bipush hX dX9_sortOf_21 cb_57 ?_
      refine z_icmp_gt hX 30 dX9_sortOf_23 (by decide) (fun h3 => ?_) (fun h3 => ?_)
      · replace hf := zif_pos h3 hf
        refine z_iconst hX dX9_sortOf_30 ci_0 ?_
        obtain rfl := Option.some.inj hf
        exact z_iret hX hr rfl (zl rfl) (zl rfl) dX9_sortOf_31
      · replace hf := zif_neg h3 hf
        refine z_iconst hX dX9_sortOf_26 ci_2 ?_
        refine z_goto hX 31 dX9_sortOf_27 (by decide) ?_
        obtain rfl := Option.some.inj hf
        exact z_iret hX hr rfl (zl rfl) (zl rfl) dX9_sortOf_31
  · refine z_icmp_lt hX 14 dX9_sortOf_3 (by decide) (fun h4 => ?_) (fun h4 => ?_)
    · replace hf := zif_pos h4 hf
      exact hk14 hf
    · replace hf := zif_neg h4 hf
      refine z_iload_n hX dX9_sortOf_6 0 rfl ?_
      refine z_bipush hX dX9_sortOf_7 cb_122 ?_
      refine z_icmp_gt hX 14 dX9_sortOf_9 (by decide) (fun h5 => ?_) (fun h5 => ?_)
      · replace hf := zif_pos h5 hf
        exact hk14 hf
      · replace hf := zif_neg h5 hf
        refine z_iconst hX dX9_sortOf_12 ci_1 ?_
        obtain rfl := Option.some.inj hf
        exact z_iret hX hr rfl (zl rfl) (zl rfl) dX9_sortOf_13
set_option maxHeartbeats 4000000 in
set_option maxRecDepth 100000 in
theorem ct_X9_sortOf {E : zE} {v0 : Int32} {g : zM} {r : Int32} (hf : fX9_sortOf v0 g = some r) : zCt yX9_sortOf cX9_sortOf 1 (some .int) 0 0 E [.int v0] g (.inl (some (.int r), g)) := by
  refine zmet (by decide) (zl rfl) (fun X hE hX hT hR hr hn => ?_)
  subst hE
  exact fX9_sortOf_ok hX hT hR hr hn  hf
def fX9_endOf_L14 (h : Nat) (v2 : Int32) (g : zM) : Nat → Int32 → Option Int32
  | 0, _ => none
  | n + 1, v3 => if v2 = 0 then some v3 else if (g h 4) ≤ v3 then some v3 else zchk v3 400 (zb (fX9_sortOf (g (h + 1) v3.toNatClampNeg) g) (fun r_6 => if r_6 = v2 then fX9_endOf_L14 h v2 g n (v3 + 1) else some v3))
def fX9_endOf (h : Nat) (v1 : Int32) (g : zM) : Option Int32 := zchk v1 400 (zb (fX9_sortOf (g (h + 1) v1.toNatClampNeg) g) (fun r_2 => fX9_endOf_L14 h r_2 g zFU (v1 + 1)))
set_option maxHeartbeats 4000000 in
set_option maxRecDepth 100000 in
theorem fX9_endOf_L14_ok {X : zX} (hX : zCX X cX9_endOf RX9) (hT : zNT X) (hR : X.2.2.2.1 = zrm 1 0) (hr : X.2.2.2.2.2.2.2.2.1.sig.returnType = (some .int)) (hn : X.2.2.2.2.2.2.2.2.2.1.maxLocals = 4) {h : Nat} {v2 : Int32} (hkh : zK h = 8) {g : zM} {r : Int32}  : ∀ (n : Nat) (v3 : Int32), fX9_endOf_L14 h v2 g n v3 = some r → zW X (zQ X (.inl (some (.int r), g)) 0) 0 0 14 [(0, .ref (zB X + h)), (2, .int v2), (3, .int v3)] [] g := by
  intro n
  induction n with
  | zero => intro v3 hf; exact zno hf
  | succ n ih =>
    intro v3 hf
    rw [fX9_endOf_L14] at hf
    refine z_iload_n hX dX9_endOf_14 1 rfl ?_
    refine z_if_eq hX 45 dX9_endOf_15 (by decide) (fun h3 => ?_) (fun h3 => ?_)
    · replace hf := zif_pos h3 hf
      refine z_iload_n hX dX9_endOf_45 2 rfl ?_
      obtain rfl := Option.some.inj hf
      exact z_iret hX hr rfl (zl rfl) (zl rfl) dX9_endOf_46
    · replace hf := zif_neg h3 hf
      refine z_iload_n hX dX9_endOf_18 2 rfl ?_
      refine z_aload_n hX dX9_endOf_19 0 rfl ?_
      refine gf_Tokens_textSize hX hkh q343 dX9_endOf_20 ?_
      refine z_icmp_ge hX 45 dX9_endOf_23 (by decide) (fun h4 => ?_) (fun h4 => ?_)
      · replace hf := zif_pos h4 hf
        refine z_iload_n hX dX9_endOf_45 2 rfl ?_
        obtain rfl := Option.some.inj hf
        exact z_iret hX hr rfl (zl rfl) (zl rfl) dX9_endOf_46
      · replace hf := zif_neg h4 hf
        refine z_aload_n hX dX9_endOf_26 0 rfl ?_
        refine gf_Tokens_text hX hkh q339 dX9_endOf_27 ?_
        refine z_iload_n hX dX9_endOf_30 2 rfl ?_
        replace hf := zchk_some hf
        obtain ⟨h5, hf⟩ := hf
        refine z_iald hX (zk_Tokens_text hkh) (by decide) (zc_1400 _ _ _) h5 dX9_endOf_31 ?_
        replace hf := zb_some hf
        obtain ⟨r_6, h6, hf⟩ := hf
        refine z_callS1 hX ok_X9_sortOf rfl q669 q670 (zrm_ok hR (by decide)) (ct_X9_sortOf  h6) dX9_endOf_32 rfl rfl ?_
        refine z_iload_n hX dX9_endOf_35 1 rfl ?_
        refine z_icmp_ne hX 45 dX9_endOf_36 (by decide) (fun h7 => ?_) (fun h7 => ?_)
        · replace hf := zif_neg h7 hf
          refine z_iload_n hX dX9_endOf_45 2 rfl ?_
          obtain rfl := Option.some.inj hf
          exact z_iret hX hr rfl (zl rfl) (zl rfl) dX9_endOf_46
        · replace hf := zif_pos h7 hf
          refine z_iincc (lv' := [(3, .int (v3 + 1)), (0, .ref (zB X + h)), (2, .int v2)]) hX dX9_endOf_39 hn (by decide) 2 rfl ci_1 rfl ?_
          refine z_goto hX 14 dX9_endOf_42 (by decide) ?_
          refine zW.sub [1, 2, 0] rfl ?_
          exact ih (v3 + 1) hf
set_option maxHeartbeats 4000000 in
set_option maxRecDepth 100000 in
theorem fX9_endOf_ok {X : zX} (hX : zCX X cX9_endOf RX9) (hT : zNT X) (hR : X.2.2.2.1 = zrm 1 0) (hr : X.2.2.2.2.2.2.2.2.1.sig.returnType = (some .int)) (hn : X.2.2.2.2.2.2.2.2.2.1.maxLocals = 4) {h : Nat} {v1 : Int32} (hkh : zK h = 8) {g : zM} {r : Int32} (hf : fX9_endOf h v1 g = some r) : zW X (zQ X (.inl (some (.int r), g)) 0) 0 0 0 [(0, .ref (zB X + h)), (1, .int v1)] [] g := by
  unfold fX9_endOf at hf
  refine z_aload_n hX dX9_endOf_0 0 rfl ?_
  refine gf_Tokens_text hX hkh q339 dX9_endOf_1 ?_
  refine z_iload_n hX dX9_endOf_4 1 rfl ?_
  replace hf := zchk_some hf
  obtain ⟨h1, hf⟩ := hf
  refine z_iald hX (zk_Tokens_text hkh) (by decide) (zc_1400 _ _ _) h1 dX9_endOf_5 ?_
  replace hf := zb_some hf
  obtain ⟨r_2, h2, hf⟩ := hf
  refine z_callS1 hX ok_X9_sortOf rfl q669 q670 (zrm_ok hR (by decide)) (ct_X9_sortOf  h2) dX9_endOf_6 rfl rfl ?_
  refine z_istore_n (lv' := [(2, .int r_2), (0, .ref (zB X + h)), (1, .int v1)]) hX dX9_endOf_9 hn (by decide) rfl ?_
  refine z_iload_n hX dX9_endOf_10 2 rfl ?_
  refine z_iconst hX dX9_endOf_11 ci_1 ?_
  refine z_iadd hX dX9_endOf_12 ?_
  refine z_istore_n (lv' := [(3, .int (v1 + 1)), (2, .int r_2), (0, .ref (zB X + h)), (1, .int v1)]) hX dX9_endOf_13 hn (by decide) rfl ?_
  refine zW.sub [2, 1, 0] rfl ?_
  exact fX9_endOf_L14_ok hX hT hR hr hn hkh zFU (v1 + 1) hf
set_option maxHeartbeats 4000000 in
set_option maxRecDepth 100000 in
theorem ct_X9_endOf {E : zE} {h : Nat} {v1 : Int32} (hkh : zK h = 8) {g : zM} {r : Int32} (hf : fX9_endOf h v1 g = some r) : zCt yX9_endOf cX9_endOf 4 (some .int) 1 0 E [.ref (E.1 + h), .int v1] g (.inl (some (.int r), g)) := by
  refine zmet (by decide) (zl rfl) (fun X hE hX hT hR hr hn => ?_)
  subst hE
  exact fX9_endOf_ok hX hT hR hr hn hkh hf
def fX9_isKnown_L3 (h : Nat) (v1 : Int32) (v2 : Int32) (v3 : Int32) (g : zM) : Nat → Int32 → Option Int32
  | 0, _ => none
  | n + 1, v4 => if v3 ≤ v4 then some 1 else zb (fStr_length 0) (fun r_2 => if r_2 ≤ (v1 + v4) then some 1 else if (g h 4) ≤ (v2 + v4) then some 1 else zb (fStr_charAt 0 (v1 + v4)) (fun r_5 => zchk (v2 + v4) 400 (if r_5 = (g (h + 1) (v2 + v4).toNatClampNeg) then fX9_isKnown_L3 h v1 v2 v3 g n (v4 + 1) else some 0)))
def fX9_isKnown (h : Nat) (v1 : Int32) (v2 : Int32) (v3 : Int32) (g : zM) : Option Int32 := fX9_isKnown_L3 h v1 v2 v3 g zFU 0
set_option maxHeartbeats 4000000 in
set_option maxRecDepth 100000 in
theorem fX9_isKnown_L3_ok {X : zX} (hX : zCX X cX9_isKnown RX9) (hT : zNT X) (hR : X.2.2.2.1 = zrm 5 0) (hr : X.2.2.2.2.2.2.2.2.1.sig.returnType = (some .boolean)) (hn : X.2.2.2.2.2.2.2.2.2.1.maxLocals = 5) {h : Nat} {v1 : Int32} {v2 : Int32} {v3 : Int32} (hkh : zK h = 8) {g : zM} {r : Int32}  : ∀ (n : Nat) (v4 : Int32), fX9_isKnown_L3 h v1 v2 v3 g n v4 = some r → zW X (zQ X (.inl (some (.int r), g)) 0) 0 0 3 [(0, .ref (zB X + h)), (1, .int v1), (2, .int v2), (3, .int v3), (4, .int v4)] [] g := by
  intro n
  induction n with
  | zero => intro v4 hf; exact zno hf
  | succ n ih =>
    intro v4 hf
    rw [fX9_isKnown_L3] at hf
    refine z_iload hX dX9_isKnown_3 4 rfl ?_
    refine z_iload_n hX dX9_isKnown_5 3 rfl ?_
    refine z_icmp_ge hX 61 dX9_isKnown_6 (by decide) (fun h1 => ?_) (fun h1 => ?_)
    · replace hf := zif_pos h1 hf
      refine z_iconst hX dX9_isKnown_61 ci_1 ?_
      obtain rfl := Option.some.inj hf
      exact z_iret hX hr (zbn (Or.inr rfl)) (zl rfl) (zl rfl) dX9_isKnown_62
    · replace hf := zif_neg h1 hf
      refine z_iload_n hX dX9_isKnown_9 1 rfl ?_
      refine z_iload hX dX9_isKnown_10 4 rfl ?_
      refine z_iadd hX dX9_isKnown_12 ?_
      refine z_ldcs hX dX9_isKnown_13 (i := 0) rfl ?_
      replace hf := zb_some hf
      obtain ⟨r_2, h2, hf⟩ := hf
      refine z_callL1 hX ok_Str_length q685 q686 q687 rfl (zrm_ok hR (by decide)) (fStr_length_in h2) (ct_Str_length h2) dX9_isKnown_15 rfl rfl ?_
      refine z_icmp_ge hX 61 dX9_isKnown_18 (by decide) (fun h3 => ?_) (fun h3 => ?_)
      · replace hf := zif_pos h3 hf
        refine z_iconst hX dX9_isKnown_61 ci_1 ?_
        obtain rfl := Option.some.inj hf
        exact z_iret hX hr (zbn (Or.inr rfl)) (zl rfl) (zl rfl) dX9_isKnown_62
      · replace hf := zif_neg h3 hf
        refine z_iload_n hX dX9_isKnown_21 2 rfl ?_
        refine z_iload hX dX9_isKnown_22 4 rfl ?_
        refine z_iadd hX dX9_isKnown_24 ?_
        refine z_aload_n hX dX9_isKnown_25 0 rfl ?_
        refine gf_Tokens_textSize hX hkh q343 dX9_isKnown_26 ?_
        refine z_icmp_ge hX 61 dX9_isKnown_29 (by decide) (fun h4 => ?_) (fun h4 => ?_)
        · replace hf := zif_pos h4 hf
          refine z_iconst hX dX9_isKnown_61 ci_1 ?_
          obtain rfl := Option.some.inj hf
          exact z_iret hX hr (zbn (Or.inr rfl)) (zl rfl) (zl rfl) dX9_isKnown_62
        · replace hf := zif_neg h4 hf
          refine z_ldcs hX dX9_isKnown_32 (i := 0) rfl ?_
          refine z_iload_n hX dX9_isKnown_34 1 rfl ?_
          refine z_iload hX dX9_isKnown_35 4 rfl ?_
          refine z_iadd hX dX9_isKnown_37 ?_
          replace hf := zb_some hf
          obtain ⟨r_5, h5, hf⟩ := hf
          refine z_callL1 hX ok_Str_charAt q695 q696 q697 rfl (zrm_ok hR (by decide)) (fStr_charAt_in h5) (ct_Str_charAt h5) dX9_isKnown_38 rfl rfl ?_
          refine z_aload_n hX dX9_isKnown_41 0 rfl ?_
          refine gf_Tokens_text hX hkh q339 dX9_isKnown_42 ?_
          refine z_iload_n hX dX9_isKnown_45 2 rfl ?_
          refine z_iload hX dX9_isKnown_46 4 rfl ?_
          refine z_iadd hX dX9_isKnown_48 ?_
          replace hf := zchk_some hf
          obtain ⟨h6, hf⟩ := hf
          refine z_iald hX (zk_Tokens_text hkh) (by decide) (zc_1400 _ _ _) h6 dX9_isKnown_49 ?_
          refine z_icmp_eq hX 55 dX9_isKnown_50 (by decide) (fun h7 => ?_) (fun h7 => ?_)
          · replace hf := zif_pos h7 hf
            refine z_iincc (lv' := [(4, .int (v4 + 1)), (0, .ref (zB X + h)), (1, .int v1), (2, .int v2), (3, .int v3)]) hX dX9_isKnown_55 hn (by decide) 4 rfl ci_1 rfl ?_
            refine z_goto hX 3 dX9_isKnown_58 (by decide) ?_
            refine zW.sub [1, 2, 3, 4, 0] rfl ?_
            exact ih (v4 + 1) hf
          · replace hf := zif_neg h7 hf
            refine z_iconst hX dX9_isKnown_53 ci_0 ?_
            obtain rfl := Option.some.inj hf
            exact z_iret hX hr (zbn (Or.inl rfl)) (zl rfl) (zl rfl) dX9_isKnown_54
set_option maxHeartbeats 4000000 in
set_option maxRecDepth 100000 in
theorem fX9_isKnown_ok {X : zX} (hX : zCX X cX9_isKnown RX9) (hT : zNT X) (hR : X.2.2.2.1 = zrm 5 0) (hr : X.2.2.2.2.2.2.2.2.1.sig.returnType = (some .boolean)) (hn : X.2.2.2.2.2.2.2.2.2.1.maxLocals = 5) {h : Nat} {v1 : Int32} {v2 : Int32} {v3 : Int32} (hkh : zK h = 8) {g : zM} {r : Int32} (hf : fX9_isKnown h v1 v2 v3 g = some r) : zW X (zQ X (.inl (some (.int r), g)) 0) 0 0 0 [(0, .ref (zB X + h)), (1, .int v1), (2, .int v2), (3, .int v3)] [] g := by
  unfold fX9_isKnown at hf
  refine z_iconst hX dX9_isKnown_0 ci_0 ?_
  refine z_istore (lv' := [(4, .int 0), (0, .ref (zB X + h)), (1, .int v1), (2, .int v2), (3, .int v3)]) hX dX9_isKnown_1 hn (by decide) rfl ?_
  refine zW.sub [1, 2, 3, 4, 0] rfl ?_
  exact fX9_isKnown_L3_ok hX hT hR hr hn hkh zFU 0 hf
set_option maxHeartbeats 4000000 in
set_option maxRecDepth 100000 in
theorem ct_X9_isKnown {E : zE} {h : Nat} {v1 : Int32} {v2 : Int32} {v3 : Int32} (hkh : zK h = 8) {g : zM} {r : Int32} (hf : fX9_isKnown h v1 v2 v3 g = some r) : zCt yX9_isKnown cX9_isKnown 5 (some .boolean) 5 0 E [.ref (E.1 + h), .int v1, .int v2, .int v3] g (.inl (some (.int r), g)) := by
  refine zmet (by decide) (zl rfl) (fun X hE hX hT hR hr hn => ?_)
  subst hE
  exact fX9_isKnown_ok hX hT hR hr hn hkh hf
def fX9_wordCode_L10 (h : Nat) (v1 : Int32) (v2 : Int32) (g : zM) : Nat → Int32 → Int32 → Int32 → Option Int32
  | 0, _, _, _ => none
  | n + 1, v3, v4, v5 => zb (fStr_length 0) (fun r_1 => if r_1 < v5 then some 1019 else zb (fStr_length 0) (fun r_3 => zjoin (if (v5 - v4) = v2 then zb (fX9_isKnown h v4 v1 v2 g) (fun r_6 => if r_6 = 0 then fX9_wordCode_L10 h v1 v2 g n (v3 + 1) (v5 + 1) (v5 + 1) else some v3) else fX9_wordCode_L10 h v1 v2 g n (v3 + 1) (v5 + 1) (v5 + 1) : Option Int32) (fun k42 => if v5 = r_3 then k42 else zb (fStr_charAt 0 v5) (fun r_9 => if r_9 = 32 then k42 else fX9_wordCode_L10 h v1 v2 g n v3 v4 (v5 + 1)))))
def fX9_wordCode (h : Nat) (v1 : Int32) (v2 : Int32) (g : zM) : Option Int32 := fX9_wordCode_L10 h v1 v2 g zFU 1000 0 0
set_option maxHeartbeats 4000000 in
set_option maxRecDepth 100000 in
theorem fX9_wordCode_L10_ok {X : zX} (hX : zCX X cX9_wordCode RX9) (hT : zNT X) (hR : X.2.2.2.1 = zrm 6 0) (hr : X.2.2.2.2.2.2.2.2.1.sig.returnType = (some .int)) (hn : X.2.2.2.2.2.2.2.2.2.1.maxLocals = 6) {h : Nat} {v1 : Int32} {v2 : Int32} (hkh : zK h = 8) {g : zM} {r : Int32}  : ∀ (n : Nat) (v3 : Int32) (v4 : Int32) (v5 : Int32), fX9_wordCode_L10 h v1 v2 g n v3 v4 v5 = some r → zW X (zQ X (.inl (some (.int r), g)) 0) 0 0 10 [(0, .ref (zB X + h)), (1, .int v1), (2, .int v2), (3, .int v3), (4, .int v4), (5, .int v5)] [] g := by
  intro n
  induction n with
  | zero => intro v3 v4 v5 hf; exact zno hf
  | succ n ih =>
    intro v3 v4 v5 hf
    rw [fX9_wordCode_L10] at hf
    refine z_iload hX dX9_wordCode_10 5 rfl ?_
    refine z_ldcs hX dX9_wordCode_12 (i := 0) rfl ?_
    replace hf := zb_some hf
    obtain ⟨r_1, h1, hf⟩ := hf
    refine z_callL1 hX ok_Str_length q685 q686 q687 rfl (zrm_ok hR (by decide)) (fStr_length_in h1) (ct_Str_length h1) dX9_wordCode_14 rfl rfl ?_
    refine z_icmp_gt hX 79 dX9_wordCode_17 (by decide) (fun h2 => ?_) (fun h2 => ?_)
    · replace hf := zif_pos h2 hf
      refine z_sipush hX dX9_wordCode_79 cs_1019 ?_
      obtain rfl := Option.some.inj hf
      exact z_iret hX hr rfl (zl rfl) (zl rfl) dX9_wordCode_82
    · replace hf := zif_neg h2 hf
      refine z_iload hX dX9_wordCode_20 5 rfl ?_
      refine z_ldcs hX dX9_wordCode_22 (i := 0) rfl ?_
      replace hf := zb_some hf
      obtain ⟨r_3, h3, hf⟩ := hf
      refine z_callL1 hX ok_Str_length q685 q686 q687 rfl (zrm_ok hR (by decide)) (fStr_length_in h3) (ct_Str_length h3) dX9_wordCode_24 rfl rfl ?_
      refine zjoin_ok (P := fun (k : Option Int32) => k = some r → zW X (zQ X (.inl (some (.int r), g)) 0) 0 0 42 [(0, .ref (zB X + h)), (1, .int v1), (2, .int v2), (3, .int v3), (4, .int v4), (5, .int v5)] [] g) hf (fun hf => ?_) (fun k42 hk42 hf => ?_)
      · refine z_iload hX dX9_wordCode_42 5 rfl ?_
        refine z_iload hX dX9_wordCode_44 4 rfl ?_
        refine z_isub hX dX9_wordCode_46 ?_
        refine z_iload_n hX dX9_wordCode_47 2 rfl ?_
        refine z_icmp_ne hX 64 dX9_wordCode_48 (by decide) (fun h5 => ?_) (fun h5 => ?_)
        · replace hf := zif_neg h5 hf
          refine z_iload hX dX9_wordCode_64 5 rfl ?_
          refine z_iconst hX dX9_wordCode_66 ci_1 ?_
          refine z_iadd hX dX9_wordCode_67 ?_
          refine z_istore (lv' := [(4, .int (v5 + 1)), (0, .ref (zB X + h)), (1, .int v1), (2, .int v2), (3, .int v3), (5, .int v5)]) hX dX9_wordCode_68 hn (by decide) rfl ?_
          refine z_iincc (lv' := [(3, .int (v3 + 1)), (4, .int (v5 + 1)), (0, .ref (zB X + h)), (1, .int v1), (2, .int v2), (5, .int v5)]) hX dX9_wordCode_70 hn (by decide) 4 rfl ci_1 rfl ?_
          refine z_iincc (lv' := [(5, .int (v5 + 1)), (3, .int (v3 + 1)), (4, .int (v5 + 1)), (0, .ref (zB X + h)), (1, .int v1), (2, .int v2)]) hX dX9_wordCode_73 hn (by decide) 5 rfl ci_1 rfl ?_
          refine z_goto hX 10 dX9_wordCode_76 (by decide) ?_
          refine zW.sub [3, 4, 5, 1, 2, 0] rfl ?_
          exact ih (v3 + 1) (v5 + 1) (v5 + 1) hf
        · replace hf := zif_pos h5 hf
          refine z_aload_n hX dX9_wordCode_51 0 rfl ?_
          refine z_iload hX dX9_wordCode_52 4 rfl ?_
          refine z_iload_n hX dX9_wordCode_54 1 rfl ?_
          refine z_iload_n hX dX9_wordCode_55 2 rfl ?_
          replace hf := zb_some hf
          obtain ⟨r_6, h6, hf⟩ := hf
          refine z_callV1 hX ok_X9_isKnown q733 q735 q10 (zrm_ok hR (by decide)) (ct_X9_isKnown hkh h6) (zrec_Tokens hX hkh) dX9_wordCode_56 rfl rfl ?_
          refine z_if_eq hX 64 dX9_wordCode_59 (by decide) (fun h7 => ?_) (fun h7 => ?_)
          · replace hf := zif_pos h7 hf
            refine z_iload hX dX9_wordCode_64 5 rfl ?_
            refine z_iconst hX dX9_wordCode_66 ci_1 ?_
            refine z_iadd hX dX9_wordCode_67 ?_
            refine z_istore (lv' := [(4, .int (v5 + 1)), (0, .ref (zB X + h)), (1, .int v1), (2, .int v2), (3, .int v3), (5, .int v5)]) hX dX9_wordCode_68 hn (by decide) rfl ?_
            refine z_iincc (lv' := [(3, .int (v3 + 1)), (4, .int (v5 + 1)), (0, .ref (zB X + h)), (1, .int v1), (2, .int v2), (5, .int v5)]) hX dX9_wordCode_70 hn (by decide) 4 rfl ci_1 rfl ?_
            refine z_iincc (lv' := [(5, .int (v5 + 1)), (3, .int (v3 + 1)), (4, .int (v5 + 1)), (0, .ref (zB X + h)), (1, .int v1), (2, .int v2)]) hX dX9_wordCode_73 hn (by decide) 5 rfl ci_1 rfl ?_
            refine z_goto hX 10 dX9_wordCode_76 (by decide) ?_
            refine zW.sub [3, 4, 5, 1, 2, 0] rfl ?_
            exact ih (v3 + 1) (v5 + 1) (v5 + 1) hf
          · replace hf := zif_neg h7 hf
            refine z_iload_n hX dX9_wordCode_62 3 rfl ?_
            obtain rfl := Option.some.inj hf
            exact z_iret hX hr rfl (zl rfl) (zl rfl) dX9_wordCode_63
      · refine z_icmp_eq hX 42 dX9_wordCode_27 (by decide) (fun h8 => ?_) (fun h8 => ?_)
        · replace hf := zif_pos h8 hf
          exact hk42 hf
        · replace hf := zif_neg h8 hf
          refine z_ldcs hX dX9_wordCode_30 (i := 0) rfl ?_
          refine z_iload hX dX9_wordCode_32 5 rfl ?_
          replace hf := zb_some hf
          obtain ⟨r_9, h9, hf⟩ := hf
          refine z_callL1 hX ok_Str_charAt q695 q696 q697 rfl (zrm_ok hR (by decide)) (fStr_charAt_in h9) (ct_Str_charAt h9) dX9_wordCode_34 rfl rfl ?_
          refine z_bipush hX dX9_wordCode_37 cb_32 ?_
          refine z_icmp_ne hX 73 dX9_wordCode_39 (by decide) (fun h10 => ?_) (fun h10 => ?_)
          · replace hf := zif_neg h10 hf
            refine z_iincc (lv' := [(5, .int (v5 + 1)), (0, .ref (zB X + h)), (1, .int v1), (2, .int v2), (3, .int v3), (4, .int v4)]) hX dX9_wordCode_73 hn (by decide) 5 rfl ci_1 rfl ?_
            refine z_goto hX 10 dX9_wordCode_76 (by decide) ?_
            refine zW.sub [1, 2, 3, 4, 5, 0] rfl ?_
            exact ih v3 v4 (v5 + 1) hf
          · replace hf := zif_pos h10 hf
            exact hk42 hf
set_option maxHeartbeats 4000000 in
set_option maxRecDepth 100000 in
theorem fX9_wordCode_ok {X : zX} (hX : zCX X cX9_wordCode RX9) (hT : zNT X) (hR : X.2.2.2.1 = zrm 6 0) (hr : X.2.2.2.2.2.2.2.2.1.sig.returnType = (some .int)) (hn : X.2.2.2.2.2.2.2.2.2.1.maxLocals = 6) {h : Nat} {v1 : Int32} {v2 : Int32} (hkh : zK h = 8) {g : zM} {r : Int32} (hf : fX9_wordCode h v1 v2 g = some r) : zW X (zQ X (.inl (some (.int r), g)) 0) 0 0 0 [(0, .ref (zB X + h)), (1, .int v1), (2, .int v2)] [] g := by
  unfold fX9_wordCode at hf
  refine z_sipush hX dX9_wordCode_0 cs_1000 ?_
  refine z_istore_n (lv' := [(3, .int 1000), (0, .ref (zB X + h)), (1, .int v1), (2, .int v2)]) hX dX9_wordCode_3 hn (by decide) rfl ?_
  refine z_iconst hX dX9_wordCode_4 ci_0 ?_
  refine z_istore (lv' := [(4, .int 0), (3, .int 1000), (0, .ref (zB X + h)), (1, .int v1), (2, .int v2)]) hX dX9_wordCode_5 hn (by decide) rfl ?_
  refine z_iconst hX dX9_wordCode_7 ci_0 ?_
  refine z_istore (lv' := [(5, .int 0), (4, .int 0), (3, .int 1000), (0, .ref (zB X + h)), (1, .int v1), (2, .int v2)]) hX dX9_wordCode_8 hn (by decide) rfl ?_
  refine zW.sub [3, 4, 5, 2, 1, 0] rfl ?_
  exact fX9_wordCode_L10_ok hX hT hR hr hn hkh zFU 1000 0 0 hf
set_option maxHeartbeats 4000000 in
set_option maxRecDepth 100000 in
theorem ct_X9_wordCode {E : zE} {h : Nat} {v1 : Int32} {v2 : Int32} (hkh : zK h = 8) {g : zM} {r : Int32} (hf : fX9_wordCode h v1 v2 g = some r) : zCt yX9_wordCode cX9_wordCode 6 (some .int) 6 0 E [.ref (E.1 + h), .int v1, .int v2] g (.inl (some (.int r), g)) := by
  refine zmet (by decide) (zl rfl) (fun X hE hX hT hR hr hn => ?_)
  subst hE
  exact fX9_wordCode_ok hX hT hR hr hn hkh hf
def fX9_numberCode_L14 (h : Nat) (v1 : Int32) (v2 : Int32) (g : zM) : Nat → Int32 → Int32 → Option Int32
  | 0, _, _ => none
  | n + 1, v3, v4 => if (v1 + v2) ≤ v4 then some v3 else if (g h 4) ≤ v4 then some v3 else zchk v4 400 (fX9_numberCode_L14 h v1 v2 g n (((10 * v3) + (g (h + 1) v4.toNatClampNeg)) - 48) (v4 + 1))
def fX9_numberCode (h : Nat) (v1 : Int32) (v2 : Int32) (g : zM) : Option Int32 := if v2 ≤ 3 then fX9_numberCode_L14 h v1 v2 g zFU 0 v1 else some 1020
set_option maxHeartbeats 4000000 in
set_option maxRecDepth 100000 in
theorem fX9_numberCode_L14_ok {X : zX} (hX : zCX X cX9_numberCode RX9) (hT : zNT X) (hR : X.2.2.2.1 = zrm 0 0) (hr : X.2.2.2.2.2.2.2.2.1.sig.returnType = (some .int)) (hn : X.2.2.2.2.2.2.2.2.2.1.maxLocals = 5) {h : Nat} {v1 : Int32} {v2 : Int32} (hkh : zK h = 8) {g : zM} {r : Int32}  : ∀ (n : Nat) (v3 : Int32) (v4 : Int32), fX9_numberCode_L14 h v1 v2 g n v3 v4 = some r → zW X (zQ X (.inl (some (.int r), g)) 0) 0 0 14 [(0, .ref (zB X + h)), (1, .int v1), (2, .int v2), (3, .int v3), (4, .int v4)] [] g := by
  intro n
  induction n with
  | zero => intro v3 v4 hf; exact zno hf
  | succ n ih =>
    intro v3 v4 hf
    rw [fX9_numberCode_L14] at hf
    refine z_iload hX dX9_numberCode_14 4 rfl ?_
    refine z_iload_n hX dX9_numberCode_16 1 rfl ?_
    refine z_iload_n hX dX9_numberCode_17 2 rfl ?_
    refine z_iadd hX dX9_numberCode_18 ?_
    refine z_icmp_ge hX 53 dX9_numberCode_19 (by decide) (fun h2 => ?_) (fun h2 => ?_)
    · replace hf := zif_pos h2 hf
      refine z_iload_n hX dX9_numberCode_53 3 rfl ?_
      obtain rfl := Option.some.inj hf
      exact z_iret hX hr rfl (zl rfl) (zl rfl) dX9_numberCode_54
    · replace hf := zif_neg h2 hf
      refine z_iload hX dX9_numberCode_22 4 rfl ?_
      refine z_aload_n hX dX9_numberCode_24 0 rfl ?_
      refine gf_Tokens_textSize hX hkh q343 dX9_numberCode_25 ?_
      refine z_icmp_ge hX 53 dX9_numberCode_28 (by decide) (fun h3 => ?_) (fun h3 => ?_)
      · replace hf := zif_pos h3 hf
        refine z_iload_n hX dX9_numberCode_53 3 rfl ?_
        obtain rfl := Option.some.inj hf
        exact z_iret hX hr rfl (zl rfl) (zl rfl) dX9_numberCode_54
      · replace hf := zif_neg h3 hf
        refine z_bipush hX dX9_numberCode_31 cb_10 ?_
        refine z_iload_n hX dX9_numberCode_33 3 rfl ?_
        refine z_imul hX dX9_numberCode_34 ?_
        refine z_aload_n hX dX9_numberCode_35 0 rfl ?_
        refine gf_Tokens_text hX hkh q339 dX9_numberCode_36 ?_
        refine z_iload hX dX9_numberCode_39 4 rfl ?_
        replace hf := zchk_some hf
        obtain ⟨h4, hf⟩ := hf
        refine z_iald hX (zk_Tokens_text hkh) (by decide) (zc_1400 _ _ _) h4 dX9_numberCode_41 ?_
        refine z_iadd hX dX9_numberCode_42 ?_
        refine z_bipush hX dX9_numberCode_43 cb_48 ?_
        refine z_isub hX dX9_numberCode_45 ?_
        refine z_istore_n (lv' := [(3, .int (((10 * v3) + (g (h + 1) v4.toNatClampNeg)) - 48)), (0, .ref (zB X + h)), (1, .int v1), (2, .int v2), (4, .int v4)]) hX dX9_numberCode_46 hn (by decide) rfl ?_
        refine z_iincc (lv' := [(4, .int (v4 + 1)), (3, .int (((10 * v3) + (g (h + 1) v4.toNatClampNeg)) - 48)), (0, .ref (zB X + h)), (1, .int v1), (2, .int v2)]) hX dX9_numberCode_47 hn (by decide) 4 rfl ci_1 rfl ?_
        refine z_goto hX 14 dX9_numberCode_50 (by decide) ?_
        refine zW.sub [2, 3, 4, 1, 0] rfl ?_
        exact ih (((10 * v3) + (g (h + 1) v4.toNatClampNeg)) - 48) (v4 + 1) hf
set_option maxHeartbeats 4000000 in
set_option maxRecDepth 100000 in
theorem fX9_numberCode_ok {X : zX} (hX : zCX X cX9_numberCode RX9) (hT : zNT X) (hR : X.2.2.2.1 = zrm 0 0) (hr : X.2.2.2.2.2.2.2.2.1.sig.returnType = (some .int)) (hn : X.2.2.2.2.2.2.2.2.2.1.maxLocals = 5) {h : Nat} {v1 : Int32} {v2 : Int32} (hkh : zK h = 8) {g : zM} {r : Int32} (hf : fX9_numberCode h v1 v2 g = some r) : zW X (zQ X (.inl (some (.int r), g)) 0) 0 0 0 [(0, .ref (zB X + h)), (1, .int v1), (2, .int v2)] [] g := by
  unfold fX9_numberCode at hf
  refine z_iload_n hX dX9_numberCode_0 2 rfl ?_
  refine z_iconst hX dX9_numberCode_1 ci_3 ?_
  refine z_icmp_le hX 9 dX9_numberCode_2 (by decide) (fun h1 => ?_) (fun h1 => ?_)
  · replace hf := zif_pos h1 hf
    refine z_iconst hX dX9_numberCode_9 ci_0 ?_
    refine z_istore_n (lv' := [(3, .int 0), (0, .ref (zB X + h)), (1, .int v1), (2, .int v2)]) hX dX9_numberCode_10 hn (by decide) rfl ?_
    refine z_iload_n hX dX9_numberCode_11 2 rfl ?_
    refine z_istore (lv' := [(4, .int v1), (3, .int 0), (0, .ref (zB X + h)), (1, .int v1), (2, .int v2)]) hX dX9_numberCode_12 hn (by decide) rfl ?_
    refine zW.sub [2, 3, 4, 1, 0] rfl ?_
    exact fX9_numberCode_L14_ok hX hT hR hr hn hkh zFU 0 v1 hf
  · replace hf := zif_neg h1 hf
    refine z_sipush hX dX9_numberCode_5 cs_1020 ?_
    obtain rfl := Option.some.inj hf
    exact z_iret hX hr rfl (zl rfl) (zl rfl) dX9_numberCode_8
set_option maxHeartbeats 4000000 in
set_option maxRecDepth 100000 in
theorem ct_X9_numberCode {E : zE} {h : Nat} {v1 : Int32} {v2 : Int32} (hkh : zK h = 8) {g : zM} {r : Int32} (hf : fX9_numberCode h v1 v2 g = some r) : zCt yX9_numberCode cX9_numberCode 5 (some .int) 0 0 E [.ref (E.1 + h), .int v1, .int v2] g (.inl (some (.int r), g)) := by
  refine zmet (by decide) (zl rfl) (fun X hE hX hT hR hr hn => ?_)
  subst hE
  exact fX9_numberCode_ok hX hT hR hr hn hkh hf
def fX9_codeOf (h : Nat) (v1 : Int32) (v2 : Int32) (g : zM) : Option Int32 := zchk v1 400 (zb (fX9_sortOf (g (h + 1) v1.toNatClampNeg) g) (fun r_2 => if r_2 = 0 then zchk v1 400 (some (1100 + (g (h + 1) v1.toNatClampNeg))) else if r_2 = 1 then zb (fX9_wordCode h v1 v2 g) (fun r_6 => some r_6) else zb (fX9_numberCode h v1 v2 g) (fun r_5 => some r_5)))
set_option maxHeartbeats 4000000 in
set_option maxRecDepth 100000 in
theorem fX9_codeOf_ok {X : zX} (hX : zCX X cX9_codeOf RX9) (hT : zNT X) (hR : X.2.2.2.1 = zrm 7 0) (hr : X.2.2.2.2.2.2.2.2.1.sig.returnType = (some .int)) (hn : X.2.2.2.2.2.2.2.2.2.1.maxLocals = 4) {h : Nat} {v1 : Int32} {v2 : Int32} (hkh : zK h = 8) {g : zM} {r : Int32} (hf : fX9_codeOf h v1 v2 g = some r) : zW X (zQ X (.inl (some (.int r), g)) 0) 0 0 0 [(0, .ref (zB X + h)), (1, .int v1), (2, .int v2)] [] g := by
  unfold fX9_codeOf at hf
  refine z_aload_n hX dX9_codeOf_0 0 rfl ?_
  refine gf_Tokens_text hX hkh q339 dX9_codeOf_1 ?_
  refine z_iload_n hX dX9_codeOf_4 1 rfl ?_
  replace hf := zchk_some hf
  obtain ⟨h1, hf⟩ := hf
  refine z_iald hX (zk_Tokens_text hkh) (by decide) (zc_1400 _ _ _) h1 dX9_codeOf_5 ?_
  replace hf := zb_some hf
  obtain ⟨r_2, h2, hf⟩ := hf
  refine z_callS1 hX ok_X9_sortOf rfl q669 q670 (zrm_ok hR (by decide)) (ct_X9_sortOf  h2) dX9_codeOf_6 rfl rfl ?_
  refine z_istore_n (lv' := [(3, .int r_2), (0, .ref (zB X + h)), (1, .int v1), (2, .int v2)]) hX dX9_codeOf_9 hn (by decide) rfl ?_
  refine z_iload_n hX dX9_codeOf_10 0 rfl ?_
  refine z_if_ne hX 25 dX9_codeOf_11 (by decide) (fun h3 => ?_) (fun h3 => ?_)
  · replace hf := zif_neg h3 hf
    refine z_iload_n hX dX9_codeOf_25 0 rfl ?_
    refine z_iconst hX dX9_codeOf_26 ci_1 ?_
    refine z_icmp_ne hX 39 dX9_codeOf_27 (by decide) (fun h4 => ?_) (fun h4 => ?_)
    · replace hf := zif_neg h4 hf
      refine z_aload_n hX dX9_codeOf_39 1 rfl ?_
      refine z_iload_n hX dX9_codeOf_40 2 rfl ?_
      refine z_iload_n hX dX9_codeOf_41 3 rfl ?_
      replace hf := zb_some hf
      obtain ⟨r_5, h5, hf⟩ := hf
      refine z_callV1 hX ok_X9_numberCode q737 q739 q11 (zrm_ok hR (by decide)) (ct_X9_numberCode hkh h5) (zrec_Tokens hX hkh) dX9_codeOf_42 rfl rfl ?_
      obtain rfl := Option.some.inj hf
      exact z_iret hX hr rfl (zl rfl) (zl rfl) dX9_codeOf_45
    · replace hf := zif_pos h4 hf
      refine z_aload_n hX dX9_codeOf_30 1 rfl ?_
      refine z_iload_n hX dX9_codeOf_31 2 rfl ?_
      refine z_iload_n hX dX9_codeOf_32 3 rfl ?_
      replace hf := zb_some hf
      obtain ⟨r_6, h6, hf⟩ := hf
      refine z_callV1 hX ok_X9_wordCode q680 q682 q9 (zrm_ok hR (by decide)) (ct_X9_wordCode hkh h6) (zrec_Tokens hX hkh) dX9_codeOf_33 rfl rfl ?_
      refine z_goto hX 45 dX9_codeOf_36 (by decide) ?_
      obtain rfl := Option.some.inj hf
      exact z_iret hX hr rfl (zl rfl) (zl rfl) dX9_codeOf_45
  · replace hf := zif_pos h3 hf
    refine z_sipush hX dX9_codeOf_14 cs_1100 ?_
    refine z_aload_n hX dX9_codeOf_17 1 rfl ?_
    refine gf_Tokens_text hX hkh q339 dX9_codeOf_18 ?_
    refine z_iload_n hX dX9_codeOf_21 2 rfl ?_
    replace hf := zchk_some hf
    obtain ⟨h7, hf⟩ := hf
    refine z_iald hX (zk_Tokens_text hkh) (by decide) (zc_1400 _ _ _) h7 dX9_codeOf_22 ?_
    refine z_iadd hX dX9_codeOf_23 ?_
    obtain rfl := Option.some.inj hf
    exact z_iret hX hr rfl (zl rfl) (zl rfl) dX9_codeOf_24
set_option maxHeartbeats 4000000 in
set_option maxRecDepth 100000 in
theorem ct_X9_codeOf {E : zE} {h : Nat} {v1 : Int32} {v2 : Int32} (hkh : zK h = 8) {g : zM} {r : Int32} (hf : fX9_codeOf h v1 v2 g = some r) : zCt yX9_codeOf cX9_codeOf 4 (some .int) 7 0 E [.ref (E.1 + h), .int v1, .int v2] g (.inl (some (.int r), g)) := by
  refine zmet (by decide) (zl rfl) (fun X hE hX hT hR hr hn => ?_)
  subst hE
  exact fX9_codeOf_ok hX hT hR hr hn hkh hf
def fX9_addToken (h : Nat) (v1 : Int32) (v2 : Int32) (g : zM) : Option zM := if 400 ≤ (g h 5) then some g else zb (fX9_codeOf h v1 v2 g) (fun r_2 => zchk (g h 5) 401 (zput g (h + 2) (g h 5).toNatClampNeg r_2 (fun g4 => zchk (g4 h 5) 401 (zput g4 (h + 3) (g4 h 5).toNatClampNeg v1 (fun g6 => zchk (g6 h 5) 401 (zput g6 (h + 4) (g6 h 5).toNatClampNeg v2 (fun g8 => zput g8 h 5 ((g8 h 5) + 1) (fun g9 => some g9))))))))
set_option maxHeartbeats 4000000 in
set_option maxRecDepth 100000 in
theorem fX9_addToken_ok {X : zX} (hX : zCX X cX9_addToken RX9) (hT : zNT X) (hR : X.2.2.2.1 = zrm 8 0) (hr : X.2.2.2.2.2.2.2.2.1.sig.returnType = none) (hn : X.2.2.2.2.2.2.2.2.2.1.maxLocals = 3) {h : Nat} {v1 : Int32} {v2 : Int32} (hkh : zK h = 8) {g : zM} {r : zM} (hf : fX9_addToken h v1 v2 g = some r) : zW X (zQ X (.inl (none, r)) 0) 0 0 0 [(0, .ref (zB X + h)), (1, .int v1), (2, .int v2)] [] g := by
  unfold fX9_addToken at hf
  refine z_aload_n hX dX9_addToken_0 0 rfl ?_
  refine gf_Tokens_size hX hkh q344 dX9_addToken_1 ?_
  refine z_sipush hX dX9_addToken_4 cs_400 ?_
  refine z_icmp_ge hX 55 dX9_addToken_7 (by decide) (fun h1 => ?_) (fun h1 => ?_)
  · replace hf := zif_pos h1 hf
    obtain rfl := Option.some.inj hf
    exact z_vret hX hr (zl rfl) (zl rfl) dX9_addToken_55
  · replace hf := zif_neg h1 hf
    refine z_aload_n hX dX9_addToken_10 0 rfl ?_
    refine gf_Tokens_codes hX hkh q340 dX9_addToken_11 ?_
    refine z_aload_n hX dX9_addToken_14 0 rfl ?_
    refine gf_Tokens_size hX hkh q344 dX9_addToken_15 ?_
    refine z_aload_n hX dX9_addToken_18 0 rfl ?_
    refine z_iload_n hX dX9_addToken_19 1 rfl ?_
    refine z_iload_n hX dX9_addToken_20 2 rfl ?_
    replace hf := zb_some hf
    obtain ⟨r_2, h2, hf⟩ := hf
    refine z_callV1 hX ok_X9_codeOf q676 q678 q8 (zrm_ok hR (by decide)) (ct_X9_codeOf hkh h2) (zrec_Tokens hX hkh) dX9_addToken_21 rfl rfl ?_
    replace hf := zchk_some hf
    obtain ⟨h3, hf⟩ := hf
    replace hf := zput_some hf
    obtain ⟨g4, eg4, hf⟩ := hf
    refine z_iast hX (zk_Tokens_codes hkh) (by decide) (zc_1401 _ _) h3 dX9_addToken_24 (zW.eqg eg4 ?_)
    refine z_aload_n hX dX9_addToken_25 0 rfl ?_
    refine gf_Tokens_begins hX hkh q341 dX9_addToken_26 ?_
    refine z_aload_n hX dX9_addToken_29 0 rfl ?_
    refine gf_Tokens_size hX hkh q344 dX9_addToken_30 ?_
    refine z_iload_n hX dX9_addToken_33 1 rfl ?_
    replace hf := zchk_some hf
    obtain ⟨h5, hf⟩ := hf
    replace hf := zput_some hf
    obtain ⟨g6, eg6, hf⟩ := hf
    refine z_iast hX (zk_Tokens_begins hkh) (by decide) (zc_1401 _ _) h5 dX9_addToken_34 (zW.eqg eg6 ?_)
    refine z_aload_n hX dX9_addToken_35 0 rfl ?_
    refine gf_Tokens_lengths hX hkh q342 dX9_addToken_36 ?_
    refine z_aload_n hX dX9_addToken_39 0 rfl ?_
    refine gf_Tokens_size hX hkh q344 dX9_addToken_40 ?_
    refine z_iload_n hX dX9_addToken_43 2 rfl ?_
    replace hf := zchk_some hf
    obtain ⟨h7, hf⟩ := hf
    replace hf := zput_some hf
    obtain ⟨g8, eg8, hf⟩ := hf
    refine z_iast hX (zk_Tokens_lengths hkh) (by decide) (zc_1401 _ _) h7 dX9_addToken_44 (zW.eqg eg8 ?_)
    refine z_aload_n hX dX9_addToken_45 0 rfl ?_
    refine z_dup hX dX9_addToken_46 rfl ?_
    refine gf_Tokens_size hX hkh q344 dX9_addToken_47 ?_
    refine z_iconst hX dX9_addToken_50 ci_1 ?_
    refine z_iadd hX dX9_addToken_51 ?_
    replace hf := zput_some hf
    obtain ⟨g9, eg9, hf⟩ := hf
    refine gp_Tokens_size hX hkh q344 dX9_addToken_52 (zW.eqg eg9 ?_)
    obtain rfl := Option.some.inj hf
    exact z_vret hX hr (zl rfl) (zl rfl) dX9_addToken_55
set_option maxHeartbeats 4000000 in
set_option maxRecDepth 100000 in
theorem ct_X9_addToken {E : zE} {h : Nat} {v1 : Int32} {v2 : Int32} (hkh : zK h = 8) {g : zM} {r : zM} (hf : fX9_addToken h v1 v2 g = some r) : zCt yX9_addToken cX9_addToken 3 none 8 0 E [.ref (E.1 + h), .int v1, .int v2] g (.inl (none, r)) := by
  refine zmet (by decide) (zl rfl) (fun X hE hX hT hR hr hn => ?_)
  subst hE
  exact fX9_addToken_ok hX hT hR hr hn hkh hf
def fX9_scan_L45 (h : Nat) (k97 : zM → Option zM) : Nat → Int32 → Int32 → zM → Option zM
  | 0, _, _, _ => none
  | n + 1, v3, v4, g => if 400 < v4 then k97 g else if (g h 4) ≤ v3 then k97 g else zb (fX9_endOf h v3 g) (fun r_9 => zchk v3 400 (if (g (h + 1) v3.toNatClampNeg) = 32 then fX9_scan_L45 h k97 n r_9 (v4 + 1) g else zb (fX9_addToken h v3 (r_9 - v3) g) (fun g12 => fX9_scan_L45 h k97 n r_9 (v4 + 1) g12)))
def fX9_scan (h : Nat) (v2 : Int32) (g : zM) : Option zM := zput g h 4 (if 400 < v2 then 400 else v2) (fun g1 => zacp g1 1 0 400 (h + 1) 0 400 (g1 h 4) (fun g3 => zput g3 h 5 0 (fun g4 => zput g4 h 6 0 (fun g5 => zput g5 h 7 ((-1)) (fun g6 => fX9_scan_L45 h (fun g13 => zchk (g13 h 5) 401 (zput g13 (h + 2) (g13 h 5).toNatClampNeg 1021 (fun g15 => zchk (g15 h 5) 401 (zput g15 (h + 3) (g15 h 5).toNatClampNeg (g15 h 4) (fun g17 => zchk (g17 h 5) 401 (zput g17 (h + 4) (g17 h 5).toNatClampNeg 0 (fun g19 => some g19))))))) zFU 0 0 g6)))))
set_option maxHeartbeats 4000000 in
set_option maxRecDepth 100000 in
theorem fX9_scan_L45_ok {X : zX} (hX : zCX X cX9_scan RX9) (hT : zNT X) (hR : X.2.2.2.1 = zrm 9 0) (hr : X.2.2.2.2.2.2.2.2.1.sig.returnType = none) (hn : X.2.2.2.2.2.2.2.2.2.1.maxLocals = 6) {h : Nat} (hkh : zK h = 8) {k97 : zM → Option zM} {r : zM} (hk97 : ∀ (g : zM), k97 g = some r → zW X (zQ X (.inl (none, r)) 0) 0 0 97 [(0, .ref (zB X + h))] [] g) : ∀ (n : Nat) (v3 : Int32) (v4 : Int32) (g : zM), fX9_scan_L45 h k97 n v3 v4 g = some r → zW X (zQ X (.inl (none, r)) 0) 0 0 45 [(0, .ref (zB X + h)), (3, .int v3), (4, .int v4)] [] g := by
  intro n
  induction n with
  | zero => intro v3 v4 g hf; exact zno hf
  | succ n ih =>
    intro v3 v4 g hf
    rw [fX9_scan_L45] at hf
    refine z_iload hX dX9_scan_45 2 rfl ?_
    refine z_sipush hX dX9_scan_47 cs_400 ?_
    refine z_icmp_gt hX 97 dX9_scan_50 (by decide) (fun h7 => ?_) (fun h7 => ?_)
    · replace hf := zif_pos h7 hf
      refine zW.sub [0] rfl ?_
      exact hk97 g hf
    · replace hf := zif_neg h7 hf
      refine z_iload_n hX dX9_scan_53 1 rfl ?_
      refine z_aload_n hX dX9_scan_54 0 rfl ?_
      refine gf_Tokens_textSize hX hkh q343 dX9_scan_55 ?_
      refine z_icmp_ge hX 97 dX9_scan_58 (by decide) (fun h8 => ?_) (fun h8 => ?_)
      · replace hf := zif_pos h8 hf
        refine zW.sub [0] rfl ?_
        exact hk97 g hf
      · replace hf := zif_neg h8 hf
        refine z_aload_n hX dX9_scan_61 0 rfl ?_
        refine z_iload_n hX dX9_scan_62 1 rfl ?_
        replace hf := zb_some hf
        obtain ⟨r_9, h9, hf⟩ := hf
        refine z_callV1 hX ok_X9_endOf q665 q667 q6 (zrm_ok hR (by decide)) (ct_X9_endOf hkh h9) (zrec_Tokens hX hkh) dX9_scan_63 rfl rfl ?_
        refine z_istore (lv' := [(5, .int r_9), (0, .ref (zB X + h)), (3, .int v3), (4, .int v4)]) hX dX9_scan_66 hn (by decide) rfl ?_
        refine z_aload_n hX dX9_scan_68 1 rfl ?_
        refine gf_Tokens_text hX hkh q339 dX9_scan_69 ?_
        refine z_iload_n hX dX9_scan_72 2 rfl ?_
        replace hf := zchk_some hf
        obtain ⟨h10, hf⟩ := hf
        refine z_iald hX (zk_Tokens_text hkh) (by decide) (zc_1400 _ _ _) h10 dX9_scan_73 ?_
        refine z_bipush hX dX9_scan_74 cb_32 ?_
        refine z_icmp_eq hX 88 dX9_scan_76 (by decide) (fun h11 => ?_) (fun h11 => ?_)
        · replace hf := zif_pos h11 hf
          refine z_iload hX dX9_scan_88 0 rfl ?_
          refine z_istore_n (lv' := [(3, .int r_9), (5, .int r_9), (0, .ref (zB X + h)), (4, .int v4)]) hX dX9_scan_90 hn (by decide) rfl ?_
          refine z_iincc (lv' := [(4, .int (v4 + 1)), (3, .int r_9), (5, .int r_9), (0, .ref (zB X + h))]) hX dX9_scan_91 hn (by decide) 3 rfl ci_1 rfl ?_
          refine z_goto hX 45 dX9_scan_94 (by decide) ?_
          refine zW.sub [3, 1, 0] rfl ?_
          exact ih r_9 (v4 + 1) g hf
        · replace hf := zif_neg h11 hf
          refine z_aload_n hX dX9_scan_79 1 rfl ?_
          refine z_iload_n hX dX9_scan_80 2 rfl ?_
          refine z_iload hX dX9_scan_81 0 rfl ?_
          refine z_iload_n hX dX9_scan_83 2 rfl ?_
          refine z_isub hX dX9_scan_84 ?_
          replace hf := zb_some hf
          obtain ⟨g12, h12, hf⟩ := hf
          refine z_callV0 hX ok_X9_addToken q672 q674 q7 (zrm_ok hR (by decide)) (ct_X9_addToken hkh h12) (zrec_Tokens hX hkh) dX9_scan_85 rfl rfl ?_
          refine z_iload hX dX9_scan_88 0 rfl ?_
          refine z_istore_n (lv' := [(3, .int r_9), (5, .int r_9), (0, .ref (zB X + h)), (4, .int v4)]) hX dX9_scan_90 hn (by decide) rfl ?_
          refine z_iincc (lv' := [(4, .int (v4 + 1)), (3, .int r_9), (5, .int r_9), (0, .ref (zB X + h))]) hX dX9_scan_91 hn (by decide) 3 rfl ci_1 rfl ?_
          refine z_goto hX 45 dX9_scan_94 (by decide) ?_
          refine zW.sub [3, 1, 0] rfl ?_
          exact ih r_9 (v4 + 1) g12 hf
set_option maxHeartbeats 4000000 in
set_option maxRecDepth 100000 in
theorem fX9_scan_ok {X : zX} (hX : zCX X cX9_scan RX9) (hT : zNT X) (hR : X.2.2.2.1 = zrm 9 0) (hr : X.2.2.2.2.2.2.2.2.1.sig.returnType = none) (hn : X.2.2.2.2.2.2.2.2.2.1.maxLocals = 6) {h : Nat} {v2 : Int32} (hkh : zK h = 8) {g : zM} {r : zM} (hf : fX9_scan h v2 g = some r) : zW X (zQ X (.inl (none, r)) 0) 0 0 0 [(0, .ref (zB X + h)), (1, .ref (zB X + 1)), (2, .int v2)] [] g := by
  unfold fX9_scan at hf
  refine z_aload_n hX dX9_scan_0 0 rfl ?_
  refine z_iload_n hX dX9_scan_1 2 rfl ?_
  refine z_sipush hX dX9_scan_2 cs_400 ?_
  refine z_min hX hR ⟨zl rfl, zl rfl⟩ q663 dX9_scan_5 (zl rfl) ?_
  replace hf := zput_some hf
  obtain ⟨g1, eg1, hf⟩ := hf
  refine gp_Tokens_textSize hX hkh q343 dX9_scan_8 (zW.eqg eg1 ?_)
  refine z_aload_n hX dX9_scan_11 1 rfl ?_
  refine z_iconst hX dX9_scan_12 ci_0 ?_
  refine z_aload_n hX dX9_scan_13 0 rfl ?_
  refine gf_Tokens_text hX hkh q339 dX9_scan_14 ?_
  refine z_iconst hX dX9_scan_17 ci_0 ?_
  refine z_aload_n hX dX9_scan_18 0 rfl ?_
  refine gf_Tokens_textSize hX hkh q343 dX9_scan_19 ?_
  replace hf := zacp_some hf
  obtain ⟨g3, eg3, h2, hf⟩ := hf
  refine z_acp hX hR zq_1 (by decide) (zc_1400 _ _) (zk_Tokens_text hkh) (by decide) (zc_1400 _ _) q664 h2 (zl rfl) dX9_scan_22 (zW.eqg eg3 ?_)
  refine z_aload_n hX dX9_scan_25 0 rfl ?_
  refine z_iconst hX dX9_scan_26 ci_0 ?_
  replace hf := zput_some hf
  obtain ⟨g4, eg4, hf⟩ := hf
  refine gp_Tokens_size hX hkh q344 dX9_scan_27 (zW.eqg eg4 ?_)
  refine z_aload_n hX dX9_scan_30 0 rfl ?_
  refine z_iconst hX dX9_scan_31 ci_0 ?_
  replace hf := zput_some hf
  obtain ⟨g5, eg5, hf⟩ := hf
  refine gp_Tokens_at hX hkh q345 dX9_scan_32 (zW.eqg eg5 ?_)
  refine z_aload_n hX dX9_scan_35 0 rfl ?_
  refine z_iconst hX dX9_scan_36 ci_m1 ?_
  replace hf := zput_some hf
  obtain ⟨g6, eg6, hf⟩ := hf
  refine gp_Tokens_wrong hX hkh q346 dX9_scan_37 (zW.eqg eg6 ?_)
  refine z_iconst hX dX9_scan_40 ci_0 ?_
  refine z_istore_n (lv' := [(3, .int 0), (0, .ref (zB X + h)), (1, .ref (zB X + 1)), (2, .int v2)]) hX dX9_scan_41 hn (by decide) rfl ?_
  refine z_iconst hX dX9_scan_42 ci_0 ?_
  refine z_istore (lv' := [(4, .int 0), (3, .int 0), (0, .ref (zB X + h)), (1, .ref (zB X + 1)), (2, .int v2)]) hX dX9_scan_43 hn (by decide) rfl ?_
  refine zW.sub [2, 1, 0] rfl ?_
  refine fX9_scan_L45_ok hX hT hR hr hn hkh (fun g13 hf => ?_) zFU 0 0 g6 hf
  · refine z_aload_n hX dX9_scan_97 0 rfl ?_
    refine gf_Tokens_codes hX hkh q340 dX9_scan_98 ?_
    refine z_aload_n hX dX9_scan_101 0 rfl ?_
    refine gf_Tokens_size hX hkh q344 dX9_scan_102 ?_
    refine z_sipush hX dX9_scan_105 cs_1021 ?_
    replace hf := zchk_some hf
    obtain ⟨h14, hf⟩ := hf
    replace hf := zput_some hf
    obtain ⟨g15, eg15, hf⟩ := hf
    refine z_iast hX (zk_Tokens_codes hkh) (by decide) (zc_1401 _ _) h14 dX9_scan_108 (zW.eqg eg15 ?_)
    refine z_aload_n hX dX9_scan_109 0 rfl ?_
    refine gf_Tokens_begins hX hkh q341 dX9_scan_110 ?_
    refine z_aload_n hX dX9_scan_113 0 rfl ?_
    refine gf_Tokens_size hX hkh q344 dX9_scan_114 ?_
    refine z_aload_n hX dX9_scan_117 0 rfl ?_
    refine gf_Tokens_textSize hX hkh q343 dX9_scan_118 ?_
    replace hf := zchk_some hf
    obtain ⟨h16, hf⟩ := hf
    replace hf := zput_some hf
    obtain ⟨g17, eg17, hf⟩ := hf
    refine z_iast hX (zk_Tokens_begins hkh) (by decide) (zc_1401 _ _) h16 dX9_scan_121 (zW.eqg eg17 ?_)
    refine z_aload_n hX dX9_scan_122 0 rfl ?_
    refine gf_Tokens_lengths hX hkh q342 dX9_scan_123 ?_
    refine z_aload_n hX dX9_scan_126 0 rfl ?_
    refine gf_Tokens_size hX hkh q344 dX9_scan_127 ?_
    refine z_iconst hX dX9_scan_130 ci_0 ?_
    replace hf := zchk_some hf
    obtain ⟨h18, hf⟩ := hf
    replace hf := zput_some hf
    obtain ⟨g19, eg19, hf⟩ := hf
    refine z_iast hX (zk_Tokens_lengths hkh) (by decide) (zc_1401 _ _) h18 dX9_scan_131 (zW.eqg eg19 ?_)
    obtain rfl := Option.some.inj hf
    exact z_vret hX hr (zl rfl) (zl rfl) dX9_scan_132
set_option maxHeartbeats 4000000 in
set_option maxRecDepth 100000 in
theorem ct_X9_scan {E : zE} {h : Nat} {v2 : Int32} (hkh : zK h = 8) {g : zM} {r : zM} (hf : fX9_scan h v2 g = some r) : zCt yX9_scan cX9_scan 6 none 9 0 E [.ref (E.1 + h), .ref (E.1 + 1), .int v2] g (.inl (none, r)) := by
  refine zmet (by decide) (zl rfl) (fun X hE hX hT hR hr hn => ?_)
  subst hE
  exact fX9_scan_ok hX hT hR hr hn hkh hf
def fX9_code (h : Nat) (g : zM) : Option Int32 := zchk (g h 6) 401 (some (g (h + 2) (g h 6).toNatClampNeg))
set_option maxHeartbeats 4000000 in
set_option maxRecDepth 100000 in
theorem fX9_code_ok {X : zX} (hX : zCX X cX9_code RX9) (hT : zNT X) (hR : X.2.2.2.1 = zrm 0 0) (hr : X.2.2.2.2.2.2.2.2.1.sig.returnType = (some .int)) (hn : X.2.2.2.2.2.2.2.2.2.1.maxLocals = 1) {h : Nat} (hkh : zK h = 8) {g : zM} {r : Int32} (hf : fX9_code h g = some r) : zW X (zQ X (.inl (some (.int r), g)) 0) 0 0 0 [(0, .ref (zB X + h))] [] g := by
  unfold fX9_code at hf
  refine z_aload_n hX dX9_code_0 0 rfl ?_
  refine gf_Tokens_codes hX hkh q340 dX9_code_1 ?_
  refine z_aload_n hX dX9_code_4 0 rfl ?_
  refine gf_Tokens_at hX hkh q345 dX9_code_5 ?_
  replace hf := zchk_some hf
  obtain ⟨h1, hf⟩ := hf
  refine z_iald hX (zk_Tokens_codes hkh) (by decide) (zc_1401 _ _ _) h1 dX9_code_8 ?_
  obtain rfl := Option.some.inj hf
  exact z_iret hX hr rfl (zl rfl) (zl rfl) dX9_code_9
set_option maxHeartbeats 4000000 in
set_option maxRecDepth 100000 in
theorem ct_X9_code {E : zE} {h : Nat} (hkh : zK h = 8) {g : zM} {r : Int32} (hf : fX9_code h g = some r) : zCt yX9_code cX9_code 1 (some .int) 0 0 E [.ref (E.1 + h)] g (.inl (some (.int r), g)) := by
  refine zmet (by decide) (zl rfl) (fun X hE hX hT hR hr hn => ?_)
  subst hE
  exact fX9_code_ok hX hT hR hr hn hkh hf
def fX9_fail (h : Nat) (g : zM) : Option (Int32 × zM) := zchk (g h 6) 401 (zput g h 7 (g (h + 3) (g h 6).toNatClampNeg) (fun g2 => some (0, g2)))
set_option maxHeartbeats 4000000 in
set_option maxRecDepth 100000 in
theorem fX9_fail_ok {X : zX} (hX : zCX X cX9_fail RX9) (hT : zNT X) (hR : X.2.2.2.1 = zrm 0 0) (hr : X.2.2.2.2.2.2.2.2.1.sig.returnType = (some .boolean)) (hn : X.2.2.2.2.2.2.2.2.2.1.maxLocals = 1) {h : Nat} (hkh : zK h = 8) {g : zM} {r : Int32 × zM} (hf : fX9_fail h g = some r) : zW X (zQ X (.inl (some (.int r.1), r.2)) 0) 0 0 0 [(0, .ref (zB X + h))] [] g := by
  unfold fX9_fail at hf
  refine z_aload_n hX dX9_fail_0 0 rfl ?_
  refine z_aload_n hX dX9_fail_1 0 rfl ?_
  refine gf_Tokens_begins hX hkh q341 dX9_fail_2 ?_
  refine z_aload_n hX dX9_fail_5 0 rfl ?_
  refine gf_Tokens_at hX hkh q345 dX9_fail_6 ?_
  replace hf := zchk_some hf
  obtain ⟨h1, hf⟩ := hf
  refine z_iald hX (zk_Tokens_begins hkh) (by decide) (zc_1401 _ _ _) h1 dX9_fail_9 ?_
  replace hf := zput_some hf
  obtain ⟨g2, eg2, hf⟩ := hf
  refine gp_Tokens_wrong hX hkh q346 dX9_fail_10 (zW.eqg eg2 ?_)
  refine z_iconst hX dX9_fail_13 ci_0 ?_
  obtain rfl := Option.some.inj hf
  exact z_iret hX hr (zbn (Or.inl rfl)) (zl rfl) (zl rfl) dX9_fail_14
set_option maxHeartbeats 4000000 in
set_option maxRecDepth 100000 in
theorem ct_X9_fail {E : zE} {h : Nat} (hkh : zK h = 8) {g : zM} {r : Int32 × zM} (hf : fX9_fail h g = some r) : zCt yX9_fail cX9_fail 1 (some .boolean) 0 0 E [.ref (E.1 + h)] g (.inl (some (.int r.1), r.2)) := by
  refine zmet (by decide) (zl rfl) (fun X hE hX hT hR hr hn => ?_)
  subst hE
  exact fX9_fail_ok hX hT hR hr hn hkh hf
def fX9_step (h : Nat) (g : zM) : Option zM := if (g h 5) ≤ (g h 6) then some g else zput g h 6 ((g h 6) + 1) (fun g2 => some g2)
set_option maxHeartbeats 4000000 in
set_option maxRecDepth 100000 in
theorem fX9_step_ok {X : zX} (hX : zCX X cX9_step RX9) (hT : zNT X) (hR : X.2.2.2.1 = zrm 0 0) (hr : X.2.2.2.2.2.2.2.2.1.sig.returnType = none) (hn : X.2.2.2.2.2.2.2.2.2.1.maxLocals = 1) {h : Nat} (hkh : zK h = 8) {g : zM} {r : zM} (hf : fX9_step h g = some r) : zW X (zQ X (.inl (none, r)) 0) 0 0 0 [(0, .ref (zB X + h))] [] g := by
  unfold fX9_step at hf
  refine z_aload_n hX dX9_step_0 0 rfl ?_
  refine gf_Tokens_at hX hkh q345 dX9_step_1 ?_
  refine z_aload_n hX dX9_step_4 0 rfl ?_
  refine gf_Tokens_size hX hkh q344 dX9_step_5 ?_
  refine z_icmp_ge hX 21 dX9_step_8 (by decide) (fun h1 => ?_) (fun h1 => ?_)
  · replace hf := zif_pos h1 hf
    obtain rfl := Option.some.inj hf
    exact z_vret hX hr (zl rfl) (zl rfl) dX9_step_21
  · replace hf := zif_neg h1 hf
    refine z_aload_n hX dX9_step_11 0 rfl ?_
    refine z_dup hX dX9_step_12 rfl ?_
    refine gf_Tokens_at hX hkh q345 dX9_step_13 ?_
    refine z_iconst hX dX9_step_16 ci_1 ?_
    refine z_iadd hX dX9_step_17 ?_
    replace hf := zput_some hf
    obtain ⟨g2, eg2, hf⟩ := hf
    refine gp_Tokens_at hX hkh q345 dX9_step_18 (zW.eqg eg2 ?_)
    obtain rfl := Option.some.inj hf
    exact z_vret hX hr (zl rfl) (zl rfl) dX9_step_21
set_option maxHeartbeats 4000000 in
set_option maxRecDepth 100000 in
theorem ct_X9_step {E : zE} {h : Nat} (hkh : zK h = 8) {g : zM} {r : zM} (hf : fX9_step h g = some r) : zCt yX9_step cX9_step 1 none 0 0 E [.ref (E.1 + h)] g (.inl (none, r)) := by
  refine zmet (by decide) (zl rfl) (fun X hE hX hT hR hr hn => ?_)
  subst hE
  exact fX9_step_ok hX hT hR hr hn hkh hf
def fX9_pass (h : Nat) (v1 : Int32) (g : zM) : Option (Int32 × zM) := if (g h 5) ≤ (g h 6) then zchk (g h 6) 401 (zput g h 7 (g (h + 3) (g h 6).toNatClampNeg) (fun g3 => some (0, g3))) else zchk (g h 6) 401 (if (g (h + 2) (g h 6).toNatClampNeg) = v1 then zput g h 6 ((g h 6) + 1) (fun g6 => some (1, g6)) else zchk (g h 6) 401 (zput g h 7 (g (h + 3) (g h 6).toNatClampNeg) (fun g8 => some (0, g8))))
set_option maxHeartbeats 4000000 in
set_option maxRecDepth 100000 in
theorem fX9_pass_ok {X : zX} (hX : zCX X cX9_pass RX9) (hT : zNT X) (hR : X.2.2.2.1 = zrm 0 0) (hr : X.2.2.2.2.2.2.2.2.1.sig.returnType = (some .boolean)) (hn : X.2.2.2.2.2.2.2.2.2.1.maxLocals = 2) {h : Nat} {v1 : Int32} (hkh : zK h = 8) {g : zM} {r : Int32 × zM} (hf : fX9_pass h v1 g = some r) : zW X (zQ X (.inl (some (.int r.1), r.2)) 0) 0 0 0 [(0, .ref (zB X + h)), (1, .int v1)] [] g := by
  unfold fX9_pass at hf
  refine z_aload_n hX dX9_pass_0 0 rfl ?_
  refine gf_Tokens_at hX hkh q345 dX9_pass_1 ?_
  refine z_aload_n hX dX9_pass_4 0 rfl ?_
  refine gf_Tokens_size hX hkh q344 dX9_pass_5 ?_
  refine z_icmp_ge hX 24 dX9_pass_8 (by decide) (fun h1 => ?_) (fun h1 => ?_)
  · replace hf := zif_pos h1 hf
    refine z_aload_n hX dX9_pass_24 0 rfl ?_
    refine z_aload_n hX dX9_pass_25 0 rfl ?_
    refine gf_Tokens_begins hX hkh q341 dX9_pass_26 ?_
    refine z_aload_n hX dX9_pass_29 0 rfl ?_
    refine gf_Tokens_at hX hkh q345 dX9_pass_30 ?_
    replace hf := zchk_some hf
    obtain ⟨h2, hf⟩ := hf
    refine z_iald hX (zk_Tokens_begins hkh) (by decide) (zc_1401 _ _ _) h2 dX9_pass_33 ?_
    replace hf := zput_some hf
    obtain ⟨g3, eg3, hf⟩ := hf
    refine gp_Tokens_wrong hX hkh q346 dX9_pass_34 (zW.eqg eg3 ?_)
    refine z_iconst hX dX9_pass_37 ci_0 ?_
    obtain rfl := Option.some.inj hf
    exact z_iret hX hr (zbn (Or.inl rfl)) (zl rfl) (zl rfl) dX9_pass_38
  · replace hf := zif_neg h1 hf
    refine z_aload_n hX dX9_pass_11 0 rfl ?_
    refine gf_Tokens_codes hX hkh q340 dX9_pass_12 ?_
    refine z_aload_n hX dX9_pass_15 0 rfl ?_
    refine gf_Tokens_at hX hkh q345 dX9_pass_16 ?_
    replace hf := zchk_some hf
    obtain ⟨h4, hf⟩ := hf
    refine z_iald hX (zk_Tokens_codes hkh) (by decide) (zc_1401 _ _ _) h4 dX9_pass_19 ?_
    refine z_iload_n hX dX9_pass_20 1 rfl ?_
    refine z_icmp_eq hX 39 dX9_pass_21 (by decide) (fun h5 => ?_) (fun h5 => ?_)
    · replace hf := zif_pos h5 hf
      refine z_aload_n hX dX9_pass_39 0 rfl ?_
      refine z_dup hX dX9_pass_40 rfl ?_
      refine gf_Tokens_at hX hkh q345 dX9_pass_41 ?_
      refine z_iconst hX dX9_pass_44 ci_1 ?_
      refine z_iadd hX dX9_pass_45 ?_
      replace hf := zput_some hf
      obtain ⟨g6, eg6, hf⟩ := hf
      refine gp_Tokens_at hX hkh q345 dX9_pass_46 (zW.eqg eg6 ?_)
      refine z_iconst hX dX9_pass_49 ci_1 ?_
      obtain rfl := Option.some.inj hf
      exact z_iret hX hr (zbn (Or.inr rfl)) (zl rfl) (zl rfl) dX9_pass_50
    · replace hf := zif_neg h5 hf
      refine z_aload_n hX dX9_pass_24 0 rfl ?_
      refine z_aload_n hX dX9_pass_25 0 rfl ?_
      refine gf_Tokens_begins hX hkh q341 dX9_pass_26 ?_
      refine z_aload_n hX dX9_pass_29 0 rfl ?_
      refine gf_Tokens_at hX hkh q345 dX9_pass_30 ?_
      replace hf := zchk_some hf
      obtain ⟨h7, hf⟩ := hf
      refine z_iald hX (zk_Tokens_begins hkh) (by decide) (zc_1401 _ _ _) h7 dX9_pass_33 ?_
      replace hf := zput_some hf
      obtain ⟨g8, eg8, hf⟩ := hf
      refine gp_Tokens_wrong hX hkh q346 dX9_pass_34 (zW.eqg eg8 ?_)
      refine z_iconst hX dX9_pass_37 ci_0 ?_
      obtain rfl := Option.some.inj hf
      exact z_iret hX hr (zbn (Or.inl rfl)) (zl rfl) (zl rfl) dX9_pass_38
set_option maxHeartbeats 4000000 in
set_option maxRecDepth 100000 in
theorem ct_X9_pass {E : zE} {h : Nat} {v1 : Int32} (hkh : zK h = 8) {g : zM} {r : Int32 × zM} (hf : fX9_pass h v1 g = some r) : zCt yX9_pass cX9_pass 2 (some .boolean) 0 0 E [.ref (E.1 + h), .int v1] g (.inl (some (.int r.1), r.2)) := by
  refine zmet (by decide) (zl rfl) (fun X hE hX hT hR hr hn => ?_)
  subst hE
  exact fX9_pass_ok hX hT hR hr hn hkh hf
def fX9_takeNumber (h : Nat) (v1 : Int32) (v2 : Int32) (g : zM) : Option (Int32 × zM) := zchk (g h 6) 401 (if 999 < (g (h + 2) (g h 6).toNatClampNeg) then zb2 (fX9_fail h g) (fun r_3 g3 => some ((-1), g3)) else if (g (h + 2) (g h 6).toNatClampNeg) < v1 then zb2 (fX9_fail h g) (fun r_5 g5 => some ((-1), g5)) else if (g (h + 2) (g h 6).toNatClampNeg) ≤ v2 then zb (fX9_step h g) (fun g7 => some (g (h + 2) (g h 6).toNatClampNeg, g7)) else zb2 (fX9_fail h g) (fun r_8 g8 => some ((-1), g8)))
set_option maxHeartbeats 4000000 in
set_option maxRecDepth 100000 in
theorem fX9_takeNumber_ok {X : zX} (hX : zCX X cX9_takeNumber RX9) (hT : zNT X) (hR : X.2.2.2.1 = zrm 1 0) (hr : X.2.2.2.2.2.2.2.2.1.sig.returnType = (some .int)) (hn : X.2.2.2.2.2.2.2.2.2.1.maxLocals = 4) {h : Nat} {v1 : Int32} {v2 : Int32} (hkh : zK h = 8) {g : zM} {r : Int32 × zM} (hf : fX9_takeNumber h v1 v2 g = some r) : zW X (zQ X (.inl (some (.int r.1), r.2)) 0) 0 0 0 [(0, .ref (zB X + h)), (1, .int v1), (2, .int v2)] [] g := by
  unfold fX9_takeNumber at hf
  refine z_aload_n hX dX9_takeNumber_0 0 rfl ?_
  refine gf_Tokens_codes hX hkh q340 dX9_takeNumber_1 ?_
  refine z_aload_n hX dX9_takeNumber_4 0 rfl ?_
  refine gf_Tokens_at hX hkh q345 dX9_takeNumber_5 ?_
  replace hf := zchk_some hf
  obtain ⟨h1, hf⟩ := hf
  refine z_iald hX (zk_Tokens_codes hkh) (by decide) (zc_1401 _ _ _) h1 dX9_takeNumber_8 ?_
  refine z_istore_n (lv' := [(3, .int (g (h + 2) (g h 6).toNatClampNeg)), (0, .ref (zB X + h)), (1, .int v1), (2, .int v2)]) hX dX9_takeNumber_9 hn (by decide) rfl ?_
  refine z_iload_n hX dX9_takeNumber_10 0 rfl ?_
  refine z_sipush hX dX9_takeNumber_11 cs_999 ?_
  refine z_icmp_gt hX 27 dX9_takeNumber_14 (by decide) (fun h2 => ?_) (fun h2 => ?_)
  · replace hf := zif_pos h2 hf
    refine z_aload_n hX dX9_takeNumber_27 1 rfl ?_
    replace hf := zb2_some hf
    obtain ⟨r_3, g3, h3, hf⟩ := hf
    refine z_callV1 hX ok_X9_fail q763 q764 q765 (zrm_ok hR (by decide)) (ct_X9_fail hkh h3) (zrec_Tokens hX hkh) dX9_takeNumber_28 rfl rfl ?_
    refine z_pop hX dX9_takeNumber_31 rfl ?_
    refine z_iconst hX dX9_takeNumber_32 ci_m1 ?_
    obtain rfl := Option.some.inj hf
    exact z_iret hX hr rfl (zl rfl) (zl rfl) dX9_takeNumber_33
  · replace hf := zif_neg h2 hf
    refine z_iload_n hX dX9_takeNumber_17 0 rfl ?_
    refine z_iload_n hX dX9_takeNumber_18 2 rfl ?_
    refine z_icmp_lt hX 27 dX9_takeNumber_19 (by decide) (fun h4 => ?_) (fun h4 => ?_)
    · replace hf := zif_pos h4 hf
      refine z_aload_n hX dX9_takeNumber_27 1 rfl ?_
      replace hf := zb2_some hf
      obtain ⟨r_5, g5, h5, hf⟩ := hf
      refine z_callV1 hX ok_X9_fail q763 q764 q765 (zrm_ok hR (by decide)) (ct_X9_fail hkh h5) (zrec_Tokens hX hkh) dX9_takeNumber_28 rfl rfl ?_
      refine z_pop hX dX9_takeNumber_31 rfl ?_
      refine z_iconst hX dX9_takeNumber_32 ci_m1 ?_
      obtain rfl := Option.some.inj hf
      exact z_iret hX hr rfl (zl rfl) (zl rfl) dX9_takeNumber_33
    · replace hf := zif_neg h4 hf
      refine z_iload_n hX dX9_takeNumber_22 0 rfl ?_
      refine z_iload_n hX dX9_takeNumber_23 3 rfl ?_
      refine z_icmp_le hX 34 dX9_takeNumber_24 (by decide) (fun h6 => ?_) (fun h6 => ?_)
      · replace hf := zif_pos h6 hf
        refine z_aload_n hX dX9_takeNumber_34 1 rfl ?_
        replace hf := zb_some hf
        obtain ⟨g7, h7, hf⟩ := hf
        refine z_callV0 hX ok_X9_step q767 q768 q769 (zrm_ok hR (by decide)) (ct_X9_step hkh h7) (zrec_Tokens hX hkh) dX9_takeNumber_35 rfl rfl ?_
        refine z_iload_n hX dX9_takeNumber_38 0 rfl ?_
        obtain rfl := Option.some.inj hf
        exact z_iret hX hr rfl (zl rfl) (zl rfl) dX9_takeNumber_39
      · replace hf := zif_neg h6 hf
        refine z_aload_n hX dX9_takeNumber_27 1 rfl ?_
        replace hf := zb2_some hf
        obtain ⟨r_8, g8, h8, hf⟩ := hf
        refine z_callV1 hX ok_X9_fail q763 q764 q765 (zrm_ok hR (by decide)) (ct_X9_fail hkh h8) (zrec_Tokens hX hkh) dX9_takeNumber_28 rfl rfl ?_
        refine z_pop hX dX9_takeNumber_31 rfl ?_
        refine z_iconst hX dX9_takeNumber_32 ci_m1 ?_
        obtain rfl := Option.some.inj hf
        exact z_iret hX hr rfl (zl rfl) (zl rfl) dX9_takeNumber_33
set_option maxHeartbeats 4000000 in
set_option maxRecDepth 100000 in
theorem ct_X9_takeNumber {E : zE} {h : Nat} {v1 : Int32} {v2 : Int32} (hkh : zK h = 8) {g : zM} {r : Int32 × zM} (hf : fX9_takeNumber h v1 v2 g = some r) : zCt yX9_takeNumber cX9_takeNumber 4 (some .int) 1 0 E [.ref (E.1 + h), .int v1, .int v2] g (.inl (some (.int r.1), r.2)) := by
  refine zmet (by decide) (zl rfl) (fun X hE hX hT hR hr hn => ?_)
  subst hE
  exact fX9_takeNumber_ok hX hT hR hr hn hkh hf
def fX9_kindIn (h : Nat) (v1 : Int32) (g : zM) : Option Int32 := zchk (g h 6) 401 (zjoin (fun t0_2 => if t0_2 < 0 then some ((-1)) else if 12 ≤ t0_2 then some ((-1)) else some t0_2 : Int32 → Option Int32) (fun k37 => if ((g (h + 3) (g h 6).toNatClampNeg) + v1) < 0 then k37 ((-1)) else if (g h 4) ≤ ((g (h + 3) (g h 6).toNatClampNeg) + v1) then k37 ((-1)) else zchk ((g (h + 3) (g h 6).toNatClampNeg) + v1) 400 (k37 ((g (h + 1) ((g (h + 3) (g h 6).toNatClampNeg) + v1).toNatClampNeg) - 97))))
set_option maxHeartbeats 4000000 in
set_option maxRecDepth 100000 in
theorem fX9_kindIn_ok {X : zX} (hX : zCX X cX9_kindIn RX9) (hT : zNT X) (hR : X.2.2.2.1 = zrm 0 0) (hr : X.2.2.2.2.2.2.2.2.1.sig.returnType = (some .int)) (hn : X.2.2.2.2.2.2.2.2.2.1.maxLocals = 4) {h : Nat} {v1 : Int32} (hkh : zK h = 8) {g : zM} {r : Int32} (hf : fX9_kindIn h v1 g = some r) : zW X (zQ X (.inl (some (.int r), g)) 0) 0 0 0 [(0, .ref (zB X + h)), (1, .int v1)] [] g := by
  unfold fX9_kindIn at hf
  refine z_aload_n hX dX9_kindIn_0 0 rfl ?_
  refine gf_Tokens_begins hX hkh q341 dX9_kindIn_1 ?_
  refine z_aload_n hX dX9_kindIn_4 0 rfl ?_
  refine gf_Tokens_at hX hkh q345 dX9_kindIn_5 ?_
  replace hf := zchk_some hf
  obtain ⟨h1, hf⟩ := hf
  refine z_iald hX (zk_Tokens_begins hkh) (by decide) (zc_1401 _ _ _) h1 dX9_kindIn_8 ?_
  refine z_iload_n hX dX9_kindIn_9 1 rfl ?_
  refine z_iadd hX dX9_kindIn_10 ?_
  refine z_istore_n (lv' := [(2, .int ((g (h + 3) (g h 6).toNatClampNeg) + v1)), (0, .ref (zB X + h)), (1, .int v1)]) hX dX9_kindIn_11 hn (by decide) rfl ?_
  refine z_iload_n hX dX9_kindIn_12 0 rfl ?_
  refine zjoin_ok (P := fun (k : Int32 → Option Int32) => ∀ (t0_2 : Int32), k t0_2 = some r → zW X (zQ X (.inl (some (.int r), g)) 0) 0 0 37 [] [.int t0_2] g) hf (fun t0_2 hf => ?_) (fun k37 hk37 hf => ?_)
  · refine z_istore_n (lv' := [(3, .int t0_2)]) hX dX9_kindIn_37 hn (by decide) rfl ?_
    refine z_iload_n hX dX9_kindIn_38 0 rfl ?_
    refine z_if_lt hX 52 dX9_kindIn_39 (by decide) (fun h3 => ?_) (fun h3 => ?_)
    · replace hf := zif_pos h3 hf
      refine z_iconst hX dX9_kindIn_52 ci_m1 ?_
      obtain rfl := Option.some.inj hf
      exact z_iret hX hr rfl (zl rfl) (zl rfl) dX9_kindIn_53
    · replace hf := zif_neg h3 hf
      refine z_iload_n hX dX9_kindIn_42 0 rfl ?_
      refine z_bipush hX dX9_kindIn_43 cb_12 ?_
      refine z_icmp_ge hX 52 dX9_kindIn_45 (by decide) (fun h4 => ?_) (fun h4 => ?_)
      · replace hf := zif_pos h4 hf
        refine z_iconst hX dX9_kindIn_52 ci_m1 ?_
        obtain rfl := Option.some.inj hf
        exact z_iret hX hr rfl (zl rfl) (zl rfl) dX9_kindIn_53
      · replace hf := zif_neg h4 hf
        refine z_iload_n hX dX9_kindIn_48 0 rfl ?_
        refine z_goto hX 53 dX9_kindIn_49 (by decide) ?_
        obtain rfl := Option.some.inj hf
        exact z_iret hX hr rfl (zl rfl) (zl rfl) dX9_kindIn_53
  · refine z_if_lt hX 36 dX9_kindIn_13 (by decide) (fun h5 => ?_) (fun h5 => ?_)
    · replace hf := zif_pos h5 hf
      refine z_iconst hX dX9_kindIn_36 ci_m1 ?_
      refine zW.sub [] rfl ?_
      exact hk37 ((-1)) hf
    · replace hf := zif_neg h5 hf
      refine z_iload_n hX dX9_kindIn_16 0 rfl ?_
      refine z_aload_n hX dX9_kindIn_17 1 rfl ?_
      refine gf_Tokens_textSize hX hkh q343 dX9_kindIn_18 ?_
      refine z_icmp_ge hX 36 dX9_kindIn_21 (by decide) (fun h6 => ?_) (fun h6 => ?_)
      · replace hf := zif_pos h6 hf
        refine z_iconst hX dX9_kindIn_36 ci_m1 ?_
        refine zW.sub [] rfl ?_
        exact hk37 ((-1)) hf
      · replace hf := zif_neg h6 hf
        refine z_aload_n hX dX9_kindIn_24 1 rfl ?_
        refine gf_Tokens_text hX hkh q339 dX9_kindIn_25 ?_
        refine z_iload_n hX dX9_kindIn_28 0 rfl ?_
        replace hf := zchk_some hf
        obtain ⟨h7, hf⟩ := hf
        refine z_iald hX (zk_Tokens_text hkh) (by decide) (zc_1400 _ _ _) h7 dX9_kindIn_29 ?_
        refine z_bipush hX dX9_kindIn_30 cb_97 ?_
        refine z_isub hX dX9_kindIn_32 ?_
        refine z_goto hX 37 dX9_kindIn_33 (by decide) ?_
        refine zW.sub [] rfl ?_
        exact hk37 ((g (h + 1) ((g (h + 3) (g h 6).toNatClampNeg) + v1).toNatClampNeg) - 97) hf
set_option maxHeartbeats 4000000 in
set_option maxRecDepth 100000 in
theorem ct_X9_kindIn {E : zE} {h : Nat} {v1 : Int32} (hkh : zK h = 8) {g : zM} {r : Int32} (hf : fX9_kindIn h v1 g = some r) : zCt yX9_kindIn cX9_kindIn 4 (some .int) 0 0 E [.ref (E.1 + h), .int v1] g (.inl (some (.int r), g)) := by
  refine zmet (by decide) (zl rfl) (fun X hE hX hT hR hr hn => ?_)
  subst hE
  exact fX9_kindIn_ok hX hT hR hr hn hkh hf
def fX9_countKinds_L12 (h : Nat) (v1 : Int32) (g : zM) (k34 : Option Int32) : Nat → Int32 → Option Int32
  | 0, _ => none
  | n + 1, v2 => if v1 ≤ v2 then k34 else zb (fX9_kindIn h v2 g) (fun r_3 => if r_3 = ((-1)) then some 0 else fX9_countKinds_L12 h v1 g k34 n (v2 + 1))
def fX9_countKinds (h : Nat) (g : zM) : Option Int32 := zchk (g h 6) 401 (fX9_countKinds_L12 h (g (h + 4) (g h 6).toNatClampNeg) g (if 24 < (g (h + 4) (g h 6).toNatClampNeg) then some 0 else some (g (h + 4) (g h 6).toNatClampNeg)) zFU 0)
set_option maxHeartbeats 4000000 in
set_option maxRecDepth 100000 in
theorem fX9_countKinds_L12_ok {X : zX} (hX : zCX X cX9_countKinds RX9) (hT : zNT X) (hR : X.2.2.2.1 = zrm 1 0) (hr : X.2.2.2.2.2.2.2.2.1.sig.returnType = (some .int)) (hn : X.2.2.2.2.2.2.2.2.2.1.maxLocals = 3) {h : Nat} {v1 : Int32} (hkh : zK h = 8) {g : zM} {k34 : Option Int32} {r : Int32} (hk34 : k34 = some r → zW X (zQ X (.inl (some (.int r), g)) 0) 0 0 34 [(1, .int v1)] [] g) : ∀ (n : Nat) (v2 : Int32), fX9_countKinds_L12 h v1 g k34 n v2 = some r → zW X (zQ X (.inl (some (.int r), g)) 0) 0 0 12 [(0, .ref (zB X + h)), (1, .int v1), (2, .int v2)] [] g := by
  intro n
  induction n with
  | zero => intro v2 hf; exact zno hf
  | succ n ih =>
    intro v2 hf
    rw [fX9_countKinds_L12] at hf
    refine z_iload_n hX dX9_countKinds_12 2 rfl ?_
    refine z_iload_n hX dX9_countKinds_13 1 rfl ?_
    refine z_icmp_ge hX 34 dX9_countKinds_14 (by decide) (fun h2 => ?_) (fun h2 => ?_)
    · replace hf := zif_pos h2 hf
      refine zW.sub [1] rfl ?_
      exact hk34 hf
    · replace hf := zif_neg h2 hf
      refine z_aload_n hX dX9_countKinds_17 0 rfl ?_
      refine z_iload_n hX dX9_countKinds_18 2 rfl ?_
      replace hf := zb_some hf
      obtain ⟨r_3, h3, hf⟩ := hf
      refine z_callV1 hX ok_X9_kindIn q759 q760 q761 (zrm_ok hR (by decide)) (ct_X9_kindIn hkh h3) (zrec_Tokens hX hkh) dX9_countKinds_19 rfl rfl ?_
      refine z_iconst hX dX9_countKinds_22 ci_m1 ?_
      refine z_icmp_ne hX 28 dX9_countKinds_23 (by decide) (fun h4 => ?_) (fun h4 => ?_)
      · replace hf := zif_neg h4 hf
        refine z_iincc (lv' := [(2, .int (v2 + 1)), (0, .ref (zB X + h)), (1, .int v1)]) hX dX9_countKinds_28 hn (by decide) 2 rfl ci_1 rfl ?_
        refine z_goto hX 12 dX9_countKinds_31 (by decide) ?_
        refine zW.sub [1, 2, 0] rfl ?_
        exact ih (v2 + 1) hf
      · replace hf := zif_pos h4 hf
        refine z_iconst hX dX9_countKinds_26 ci_0 ?_
        obtain rfl := Option.some.inj hf
        exact z_iret hX hr rfl (zl rfl) (zl rfl) dX9_countKinds_27
set_option maxHeartbeats 4000000 in
set_option maxRecDepth 100000 in
theorem fX9_countKinds_ok {X : zX} (hX : zCX X cX9_countKinds RX9) (hT : zNT X) (hR : X.2.2.2.1 = zrm 1 0) (hr : X.2.2.2.2.2.2.2.2.1.sig.returnType = (some .int)) (hn : X.2.2.2.2.2.2.2.2.2.1.maxLocals = 3) {h : Nat} (hkh : zK h = 8) {g : zM} {r : Int32} (hf : fX9_countKinds h g = some r) : zW X (zQ X (.inl (some (.int r), g)) 0) 0 0 0 [(0, .ref (zB X + h))] [] g := by
  unfold fX9_countKinds at hf
  refine z_aload_n hX dX9_countKinds_0 0 rfl ?_
  refine gf_Tokens_lengths hX hkh q342 dX9_countKinds_1 ?_
  refine z_aload_n hX dX9_countKinds_4 0 rfl ?_
  refine gf_Tokens_at hX hkh q345 dX9_countKinds_5 ?_
  replace hf := zchk_some hf
  obtain ⟨h1, hf⟩ := hf
  refine z_iald hX (zk_Tokens_lengths hkh) (by decide) (zc_1401 _ _ _) h1 dX9_countKinds_8 ?_
  refine z_istore_n (lv' := [(1, .int (g (h + 4) (g h 6).toNatClampNeg)), (0, .ref (zB X + h))]) hX dX9_countKinds_9 hn (by decide) rfl ?_
  refine z_iconst hX dX9_countKinds_10 ci_0 ?_
  refine z_istore_n (lv' := [(2, .int 0), (1, .int (g (h + 4) (g h 6).toNatClampNeg)), (0, .ref (zB X + h))]) hX dX9_countKinds_11 hn (by decide) rfl ?_
  refine zW.sub [2, 1, 0] rfl ?_
  refine fX9_countKinds_L12_ok hX hT hR hr hn hkh (fun hf => ?_) zFU 0 hf
  · refine z_iload_n hX dX9_countKinds_34 0 rfl ?_
    refine z_bipush hX dX9_countKinds_35 cb_24 ?_
    refine z_icmp_gt hX 44 dX9_countKinds_37 (by decide) (fun h6 => ?_) (fun h6 => ?_)
    · replace hf := zif_pos h6 hf
      refine z_iconst hX dX9_countKinds_44 ci_0 ?_
      obtain rfl := Option.some.inj hf
      exact z_iret hX hr rfl (zl rfl) (zl rfl) dX9_countKinds_45
    · replace hf := zif_neg h6 hf
      refine z_iload_n hX dX9_countKinds_40 0 rfl ?_
      refine z_goto hX 45 dX9_countKinds_41 (by decide) ?_
      obtain rfl := Option.some.inj hf
      exact z_iret hX hr rfl (zl rfl) (zl rfl) dX9_countKinds_45
set_option maxHeartbeats 4000000 in
set_option maxRecDepth 100000 in
theorem ct_X9_countKinds {E : zE} {h : Nat} (hkh : zK h = 8) {g : zM} {r : Int32} (hf : fX9_countKinds h g = some r) : zCt yX9_countKinds cX9_countKinds 3 (some .int) 1 0 E [.ref (E.1 + h)] g (.inl (some (.int r), g)) := by
  refine zmet (by decide) (zl rfl) (fun X hE hX hT hR hr hn => ?_)
  subst hE
  exact fX9_countKinds_ok hX hT hR hr hn hkh hf
def fX3_begin (h : Nat) (v1 : Int32) (v2 : Int32) (g : zM) : Option zM := zput g h 2 0 (fun g1 => zput g1 h 4 v1 (fun g2 => zput g2 h 3 v2 (fun g3 => zput g3 h 5 0 (fun g4 => zput g4 h 6 0 (fun g5 => some g5)))))
set_option maxHeartbeats 4000000 in
set_option maxRecDepth 100000 in
theorem fX3_begin_ok {X : zX} (hX : zCX X cX3_begin RX3) (hT : zNT X) (hR : X.2.2.2.1 = zrm 0 0) (hr : X.2.2.2.2.2.2.2.2.1.sig.returnType = none) (hn : X.2.2.2.2.2.2.2.2.2.1.maxLocals = 3) {h : Nat} {v1 : Int32} {v2 : Int32} (hkh : zK h = 3) {g : zM} {r : zM} (hf : fX3_begin h v1 v2 g = some r) : zW X (zQ X (.inl (none, r)) 0) 0 0 0 [(0, .ref (zB X + h)), (1, .int v1), (2, .int v2)] [] g := by
  unfold fX3_begin at hf
  refine z_aload_n hX dX3_begin_0 0 rfl ?_
  refine z_iconst hX dX3_begin_1 ci_0 ?_
  replace hf := zput_some hf
  obtain ⟨g1, eg1, hf⟩ := hf
  refine gp_Mail_lines hX hkh q173 dX3_begin_2 (zW.eqg eg1 ?_)
  refine z_aload_n hX dX3_begin_5 0 rfl ?_
  refine z_iload_n hX dX3_begin_6 1 rfl ?_
  replace hf := zput_some hf
  obtain ⟨g2, eg2, hf⟩ := hf
  refine gp_Mail_sender hX hkh q181 dX3_begin_7 (zW.eqg eg2 ?_)
  refine z_aload_n hX dX3_begin_10 0 rfl ?_
  refine z_iload_n hX dX3_begin_11 2 rfl ?_
  replace hf := zput_some hf
  obtain ⟨g3, eg3, hf⟩ := hf
  refine gp_Mail_temper hX hkh q178 dX3_begin_12 (zW.eqg eg3 ?_)
  refine z_aload_n hX dX3_begin_15 0 rfl ?_
  refine z_iconst hX dX3_begin_16 ci_0 ?_
  replace hf := zput_some hf
  obtain ⟨g4, eg4, hf⟩ := hf
  refine gp_Mail_open hX hkh q184 (Or.inl rfl) dX3_begin_17 (zW.eqg eg4 ?_)
  refine z_aload_n hX dX3_begin_20 0 rfl ?_
  refine z_iconst hX dX3_begin_21 ci_0 ?_
  replace hf := zput_some hf
  obtain ⟨g5, eg5, hf⟩ := hf
  refine gp_Mail_hot hX hkh q189 (Or.inl rfl) dX3_begin_22 (zW.eqg eg5 ?_)
  obtain rfl := Option.some.inj hf
  exact z_vret hX hr (zl rfl) (zl rfl) dX3_begin_25
set_option maxHeartbeats 4000000 in
set_option maxRecDepth 100000 in
theorem ct_X3_begin {E : zE} {h : Nat} {v1 : Int32} {v2 : Int32} (hkh : zK h = 3) {g : zM} {r : zM} (hf : fX3_begin h v1 v2 g = some r) : zCt yX3_begin cX3_begin 3 none 0 0 E [.ref (E.1 + h), .int v1, .int v2] g (.inl (none, r)) := by
  refine zmet (by decide) (zl rfl) (fun X hE hX hT hR hr hn => ?_)
  subst hE
  exact fX3_begin_ok hX hT hR hr hn hkh hf
def fX3_add (h : Nat) (v1 : Int32) (v2 : Int32) (g : zM) : Option zM := if 24 ≤ (g h 2) then some g else zchk (g h 2) 24 (zput g (h + 1) (g h 2).toNatClampNeg v1 (fun g3 => zchk (g3 h 2) 24 (zput g3 (h + 2) (g3 h 2).toNatClampNeg v2 (fun g5 => zput g5 h 2 ((g5 h 2) + 1) (fun g6 => some g6)))))
set_option maxHeartbeats 4000000 in
set_option maxRecDepth 100000 in
theorem fX3_add_ok {X : zX} (hX : zCX X cX3_add RX3) (hT : zNT X) (hR : X.2.2.2.1 = zrm 0 0) (hr : X.2.2.2.2.2.2.2.2.1.sig.returnType = none) (hn : X.2.2.2.2.2.2.2.2.2.1.maxLocals = 3) {h : Nat} {v1 : Int32} {v2 : Int32} (hkh : zK h = 3) {g : zM} {r : zM} (hf : fX3_add h v1 v2 g = some r) : zW X (zQ X (.inl (none, r)) 0) 0 0 0 [(0, .ref (zB X + h)), (1, .int v1), (2, .int v2)] [] g := by
  unfold fX3_add at hf
  refine z_aload_n hX dX3_add_0 0 rfl ?_
  refine gf_Mail_lines hX hkh q173 dX3_add_1 ?_
  refine z_bipush hX dX3_add_4 cb_24 ?_
  refine z_icmp_ge hX 39 dX3_add_6 (by decide) (fun h1 => ?_) (fun h1 => ?_)
  · replace hf := zif_pos h1 hf
    obtain rfl := Option.some.inj hf
    exact z_vret hX hr (zl rfl) (zl rfl) dX3_add_39
  · replace hf := zif_neg h1 hf
    refine z_aload_n hX dX3_add_9 0 rfl ?_
    refine gf_Mail_kinds hX hkh q170 dX3_add_10 ?_
    refine z_aload_n hX dX3_add_13 0 rfl ?_
    refine gf_Mail_lines hX hkh q173 dX3_add_14 ?_
    refine z_iload_n hX dX3_add_17 1 rfl ?_
    replace hf := zchk_some hf
    obtain ⟨h2, hf⟩ := hf
    replace hf := zput_some hf
    obtain ⟨g3, eg3, hf⟩ := hf
    refine z_iast hX (zk_Mail_kinds hkh) (by decide) (zc_1024 _ _) h2 dX3_add_18 (zW.eqg eg3 ?_)
    refine z_aload_n hX dX3_add_19 0 rfl ?_
    refine gf_Mail_weeks hX hkh q172 dX3_add_20 ?_
    refine z_aload_n hX dX3_add_23 0 rfl ?_
    refine gf_Mail_lines hX hkh q173 dX3_add_24 ?_
    refine z_iload_n hX dX3_add_27 2 rfl ?_
    replace hf := zchk_some hf
    obtain ⟨h4, hf⟩ := hf
    replace hf := zput_some hf
    obtain ⟨g5, eg5, hf⟩ := hf
    refine z_iast hX (zk_Mail_weeks hkh) (by decide) (zc_1024 _ _) h4 dX3_add_28 (zW.eqg eg5 ?_)
    refine z_aload_n hX dX3_add_29 0 rfl ?_
    refine z_dup hX dX3_add_30 rfl ?_
    refine gf_Mail_lines hX hkh q173 dX3_add_31 ?_
    refine z_iconst hX dX3_add_34 ci_1 ?_
    refine z_iadd hX dX3_add_35 ?_
    replace hf := zput_some hf
    obtain ⟨g6, eg6, hf⟩ := hf
    refine gp_Mail_lines hX hkh q173 dX3_add_36 (zW.eqg eg6 ?_)
    obtain rfl := Option.some.inj hf
    exact z_vret hX hr (zl rfl) (zl rfl) dX3_add_39
set_option maxHeartbeats 4000000 in
set_option maxRecDepth 100000 in
theorem ct_X3_add {E : zE} {h : Nat} {v1 : Int32} {v2 : Int32} (hkh : zK h = 3) {g : zM} {r : zM} (hf : fX3_add h v1 v2 g = some r) : zCt yX3_add cX3_add 3 none 0 0 E [.ref (E.1 + h), .int v1, .int v2] g (.inl (none, r)) := by
  refine zmet (by decide) (zl rfl) (fun X hE hX hT hR hr hn => ?_)
  subst hE
  exact fX3_add_ok hX hT hR hr hn hkh hf
def fX5_readLetter_L153 (v3 : Int32) (r4 : Nat) (k189 : zM → Option (Int32 × zM)) : Nat → Int32 → zM → Option (Int32 × zM)
  | 0, _, _ => none
  | n + 1, v5, g => if v3 ≤ v5 then k189 g else zb (fX9_kindIn 391 v5 g) (fun r_14 => zb (fX3_add r4 r_14 (g 397 2) g) (fun g15 => fX5_readLetter_L153 v3 r4 k189 n (v5 + 1) g15))
def fX5_readLetter (g : zM) : Option (Int32 × zM) := if (g 397 1) < 8 then zb (fX9_step 391 g) (fun g2 => zb2 (fX9_pass 391 1014 g2) (fun r_3 g3 => zjoin (fun t0_4 g4 => if t0_4 = ((-1)) then some (0, g4) else zb2 (fX9_pass 391 1003 g4) (fun r_6 g6 => zjoin (fun t0_7 g7 => if t0_7 = ((-1)) then some (0, g7) else zb (fX9_countKinds 391 g7) (fun r_9 => if r_9 = 0 then zb2 (fX9_fail 391 g7) (fun r_19 g19 => zbo r_19 (some (r_19, g19))) else zchk (g7 397 1) 8 (zb (fX3_begin (398 + 1 + 3 * (g7 397 1).toNatClampNeg) t0_4 t0_7 g7) (fun g12 => fX5_readLetter_L153 r_9 (398 + 1 + 3 * (g7 397 1).toNatClampNeg) (fun g16 => zput g16 397 1 ((g16 397 1) + 1) (fun g17 => zb (fX9_step 391 g17) (fun g18 => some (1, g18)))) zFU 0 g12))) : Int32 → zM → Option (Int32 × zM)) (fun k92 => if r_6 = 0 then k92 ((-1)) g6 else zb2 (fX9_takeNumber 391 0 9 g6) (fun r_22 g22 => k92 r_22 g22))) : Int32 → zM → Option (Int32 × zM)) (fun k57 => if r_3 = 0 then k57 ((-1)) g3 else zb2 (fX9_takeNumber 391 0 9 g3) (fun r_24 g24 => k57 r_24 g24)))) else zb2 (fX9_fail 391 g) (fun r_25 g25 => zbo r_25 (some (r_25, g25)))
set_option maxHeartbeats 4000000 in
set_option maxRecDepth 100000 in
theorem fX5_readLetter_L153_ok {X : zX} (hX : zCX X cX5_readLetter RX5) (hT : zNT X) (hR : X.2.2.2.1 = zrm 2 0) (hr : X.2.2.2.2.2.2.2.2.1.sig.returnType = (some .boolean)) (hn : X.2.2.2.2.2.2.2.2.2.1.maxLocals = 6) {v3 : Int32} {r4 : Nat} (hkr4 : zK r4 = 3) {k189 : zM → Option (Int32 × zM)} {r : Int32 × zM} (hk189 : ∀ (g : zM), k189 g = some r → zW X (zQ X (.inl (some (.int r.1), r.2)) 0) 0 0 189 [(0, .ref (zB X + 390))] [] g) : ∀ (n : Nat) (v5 : Int32) (g : zM), fX5_readLetter_L153 v3 r4 k189 n v5 g = some r → zW X (zQ X (.inl (some (.int r.1), r.2)) 0) 0 0 153 [(0, .ref (zB X + 390)), (3, .int v3), (4, .ref (zB X + r4)), (5, .int v5)] [] g := by
  intro n
  induction n with
  | zero => intro v5 g hf; exact zno hf
  | succ n ih =>
    intro v5 g hf
    rw [fX5_readLetter_L153] at hf
    refine z_iload hX dX5_readLetter_153 3 rfl ?_
    refine z_iload_n hX dX5_readLetter_155 1 rfl ?_
    refine z_icmp_ge hX 189 dX5_readLetter_156 (by decide) (fun h13 => ?_) (fun h13 => ?_)
    · replace hf := zif_pos h13 hf
      refine zW.sub [0] rfl ?_
      exact hk189 g hf
    · replace hf := zif_neg h13 hf
      refine z_aload hX dX5_readLetter_159 2 rfl ?_
      refine z_aload_n hX dX5_readLetter_161 0 rfl ?_
      refine gf_PostReader_tokens hX zq_390 q372 (z_same hX q373) dX5_readLetter_162 ?_
      refine z_iload hX dX5_readLetter_165 3 rfl ?_
      replace hf := zb_some hf
      obtain ⟨r_14, h14, hf⟩ := hf
      refine z_callV1 hX ok_X9_kindIn q826 q760 q761 (zrm_ok hR (by decide)) (ct_X9_kindIn zq_391 h14) (zrec_Tokens hX zq_391) dX5_readLetter_167 rfl rfl ?_
      refine z_aload_n hX dX5_readLetter_170 0 rfl ?_
      refine gf_PostReader_draft hX zq_390 q367 dX5_readLetter_171 ?_
      refine gf_World_bag_N hX zq_396 qn272 dX5_readLetter_174 ?_
      refine gf_Bag_week_N hX zq_397 qn218 dX5_readLetter_177 ?_
      replace hf := zb_some hf
      obtain ⟨g15, h15, hf⟩ := hf
      refine z_callV0 hX ok_X3_add q827 q553 q554 (zrm_ok hR (by decide)) (ct_X3_add hkr4 h15) (zrec_Mail hX hkr4) dX5_readLetter_180 rfl rfl ?_
      refine z_iincc (lv' := [(5, .int (v5 + 1)), (0, .ref (zB X + 390)), (3, .int v3), (4, .ref (zB X + r4))]) hX dX5_readLetter_183 hn (by decide) 3 rfl ci_1 rfl ?_
      refine z_goto hX 153 dX5_readLetter_186 (by decide) ?_
      refine zW.sub [1, 2, 3, 0] rfl ?_
      exact ih (v5 + 1) g15 hf
set_option maxHeartbeats 4000000 in
set_option maxRecDepth 100000 in
theorem fX5_readLetter_ok {X : zX} (hX : zCX X cX5_readLetter RX5) (hT : zNT X) (hR : X.2.2.2.1 = zrm 2 0) (hr : X.2.2.2.2.2.2.2.2.1.sig.returnType = (some .boolean)) (hn : X.2.2.2.2.2.2.2.2.2.1.maxLocals = 6)  {g : zM} {r : Int32 × zM} (hf : fX5_readLetter g = some r) : zW X (zQ X (.inl (some (.int r.1), r.2)) 0) 0 0 0 [(0, .ref (zB X + 390))] [] g := by
  unfold fX5_readLetter at hf
  refine z_aload_n hX dX5_readLetter_0 0 rfl ?_
  refine gf_PostReader_draft hX zq_390 q367 dX5_readLetter_1 ?_
  refine gf_World_bag_N hX zq_396 qn272 dX5_readLetter_4 ?_
  refine gf_Bag_size_N hX zq_397 qn215 dX5_readLetter_7 ?_
  refine z_bipush hX dX5_readLetter_10 cb_8 ?_
  refine z_icmp_lt hX 23 dX5_readLetter_12 (by decide) (fun h1 => ?_) (fun h1 => ?_)
  · replace hf := zif_pos h1 hf
    refine z_aload_n hX dX5_readLetter_23 0 rfl ?_
    refine gf_PostReader_tokens hX zq_390 q372 (z_same hX q373) dX5_readLetter_24 ?_
    replace hf := zb_some hf
    obtain ⟨g2, h2, hf⟩ := hf
    refine z_callV0 hX ok_X9_step q815 q768 q769 (zrm_ok hR (by decide)) (ct_X9_step zq_391 h2) (zrec_Tokens hX zq_391) dX5_readLetter_27 rfl rfl ?_
    refine z_aload_n hX dX5_readLetter_30 0 rfl ?_
    refine gf_PostReader_tokens hX zq_390 q372 (z_same hX q373) dX5_readLetter_31 ?_
    refine z_sipush hX dX5_readLetter_34 cs_1014 ?_
    replace hf := zb2_some hf
    obtain ⟨r_3, g3, h3, hf⟩ := hf
    refine z_callV1 hX ok_X9_pass q816 q772 q773 (zrm_ok hR (by decide)) (ct_X9_pass zq_391 h3) (zrec_Tokens hX zq_391) dX5_readLetter_37 rfl rfl ?_
    refine zjoin_ok (P := fun (k : Int32 → zM → Option (Int32 × zM)) => ∀ (t0_4 : Int32) (g4 : zM), k t0_4 g4 = some r → zW X (zQ X (.inl (some (.int r.1), r.2)) 0) 0 0 57 [(0, .ref (zB X + 390))] [.int t0_4] g4) hf (fun t0_4 g4 hf => ?_) (fun k57 hk57 hf => ?_)
    · refine z_istore_n (lv' := [(1, .int t0_4), (0, .ref (zB X + 390))]) hX dX5_readLetter_57 hn (by decide) rfl ?_
      refine z_iload_n hX dX5_readLetter_58 0 rfl ?_
      refine z_iconst hX dX5_readLetter_59 ci_m1 ?_
      refine z_icmp_ne hX 65 dX5_readLetter_60 (by decide) (fun h5 => ?_) (fun h5 => ?_)
      · replace hf := zif_neg h5 hf
        refine z_aload_n hX dX5_readLetter_65 1 rfl ?_
        refine gf_PostReader_tokens hX zq_390 q372 (z_same hX q373) dX5_readLetter_66 ?_
        refine z_sipush hX dX5_readLetter_69 cs_1003 ?_
        replace hf := zb2_some hf
        obtain ⟨r_6, g6, h6, hf⟩ := hf
        refine z_callV1 hX ok_X9_pass q816 q772 q773 (zrm_ok hR (by decide)) (ct_X9_pass zq_391 h6) (zrec_Tokens hX zq_391) dX5_readLetter_72 rfl rfl ?_
        refine zjoin_ok (P := fun (k : Int32 → zM → Option (Int32 × zM)) => ∀ (t0_7 : Int32) (g7 : zM), k t0_7 g7 = some r → zW X (zQ X (.inl (some (.int r.1), r.2)) 0) 0 0 92 [(0, .ref (zB X + 390)), (1, .int t0_4)] [.int t0_7] g7) hf (fun t0_7 g7 hf => ?_) (fun k92 hk92 hf => ?_)
        · refine z_istore_n (lv' := [(2, .int t0_7), (0, .ref (zB X + 390)), (1, .int t0_4)]) hX dX5_readLetter_92 hn (by decide) rfl ?_
          refine z_iload_n hX dX5_readLetter_93 0 rfl ?_
          refine z_iconst hX dX5_readLetter_94 ci_m1 ?_
          refine z_icmp_ne hX 100 dX5_readLetter_95 (by decide) (fun h8 => ?_) (fun h8 => ?_)
          · replace hf := zif_neg h8 hf
            refine z_aload_n hX dX5_readLetter_100 1 rfl ?_
            refine gf_PostReader_tokens hX zq_390 q372 (z_same hX q373) dX5_readLetter_101 ?_
            replace hf := zb_some hf
            obtain ⟨r_9, h9, hf⟩ := hf
            refine z_callV1 hX ok_X9_countKinds q821 q756 q757 (zrm_ok hR (by decide)) (ct_X9_countKinds zq_391 h9) (zrec_Tokens hX zq_391) dX5_readLetter_104 rfl rfl ?_
            refine z_istore_n (lv' := [(3, .int r_9), (2, .int t0_7), (0, .ref (zB X + 390)), (1, .int t0_4)]) hX dX5_readLetter_107 hn (by decide) rfl ?_
            refine z_iload_n hX dX5_readLetter_108 0 rfl ?_
            refine z_if_ne hX 120 dX5_readLetter_109 (by decide) (fun h10 => ?_) (fun h10 => ?_)
            · replace hf := zif_neg h10 hf
              refine z_aload_n hX dX5_readLetter_120 2 rfl ?_
              refine gf_PostReader_draft hX zq_390 q367 dX5_readLetter_121 ?_
              refine gf_World_bag_N hX zq_396 qn272 dX5_readLetter_124 ?_
              refine gf_Bag_mails_N hX zq_397 qn212 dX5_readLetter_127 ?_
              refine z_aload_n hX dX5_readLetter_130 2 rfl ?_
              refine gf_PostReader_draft hX zq_390 q367 dX5_readLetter_131 ?_
              refine gf_World_bag_N hX zq_396 qn272 dX5_readLetter_134 ?_
              refine gf_Bag_size_N hX zq_397 qn215 dX5_readLetter_137 ?_
              replace hf := zchk_some hf
              obtain ⟨h11, hf⟩ := hf
              refine z_aald_mail hX zq_398 h11 dX5_readLetter_140 ?_
              refine z_astore (lv' := [(4, .ref (zB X + (398 + 1 + 3 * (g7 397 1).toNatClampNeg))), (3, .int r_9), (2, .int t0_7), (0, .ref (zB X + 390)), (1, .int t0_4)]) hX dX5_readLetter_141 hn (by decide) rfl ?_
              refine z_aload hX dX5_readLetter_143 0 rfl ?_
              refine z_iload_n hX dX5_readLetter_145 4 rfl ?_
              refine z_iload_n hX dX5_readLetter_146 2 rfl ?_
              replace hf := zb_some hf
              obtain ⟨g12, h12, hf⟩ := hf
              refine z_callV0 hX ok_X3_begin q822 q823 q824 (zrm_ok hR (by decide)) (ct_X3_begin (zk_el22 zq_398 h11) h12) (zrec_Mail hX (zk_el22 zq_398 h11)) dX5_readLetter_147 rfl rfl ?_
              refine z_iconst hX dX5_readLetter_150 ci_0 ?_
              refine z_istore (lv' := [(5, .int 0), (4, .ref (zB X + (398 + 1 + 3 * (g7 397 1).toNatClampNeg))), (3, .int r_9), (2, .int t0_7), (0, .ref (zB X + 390)), (1, .int t0_4)]) hX dX5_readLetter_151 hn (by decide) rfl ?_
              refine zW.sub [4, 2, 1, 0] rfl ?_
              refine fX5_readLetter_L153_ok hX hT hR hr hn (zk_el22 zq_398 h11) (fun g16 hf => ?_) zFU 0 g12 hf
              · refine z_aload_n hX dX5_readLetter_189 0 rfl ?_
                refine gf_PostReader_draft hX zq_390 q367 dX5_readLetter_190 ?_
                refine gf_World_bag_N hX zq_396 qn272 dX5_readLetter_193 ?_
                refine z_dup hX dX5_readLetter_196 rfl ?_
                refine gf_Bag_size_N hX zq_397 qn215 dX5_readLetter_197 ?_
                refine z_iconst hX dX5_readLetter_200 ci_1 ?_
                refine z_iadd hX dX5_readLetter_201 ?_
                replace hf := zput_some hf
                obtain ⟨g17, eg17, hf⟩ := hf
                refine gp_Bag_size_N hX zq_397 qn215 dX5_readLetter_202 (zW.eqg eg17 ?_)
                refine z_aload_n hX dX5_readLetter_205 0 rfl ?_
                refine gf_PostReader_tokens hX zq_390 q372 (z_same hX q373) dX5_readLetter_206 ?_
                replace hf := zb_some hf
                obtain ⟨g18, h18, hf⟩ := hf
                refine z_callV0 hX ok_X9_step q815 q768 q769 (zrm_ok hR (by decide)) (ct_X9_step zq_391 h18) (zrec_Tokens hX zq_391) dX5_readLetter_209 rfl rfl ?_
                refine z_iconst hX dX5_readLetter_212 ci_1 ?_
                obtain rfl := Option.some.inj hf
                exact z_iret hX hr (zbn (Or.inr rfl)) (zl rfl) (zl rfl) dX5_readLetter_213
            · replace hf := zif_pos h10 hf
              refine z_aload_n hX dX5_readLetter_112 2 rfl ?_
              refine gf_PostReader_tokens hX zq_390 q372 (z_same hX q373) dX5_readLetter_113 ?_
              replace hf := zb2_some hf
              obtain ⟨r_19, g19, h19, hf⟩ := hf
              refine z_callV1 hX ok_X9_fail q814 q764 q765 (zrm_ok hR (by decide)) (ct_X9_fail zq_391 h19) (zrec_Tokens hX zq_391) dX5_readLetter_116 rfl rfl ?_
              replace hf := zbo_some hf
              obtain ⟨h20, hf⟩ := hf
              obtain rfl := Option.some.inj hf
              exact z_iret hX hr (zbn h20) (zl rfl) (zl rfl) dX5_readLetter_119
          · replace hf := zif_pos h8 hf
            refine z_iconst hX dX5_readLetter_98 ci_0 ?_
            obtain rfl := Option.some.inj hf
            exact z_iret hX hr (zbn (Or.inl rfl)) (zl rfl) (zl rfl) dX5_readLetter_99
        · refine z_if_eq hX 91 dX5_readLetter_75 (by decide) (fun h21 => ?_) (fun h21 => ?_)
          · replace hf := zif_pos h21 hf
            refine z_iconst hX dX5_readLetter_91 ci_m1 ?_
            refine zW.sub [1, 0] rfl ?_
            exact hk92 ((-1)) g6 hf
          · replace hf := zif_neg h21 hf
            refine z_aload_n hX dX5_readLetter_78 1 rfl ?_
            refine gf_PostReader_tokens hX zq_390 q372 (z_same hX q373) dX5_readLetter_79 ?_
            refine z_iconst hX dX5_readLetter_82 ci_0 ?_
            refine z_bipush hX dX5_readLetter_83 cb_9 ?_
            replace hf := zb2_some hf
            obtain ⟨r_22, g22, h22, hf⟩ := hf
            refine z_callV1 hX ok_X9_takeNumber q817 q818 q819 (zrm_ok hR (by decide)) (ct_X9_takeNumber zq_391 h22) (zrec_Tokens hX zq_391) dX5_readLetter_85 rfl rfl ?_
            refine z_goto hX 92 dX5_readLetter_88 (by decide) ?_
            refine zW.sub [1, 0] rfl ?_
            exact hk92 r_22 g22 hf
      · replace hf := zif_pos h5 hf
        refine z_iconst hX dX5_readLetter_63 ci_0 ?_
        obtain rfl := Option.some.inj hf
        exact z_iret hX hr (zbn (Or.inl rfl)) (zl rfl) (zl rfl) dX5_readLetter_64
    · refine z_if_eq hX 56 dX5_readLetter_40 (by decide) (fun h23 => ?_) (fun h23 => ?_)
      · replace hf := zif_pos h23 hf
        refine z_iconst hX dX5_readLetter_56 ci_m1 ?_
        exact hk57 ((-1)) g3 hf
      · replace hf := zif_neg h23 hf
        refine z_aload_n hX dX5_readLetter_43 0 rfl ?_
        refine gf_PostReader_tokens hX zq_390 q372 (z_same hX q373) dX5_readLetter_44 ?_
        refine z_iconst hX dX5_readLetter_47 ci_0 ?_
        refine z_bipush hX dX5_readLetter_48 cb_9 ?_
        replace hf := zb2_some hf
        obtain ⟨r_24, g24, h24, hf⟩ := hf
        refine z_callV1 hX ok_X9_takeNumber q817 q818 q819 (zrm_ok hR (by decide)) (ct_X9_takeNumber zq_391 h24) (zrec_Tokens hX zq_391) dX5_readLetter_50 rfl rfl ?_
        refine z_goto hX 57 dX5_readLetter_53 (by decide) ?_
        exact hk57 r_24 g24 hf
  · replace hf := zif_neg h1 hf
    refine z_aload_n hX dX5_readLetter_15 0 rfl ?_
    refine gf_PostReader_tokens hX zq_390 q372 (z_same hX q373) dX5_readLetter_16 ?_
    replace hf := zb2_some hf
    obtain ⟨r_25, g25, h25, hf⟩ := hf
    refine z_callV1 hX ok_X9_fail q814 q764 q765 (zrm_ok hR (by decide)) (ct_X9_fail zq_391 h25) (zrec_Tokens hX zq_391) dX5_readLetter_19 rfl rfl ?_
    replace hf := zbo_some hf
    obtain ⟨h26, hf⟩ := hf
    obtain rfl := Option.some.inj hf
    exact z_iret hX hr (zbn h26) (zl rfl) (zl rfl) dX5_readLetter_22
set_option maxHeartbeats 4000000 in
set_option maxRecDepth 100000 in
theorem ct_X5_readLetter {E : zE} {g : zM} {r : Int32 × zM} (hf : fX5_readLetter g = some r) : zCt yX5_readLetter cX5_readLetter 6 (some .boolean) 2 0 E [.ref (E.1 + 390)] g (.inl (some (.int r.1), r.2)) := by
  refine zmet (by decide) (zl rfl) (fun X hE hX hT hR hr hn => ?_)
  subst hE
  exact fX5_readLetter_ok hX hT hR hr hn  hf
def fX9_takeKind (h : Nat) (g : zM) : Option (Int32 × zM) := zb (fX9_countKinds h g) (fun r_1 => if r_1 = 1 then zb (fX9_kindIn h 0 g) (fun r_3 => zb (fX9_step h g) (fun g4 => some (r_3, g4))) else zb2 (fX9_fail h g) (fun r_5 g5 => some ((-1), g5)))
set_option maxHeartbeats 4000000 in
set_option maxRecDepth 100000 in
theorem fX9_takeKind_ok {X : zX} (hX : zCX X cX9_takeKind RX9) (hT : zNT X) (hR : X.2.2.2.1 = zrm 2 0) (hr : X.2.2.2.2.2.2.2.2.1.sig.returnType = (some .int)) (hn : X.2.2.2.2.2.2.2.2.2.1.maxLocals = 2) {h : Nat} (hkh : zK h = 8) {g : zM} {r : Int32 × zM} (hf : fX9_takeKind h g = some r) : zW X (zQ X (.inl (some (.int r.1), r.2)) 0) 0 0 0 [(0, .ref (zB X + h))] [] g := by
  unfold fX9_takeKind at hf
  refine z_aload_n hX dX9_takeKind_0 0 rfl ?_
  replace hf := zb_some hf
  obtain ⟨r_1, h1, hf⟩ := hf
  refine z_callV1 hX ok_X9_countKinds q755 q756 q757 (zrm_ok hR (by decide)) (ct_X9_countKinds hkh h1) (zrec_Tokens hX hkh) dX9_takeKind_1 rfl rfl ?_
  refine z_iconst hX dX9_takeKind_4 ci_1 ?_
  refine z_icmp_eq hX 15 dX9_takeKind_5 (by decide) (fun h2 => ?_) (fun h2 => ?_)
  · replace hf := zif_pos h2 hf
    refine z_aload_n hX dX9_takeKind_15 0 rfl ?_
    refine z_iconst hX dX9_takeKind_16 ci_0 ?_
    replace hf := zb_some hf
    obtain ⟨r_3, h3, hf⟩ := hf
    refine z_callV1 hX ok_X9_kindIn q759 q760 q761 (zrm_ok hR (by decide)) (ct_X9_kindIn hkh h3) (zrec_Tokens hX hkh) dX9_takeKind_17 rfl rfl ?_
    refine z_istore_n (lv' := [(1, .int r_3), (0, .ref (zB X + h))]) hX dX9_takeKind_20 hn (by decide) rfl ?_
    refine z_aload_n hX dX9_takeKind_21 1 rfl ?_
    replace hf := zb_some hf
    obtain ⟨g4, h4, hf⟩ := hf
    refine z_callV0 hX ok_X9_step q767 q768 q769 (zrm_ok hR (by decide)) (ct_X9_step hkh h4) (zrec_Tokens hX hkh) dX9_takeKind_22 rfl rfl ?_
    refine z_iload_n hX dX9_takeKind_25 0 rfl ?_
    obtain rfl := Option.some.inj hf
    exact z_iret hX hr rfl (zl rfl) (zl rfl) dX9_takeKind_26
  · replace hf := zif_neg h2 hf
    refine z_aload_n hX dX9_takeKind_8 0 rfl ?_
    replace hf := zb2_some hf
    obtain ⟨r_5, g5, h5, hf⟩ := hf
    refine z_callV1 hX ok_X9_fail q763 q764 q765 (zrm_ok hR (by decide)) (ct_X9_fail hkh h5) (zrec_Tokens hX hkh) dX9_takeKind_9 rfl rfl ?_
    refine z_pop hX dX9_takeKind_12 rfl ?_
    refine z_iconst hX dX9_takeKind_13 ci_m1 ?_
    obtain rfl := Option.some.inj hf
    exact z_iret hX hr rfl (zl rfl) (zl rfl) dX9_takeKind_14
set_option maxHeartbeats 4000000 in
set_option maxRecDepth 100000 in
theorem ct_X9_takeKind {E : zE} {h : Nat} (hkh : zK h = 8) {g : zM} {r : Int32 × zM} (hf : fX9_takeKind h g = some r) : zCt yX9_takeKind cX9_takeKind 2 (some .int) 2 0 E [.ref (E.1 + h)] g (.inl (some (.int r.1), r.2)) := by
  refine zmet (by decide) (zl rfl) (fun X hE hX hT hR hr hn => ?_)
  subst hE
  exact fX9_takeKind_ok hX hT hR hr hn hkh hf
def fX10_setWords (h : Nat) (v1 : Int32) (v2 : Int32) (g : zM) : Option zM := if v1 < 0 then some g else if 12 ≤ v1 then some g else zchk v1 12 (zput g (h + 34) v1.toNatClampNeg v2 (fun g4 => some g4))
set_option maxHeartbeats 4000000 in
set_option maxRecDepth 100000 in
theorem fX10_setWords_ok {X : zX} (hX : zCX X cX10_setWords RX10) (hT : zNT X) (hR : X.2.2.2.1 = zrm 0 0) (hr : X.2.2.2.2.2.2.2.2.1.sig.returnType = none) (hn : X.2.2.2.2.2.2.2.2.2.1.maxLocals = 3) {h : Nat} {v1 : Int32} {v2 : Int32} (hkh : zK h = 9) {g : zM} {r : zM} (hf : fX10_setWords h v1 v2 g = some r) : zW X (zQ X (.inl (none, r)) 0) 0 0 0 [(0, .ref (zB X + h)), (1, .int v1), (2, .int v2)] [] g := by
  unfold fX10_setWords at hf
  refine z_iload_n hX dX10_setWords_0 1 rfl ?_
  refine z_if_lt hX 17 dX10_setWords_1 (by decide) (fun h1 => ?_) (fun h1 => ?_)
  · replace hf := zif_pos h1 hf
    obtain rfl := Option.some.inj hf
    exact z_vret hX hr (zl rfl) (zl rfl) dX10_setWords_17
  · replace hf := zif_neg h1 hf
    refine z_iload_n hX dX10_setWords_4 1 rfl ?_
    refine z_bipush hX dX10_setWords_5 cb_12 ?_
    refine z_icmp_ge hX 17 dX10_setWords_7 (by decide) (fun h2 => ?_) (fun h2 => ?_)
    · replace hf := zif_pos h2 hf
      obtain rfl := Option.some.inj hf
      exact z_vret hX hr (zl rfl) (zl rfl) dX10_setWords_17
    · replace hf := zif_neg h2 hf
      refine z_aload_n hX dX10_setWords_10 0 rfl ?_
      refine gf_World_words hX hkh q276 dX10_setWords_11 ?_
      refine z_iload_n hX dX10_setWords_14 1 rfl ?_
      refine z_iload_n hX dX10_setWords_15 2 rfl ?_
      replace hf := zchk_some hf
      obtain ⟨h3, hf⟩ := hf
      replace hf := zput_some hf
      obtain ⟨g4, eg4, hf⟩ := hf
      refine z_iast hX (zk_World_words hkh) (by decide) (zc_1012 _ _) h3 dX10_setWords_16 (zW.eqg eg4 ?_)
      obtain rfl := Option.some.inj hf
      exact z_vret hX hr (zl rfl) (zl rfl) dX10_setWords_17
set_option maxHeartbeats 4000000 in
set_option maxRecDepth 100000 in
theorem ct_X10_setWords {E : zE} {h : Nat} {v1 : Int32} {v2 : Int32} (hkh : zK h = 9) {g : zM} {r : zM} (hf : fX10_setWords h v1 v2 g = some r) : zCt yX10_setWords cX10_setWords 3 none 0 0 E [.ref (E.1 + h), .int v1, .int v2] g (.inl (none, r)) := by
  refine zmet (by decide) (zl rfl) (fun X hE hX hT hR hr hn => ?_)
  subst hE
  exact fX10_setWords_ok hX hT hR hr hn hkh hf
def fX5_readWords (g : zM) : Option (Int32 × zM) := zb (fX9_step 391 g) (fun g1 => zb2 (fX9_takeKind 391 g1) (fun r_2 g2 => zjoin (fun t0_3 g3 => if t0_3 = ((-1)) then some (0, g3) else zb (fX10_setWords 396 r_2 t0_3 g3) (fun g5 => some (1, g5)) : Int32 → zM → Option (Int32 × zM)) (fun k34 => if r_2 = ((-1)) then k34 ((-1)) g2 else zb2 (fX9_takeNumber 391 1 9 g2) (fun r_7 g7 => k34 r_7 g7))))
set_option maxHeartbeats 4000000 in
set_option maxRecDepth 100000 in
theorem fX5_readWords_ok {X : zX} (hX : zCX X cX5_readWords RX5) (hT : zNT X) (hR : X.2.2.2.1 = zrm 3 0) (hr : X.2.2.2.2.2.2.2.2.1.sig.returnType = (some .boolean)) (hn : X.2.2.2.2.2.2.2.2.2.1.maxLocals = 3)  {g : zM} {r : Int32 × zM} (hf : fX5_readWords g = some r) : zW X (zQ X (.inl (some (.int r.1), r.2)) 0) 0 0 0 [(0, .ref (zB X + 390))] [] g := by
  unfold fX5_readWords at hf
  refine z_aload_n hX dX5_readWords_0 0 rfl ?_
  refine gf_PostReader_tokens hX zq_390 q372 (z_same hX q373) dX5_readWords_1 ?_
  replace hf := zb_some hf
  obtain ⟨g1, h1, hf⟩ := hf
  refine z_callV0 hX ok_X9_step q815 q768 q769 (zrm_ok hR (by decide)) (ct_X9_step zq_391 h1) (zrec_Tokens hX zq_391) dX5_readWords_4 rfl rfl ?_
  refine z_aload_n hX dX5_readWords_7 0 rfl ?_
  refine gf_PostReader_tokens hX zq_390 q372 (z_same hX q373) dX5_readWords_8 ?_
  replace hf := zb2_some hf
  obtain ⟨r_2, g2, h2, hf⟩ := hf
  refine z_callV1 hX ok_X9_takeKind q832 q752 q753 (zrm_ok hR (by decide)) (ct_X9_takeKind zq_391 h2) (zrec_Tokens hX zq_391) dX5_readWords_11 rfl rfl ?_
  refine z_istore_n (lv' := [(1, .int r_2), (0, .ref (zB X + 390))]) hX dX5_readWords_14 hn (by decide) rfl ?_
  refine z_iload_n hX dX5_readWords_15 0 rfl ?_
  refine z_iconst hX dX5_readWords_16 ci_m1 ?_
  refine zjoin_ok (P := fun (k : Int32 → zM → Option (Int32 × zM)) => ∀ (t0_3 : Int32) (g3 : zM), k t0_3 g3 = some r → zW X (zQ X (.inl (some (.int r.1), r.2)) 0) 0 0 34 [(0, .ref (zB X + 390)), (1, .int r_2)] [.int t0_3] g3) hf (fun t0_3 g3 hf => ?_) (fun k34 hk34 hf => ?_)
  · refine z_istore_n (lv' := [(2, .int t0_3), (0, .ref (zB X + 390)), (1, .int r_2)]) hX dX5_readWords_34 hn (by decide) rfl ?_
    refine z_iload_n hX dX5_readWords_35 0 rfl ?_
    refine z_iconst hX dX5_readWords_36 ci_m1 ?_
    refine z_icmp_ne hX 42 dX5_readWords_37 (by decide) (fun h4 => ?_) (fun h4 => ?_)
    · replace hf := zif_neg h4 hf
      refine z_aload_n hX dX5_readWords_42 1 rfl ?_
      refine gf_PostReader_draft hX zq_390 q367 dX5_readWords_43 ?_
      refine z_iload_n hX dX5_readWords_46 2 rfl ?_
      refine z_iload_n hX dX5_readWords_47 0 rfl ?_
      replace hf := zb_some hf
      obtain ⟨g5, h5, hf⟩ := hf
      refine z_callV0 hX ok_X10_setWords q833 q834 q835 (zrm_ok hR (by decide)) (ct_X10_setWords zq_396 h5) (zrec_World hX zq_396) dX5_readWords_48 rfl rfl ?_
      refine z_iconst hX dX5_readWords_51 ci_1 ?_
      obtain rfl := Option.some.inj hf
      exact z_iret hX hr (zbn (Or.inr rfl)) (zl rfl) (zl rfl) dX5_readWords_52
    · replace hf := zif_pos h4 hf
      refine z_iconst hX dX5_readWords_40 ci_0 ?_
      obtain rfl := Option.some.inj hf
      exact z_iret hX hr (zbn (Or.inl rfl)) (zl rfl) (zl rfl) dX5_readWords_41
  · refine z_icmp_ne hX 24 dX5_readWords_17 (by decide) (fun h6 => ?_) (fun h6 => ?_)
    · replace hf := zif_neg h6 hf
      refine z_aload_n hX dX5_readWords_24 1 rfl ?_
      refine gf_PostReader_tokens hX zq_390 q372 (z_same hX q373) dX5_readWords_25 ?_
      refine z_iconst hX dX5_readWords_28 ci_1 ?_
      refine z_bipush hX dX5_readWords_29 cb_9 ?_
      replace hf := zb2_some hf
      obtain ⟨r_7, g7, h7, hf⟩ := hf
      refine z_callV1 hX ok_X9_takeNumber q817 q818 q819 (zrm_ok hR (by decide)) (ct_X9_takeNumber zq_391 h7) (zrec_Tokens hX zq_391) dX5_readWords_31 rfl rfl ?_
      refine zW.sub [1, 0] rfl ?_
      exact hk34 r_7 g7 hf
    · replace hf := zif_pos h6 hf
      refine z_iconst hX dX5_readWords_20 ci_m1 ?_
      refine z_goto hX 34 dX5_readWords_21 (by decide) ?_
      refine zW.sub [1, 0] rfl ?_
      exact hk34 ((-1)) g2 hf
set_option maxHeartbeats 4000000 in
set_option maxRecDepth 100000 in
theorem ct_X5_readWords {E : zE} {g : zM} {r : Int32 × zM} (hf : fX5_readWords g = some r) : zCt yX5_readWords cX5_readWords 3 (some .boolean) 3 0 E [.ref (E.1 + 390)] g (.inl (some (.int r.1), r.2)) := by
  refine zmet (by decide) (zl rfl) (fun X hE hX hT hR hr hn => ?_)
  subst hE
  exact fX5_readWords_ok hX hT hR hr hn  hf
def fX10_addPromise (h : Nat) (v1 : Int32) (v2 : Int32) (g : zM) : Option zM := if 8 ≤ (g h 5) then some g else zchk (g h 5) 8 (zput g (h + 35) (g h 5).toNatClampNeg v1 (fun g3 => zchk (g3 h 5) 8 (zput g3 (h + 36) (g3 h 5).toNatClampNeg v2 (fun g5 => zput g5 h 5 ((g5 h 5) + 1) (fun g6 => some g6)))))
set_option maxHeartbeats 4000000 in
set_option maxRecDepth 100000 in
theorem fX10_addPromise_ok {X : zX} (hX : zCX X cX10_addPromise RX10) (hT : zNT X) (hR : X.2.2.2.1 = zrm 0 0) (hr : X.2.2.2.2.2.2.2.2.1.sig.returnType = none) (hn : X.2.2.2.2.2.2.2.2.2.1.maxLocals = 3) {h : Nat} {v1 : Int32} {v2 : Int32} (hkh : zK h = 9) {g : zM} {r : zM} (hf : fX10_addPromise h v1 v2 g = some r) : zW X (zQ X (.inl (none, r)) 0) 0 0 0 [(0, .ref (zB X + h)), (1, .int v1), (2, .int v2)] [] g := by
  unfold fX10_addPromise at hf
  refine z_aload_n hX dX10_addPromise_0 0 rfl ?_
  refine gf_World_promises hX hkh q279 dX10_addPromise_1 ?_
  refine z_bipush hX dX10_addPromise_4 cb_8 ?_
  refine z_icmp_ge hX 39 dX10_addPromise_6 (by decide) (fun h1 => ?_) (fun h1 => ?_)
  · replace hf := zif_pos h1 hf
    obtain rfl := Option.some.inj hf
    exact z_vret hX hr (zl rfl) (zl rfl) dX10_addPromise_39
  · replace hf := zif_neg h1 hf
    refine z_aload_n hX dX10_addPromise_9 0 rfl ?_
    refine gf_World_firsts hX hkh q277 dX10_addPromise_10 ?_
    refine z_aload_n hX dX10_addPromise_13 0 rfl ?_
    refine gf_World_promises hX hkh q279 dX10_addPromise_14 ?_
    refine z_iload_n hX dX10_addPromise_17 1 rfl ?_
    replace hf := zchk_some hf
    obtain ⟨h2, hf⟩ := hf
    replace hf := zput_some hf
    obtain ⟨g3, eg3, hf⟩ := hf
    refine z_iast hX (zk_World_firsts hkh) (by decide) (zc_1008 _ _) h2 dX10_addPromise_18 (zW.eqg eg3 ?_)
    refine z_aload_n hX dX10_addPromise_19 0 rfl ?_
    refine gf_World_seconds hX hkh q278 dX10_addPromise_20 ?_
    refine z_aload_n hX dX10_addPromise_23 0 rfl ?_
    refine gf_World_promises hX hkh q279 dX10_addPromise_24 ?_
    refine z_iload_n hX dX10_addPromise_27 2 rfl ?_
    replace hf := zchk_some hf
    obtain ⟨h4, hf⟩ := hf
    replace hf := zput_some hf
    obtain ⟨g5, eg5, hf⟩ := hf
    refine z_iast hX (zk_World_seconds hkh) (by decide) (zc_1008 _ _) h4 dX10_addPromise_28 (zW.eqg eg5 ?_)
    refine z_aload_n hX dX10_addPromise_29 0 rfl ?_
    refine z_dup hX dX10_addPromise_30 rfl ?_
    refine gf_World_promises hX hkh q279 dX10_addPromise_31 ?_
    refine z_iconst hX dX10_addPromise_34 ci_1 ?_
    refine z_iadd hX dX10_addPromise_35 ?_
    replace hf := zput_some hf
    obtain ⟨g6, eg6, hf⟩ := hf
    refine gp_World_promises hX hkh q279 dX10_addPromise_36 (zW.eqg eg6 ?_)
    obtain rfl := Option.some.inj hf
    exact z_vret hX hr (zl rfl) (zl rfl) dX10_addPromise_39
set_option maxHeartbeats 4000000 in
set_option maxRecDepth 100000 in
theorem ct_X10_addPromise {E : zE} {h : Nat} {v1 : Int32} {v2 : Int32} (hkh : zK h = 9) {g : zM} {r : zM} (hf : fX10_addPromise h v1 v2 g = some r) : zCt yX10_addPromise cX10_addPromise 3 none 0 0 E [.ref (E.1 + h), .int v1, .int v2] g (.inl (none, r)) := by
  refine zmet (by decide) (zl rfl) (fun X hE hX hT hR hr hn => ?_)
  subst hE
  exact fX10_addPromise_ok hX hT hR hr hn hkh hf
def fX5_readPromise (g : zM) : Option (Int32 × zM) := if (g 396 5) < 8 then zb (fX9_step 391 g) (fun g2 => zb2 (fX9_takeKind 391 g2) (fun r_3 g3 => zjoin (fun t0_4 g4 => if t0_4 = ((-1)) then some (0, g4) else zb (fX10_addPromise 396 r_3 t0_4 g4) (fun g6 => some (1, g6)) : Int32 → zM → Option (Int32 × zM)) (fun k51 => if r_3 = ((-1)) then k51 ((-1)) g3 else zb2 (fX9_takeKind 391 g3) (fun r_8 g8 => k51 r_8 g8)))) else zb2 (fX9_fail 391 g) (fun r_9 g9 => zbo r_9 (some (r_9, g9)))
set_option maxHeartbeats 4000000 in
set_option maxRecDepth 100000 in
theorem fX5_readPromise_ok {X : zX} (hX : zCX X cX5_readPromise RX5) (hT : zNT X) (hR : X.2.2.2.1 = zrm 3 0) (hr : X.2.2.2.2.2.2.2.2.1.sig.returnType = (some .boolean)) (hn : X.2.2.2.2.2.2.2.2.2.1.maxLocals = 3)  {g : zM} {r : Int32 × zM} (hf : fX5_readPromise g = some r) : zW X (zQ X (.inl (some (.int r.1), r.2)) 0) 0 0 0 [(0, .ref (zB X + 390))] [] g := by
  unfold fX5_readPromise at hf
  refine z_aload_n hX dX5_readPromise_0 0 rfl ?_
  refine gf_PostReader_draft hX zq_390 q367 dX5_readPromise_1 ?_
  refine gf_World_promises_N hX zq_396 qn280 dX5_readPromise_4 ?_
  refine z_bipush hX dX5_readPromise_7 cb_8 ?_
  refine z_icmp_lt hX 20 dX5_readPromise_9 (by decide) (fun h1 => ?_) (fun h1 => ?_)
  · replace hf := zif_pos h1 hf
    refine z_aload_n hX dX5_readPromise_20 0 rfl ?_
    refine gf_PostReader_tokens hX zq_390 q372 (z_same hX q373) dX5_readPromise_21 ?_
    replace hf := zb_some hf
    obtain ⟨g2, h2, hf⟩ := hf
    refine z_callV0 hX ok_X9_step q815 q768 q769 (zrm_ok hR (by decide)) (ct_X9_step zq_391 h2) (zrec_Tokens hX zq_391) dX5_readPromise_24 rfl rfl ?_
    refine z_aload_n hX dX5_readPromise_27 0 rfl ?_
    refine gf_PostReader_tokens hX zq_390 q372 (z_same hX q373) dX5_readPromise_28 ?_
    replace hf := zb2_some hf
    obtain ⟨r_3, g3, h3, hf⟩ := hf
    refine z_callV1 hX ok_X9_takeKind q832 q752 q753 (zrm_ok hR (by decide)) (ct_X9_takeKind zq_391 h3) (zrec_Tokens hX zq_391) dX5_readPromise_31 rfl rfl ?_
    refine z_istore_n (lv' := [(1, .int r_3), (0, .ref (zB X + 390))]) hX dX5_readPromise_34 hn (by decide) rfl ?_
    refine z_iload_n hX dX5_readPromise_35 0 rfl ?_
    refine z_iconst hX dX5_readPromise_36 ci_m1 ?_
    refine zjoin_ok (P := fun (k : Int32 → zM → Option (Int32 × zM)) => ∀ (t0_4 : Int32) (g4 : zM), k t0_4 g4 = some r → zW X (zQ X (.inl (some (.int r.1), r.2)) 0) 0 0 51 [(0, .ref (zB X + 390)), (1, .int r_3)] [.int t0_4] g4) hf (fun t0_4 g4 hf => ?_) (fun k51 hk51 hf => ?_)
    · refine z_istore_n (lv' := [(2, .int t0_4), (0, .ref (zB X + 390)), (1, .int r_3)]) hX dX5_readPromise_51 hn (by decide) rfl ?_
      refine z_iload_n hX dX5_readPromise_52 0 rfl ?_
      refine z_iconst hX dX5_readPromise_53 ci_m1 ?_
      refine z_icmp_ne hX 59 dX5_readPromise_54 (by decide) (fun h5 => ?_) (fun h5 => ?_)
      · replace hf := zif_neg h5 hf
        refine z_aload_n hX dX5_readPromise_59 1 rfl ?_
        refine gf_PostReader_draft hX zq_390 q367 dX5_readPromise_60 ?_
        refine z_iload_n hX dX5_readPromise_63 2 rfl ?_
        refine z_iload_n hX dX5_readPromise_64 0 rfl ?_
        replace hf := zb_some hf
        obtain ⟨g6, h6, hf⟩ := hf
        refine z_callV0 hX ok_X10_addPromise q841 q842 q843 (zrm_ok hR (by decide)) (ct_X10_addPromise zq_396 h6) (zrec_World hX zq_396) dX5_readPromise_65 rfl rfl ?_
        refine z_iconst hX dX5_readPromise_68 ci_1 ?_
        obtain rfl := Option.some.inj hf
        exact z_iret hX hr (zbn (Or.inr rfl)) (zl rfl) (zl rfl) dX5_readPromise_69
      · replace hf := zif_pos h5 hf
        refine z_iconst hX dX5_readPromise_57 ci_0 ?_
        obtain rfl := Option.some.inj hf
        exact z_iret hX hr (zbn (Or.inl rfl)) (zl rfl) (zl rfl) dX5_readPromise_58
    · refine z_icmp_ne hX 44 dX5_readPromise_37 (by decide) (fun h7 => ?_) (fun h7 => ?_)
      · replace hf := zif_neg h7 hf
        refine z_aload_n hX dX5_readPromise_44 1 rfl ?_
        refine gf_PostReader_tokens hX zq_390 q372 (z_same hX q373) dX5_readPromise_45 ?_
        replace hf := zb2_some hf
        obtain ⟨r_8, g8, h8, hf⟩ := hf
        refine z_callV1 hX ok_X9_takeKind q832 q752 q753 (zrm_ok hR (by decide)) (ct_X9_takeKind zq_391 h8) (zrec_Tokens hX zq_391) dX5_readPromise_48 rfl rfl ?_
        refine zW.sub [1, 0] rfl ?_
        exact hk51 r_8 g8 hf
      · replace hf := zif_pos h7 hf
        refine z_iconst hX dX5_readPromise_40 ci_m1 ?_
        refine z_goto hX 51 dX5_readPromise_41 (by decide) ?_
        refine zW.sub [1, 0] rfl ?_
        exact hk51 ((-1)) g3 hf
  · replace hf := zif_neg h1 hf
    refine z_aload_n hX dX5_readPromise_12 0 rfl ?_
    refine gf_PostReader_tokens hX zq_390 q372 (z_same hX q373) dX5_readPromise_13 ?_
    replace hf := zb2_some hf
    obtain ⟨r_9, g9, h9, hf⟩ := hf
    refine z_callV1 hX ok_X9_fail q814 q764 q765 (zrm_ok hR (by decide)) (ct_X9_fail zq_391 h9) (zrec_Tokens hX zq_391) dX5_readPromise_16 rfl rfl ?_
    replace hf := zbo_some hf
    obtain ⟨h10, hf⟩ := hf
    obtain rfl := Option.some.inj hf
    exact z_iret hX hr (zbn h10) (zl rfl) (zl rfl) dX5_readPromise_19
set_option maxHeartbeats 4000000 in
set_option maxRecDepth 100000 in
theorem ct_X5_readPromise {E : zE} {g : zM} {r : Int32 × zM} (hf : fX5_readPromise g = some r) : zCt yX5_readPromise cX5_readPromise 3 (some .boolean) 3 0 E [.ref (E.1 + 390)] g (.inl (some (.int r.1), r.2)) := by
  refine zmet (by decide) (zl rfl) (fun X hE hX hT hR hr hn => ?_)
  subst hE
  exact fX5_readPromise_ok hX hT hR hr hn  hf
def fX5_readSlip (g : zM) : Option (Int32 × zM) := zb (fX9_step 391 g) (fun g1 => zb2 (fX9_takeNumber 391 0 100 g1) (fun r_2 g2 => if r_2 = ((-1)) then some (0, g2) else zput g2 396 6 r_2 (fun g4 => some (1, g4))))
set_option maxHeartbeats 4000000 in
set_option maxRecDepth 100000 in
theorem fX5_readSlip_ok {X : zX} (hX : zCX X cX5_readSlip RX5) (hT : zNT X) (hR : X.2.2.2.1 = zrm 2 0) (hr : X.2.2.2.2.2.2.2.2.1.sig.returnType = (some .boolean)) (hn : X.2.2.2.2.2.2.2.2.2.1.maxLocals = 2)  {g : zM} {r : Int32 × zM} (hf : fX5_readSlip g = some r) : zW X (zQ X (.inl (some (.int r.1), r.2)) 0) 0 0 0 [(0, .ref (zB X + 390))] [] g := by
  unfold fX5_readSlip at hf
  refine z_aload_n hX dX5_readSlip_0 0 rfl ?_
  refine gf_PostReader_tokens hX zq_390 q372 (z_same hX q373) dX5_readSlip_1 ?_
  replace hf := zb_some hf
  obtain ⟨g1, h1, hf⟩ := hf
  refine z_callV0 hX ok_X9_step q815 q768 q769 (zrm_ok hR (by decide)) (ct_X9_step zq_391 h1) (zrec_Tokens hX zq_391) dX5_readSlip_4 rfl rfl ?_
  refine z_aload_n hX dX5_readSlip_7 0 rfl ?_
  refine gf_PostReader_tokens hX zq_390 q372 (z_same hX q373) dX5_readSlip_8 ?_
  refine z_iconst hX dX5_readSlip_11 ci_0 ?_
  refine z_bipush hX dX5_readSlip_12 cb_100 ?_
  replace hf := zb2_some hf
  obtain ⟨r_2, g2, h2, hf⟩ := hf
  refine z_callV1 hX ok_X9_takeNumber q817 q818 q819 (zrm_ok hR (by decide)) (ct_X9_takeNumber zq_391 h2) (zrec_Tokens hX zq_391) dX5_readSlip_14 rfl rfl ?_
  refine z_istore_n (lv' := [(1, .int r_2), (0, .ref (zB X + 390))]) hX dX5_readSlip_17 hn (by decide) rfl ?_
  refine z_iload_n hX dX5_readSlip_18 0 rfl ?_
  refine z_iconst hX dX5_readSlip_19 ci_m1 ?_
  refine z_icmp_ne hX 25 dX5_readSlip_20 (by decide) (fun h3 => ?_) (fun h3 => ?_)
  · replace hf := zif_neg h3 hf
    refine z_aload_n hX dX5_readSlip_25 1 rfl ?_
    refine gf_PostReader_draft hX zq_390 q367 dX5_readSlip_26 ?_
    refine z_iload_n hX dX5_readSlip_29 0 rfl ?_
    replace hf := zput_some hf
    obtain ⟨g4, eg4, hf⟩ := hf
    refine gp_World_slip_N hX zq_396 qn283 dX5_readSlip_30 (zW.eqg eg4 ?_)
    refine z_iconst hX dX5_readSlip_33 ci_1 ?_
    obtain rfl := Option.some.inj hf
    exact z_iret hX hr (zbn (Or.inr rfl)) (zl rfl) (zl rfl) dX5_readSlip_34
  · replace hf := zif_pos h3 hf
    refine z_iconst hX dX5_readSlip_23 ci_0 ?_
    obtain rfl := Option.some.inj hf
    exact z_iret hX hr (zbn (Or.inl rfl)) (zl rfl) (zl rfl) dX5_readSlip_24
set_option maxHeartbeats 4000000 in
set_option maxRecDepth 100000 in
theorem ct_X5_readSlip {E : zE} {g : zM} {r : Int32 × zM} (hf : fX5_readSlip g = some r) : zCt yX5_readSlip cX5_readSlip 2 (some .boolean) 2 0 E [.ref (E.1 + 390)] g (.inl (some (.int r.1), r.2)) := by
  refine zmet (by decide) (zl rfl) (fun X hE hX hT hR hr hn => ?_)
  subst hE
  exact fX5_readSlip_ok hX hT hR hr hn  hf
def fX5_readState (v1 : Int32) (g : zM) : Option (Int32 × zM) := zb (fX9_step 391 g) (fun g1 => zb2 (fX9_takeNumber 391 0 ((g1 397 1) - 1) g1) (fun r_2 g2 => if r_2 < 0 then some (0, g2) else if r_2 < (g2 397 1) then if v1 = 0 then zchk r_2 8 (zput g2 (398 + 1 + 3 * r_2.toNatClampNeg) 5 1 (fun g7 => some (1, g7))) else zchk r_2 8 (zput g2 (398 + 1 + 3 * r_2.toNatClampNeg) 6 1 (fun g9 => some (1, g9))) else some (0, g2)))
set_option maxHeartbeats 4000000 in
set_option maxRecDepth 100000 in
theorem fX5_readState_ok {X : zX} (hX : zCX X cX5_readState RX5) (hT : zNT X) (hR : X.2.2.2.1 = zrm 2 0) (hr : X.2.2.2.2.2.2.2.2.1.sig.returnType = (some .boolean)) (hn : X.2.2.2.2.2.2.2.2.2.1.maxLocals = 3) {v1 : Int32} {g : zM} {r : Int32 × zM} (hf : fX5_readState v1 g = some r) : zW X (zQ X (.inl (some (.int r.1), r.2)) 0) 0 0 0 [(0, .ref (zB X + 390)), (1, .int v1)] [] g := by
  unfold fX5_readState at hf
  refine z_aload_n hX dX5_readState_0 0 rfl ?_
  refine gf_PostReader_tokens hX zq_390 q372 (z_same hX q373) dX5_readState_1 ?_
  replace hf := zb_some hf
  obtain ⟨g1, h1, hf⟩ := hf
  refine z_callV0 hX ok_X9_step q815 q768 q769 (zrm_ok hR (by decide)) (ct_X9_step zq_391 h1) (zrec_Tokens hX zq_391) dX5_readState_4 rfl rfl ?_
  refine z_aload_n hX dX5_readState_7 0 rfl ?_
  refine gf_PostReader_tokens hX zq_390 q372 (z_same hX q373) dX5_readState_8 ?_
  refine z_iconst hX dX5_readState_11 ci_0 ?_
  refine z_aload_n hX dX5_readState_12 0 rfl ?_
  refine gf_PostReader_draft hX zq_390 q367 dX5_readState_13 ?_
  refine gf_World_bag_N hX zq_396 qn272 dX5_readState_16 ?_
  refine gf_Bag_size_N hX zq_397 qn215 dX5_readState_19 ?_
  refine z_iconst hX dX5_readState_22 ci_1 ?_
  refine z_isub hX dX5_readState_23 ?_
  replace hf := zb2_some hf
  obtain ⟨r_2, g2, h2, hf⟩ := hf
  refine z_callV1 hX ok_X9_takeNumber q817 q818 q819 (zrm_ok hR (by decide)) (ct_X9_takeNumber zq_391 h2) (zrec_Tokens hX zq_391) dX5_readState_24 rfl rfl ?_
  refine z_istore_n (lv' := [(2, .int r_2), (0, .ref (zB X + 390)), (1, .int v1)]) hX dX5_readState_27 hn (by decide) rfl ?_
  refine z_iload_n hX dX5_readState_28 0 rfl ?_
  refine z_if_lt hX 46 dX5_readState_29 (by decide) (fun h3 => ?_) (fun h3 => ?_)
  · replace hf := zif_pos h3 hf
    refine z_iconst hX dX5_readState_46 ci_0 ?_
    obtain rfl := Option.some.inj hf
    exact z_iret hX hr (zbn (Or.inl rfl)) (zl rfl) (zl rfl) dX5_readState_47
  · replace hf := zif_neg h3 hf
    refine z_iload_n hX dX5_readState_32 0 rfl ?_
    refine z_aload_n hX dX5_readState_33 1 rfl ?_
    refine gf_PostReader_draft hX zq_390 q367 dX5_readState_34 ?_
    refine gf_World_bag_N hX zq_396 qn272 dX5_readState_37 ?_
    refine gf_Bag_size_N hX zq_397 qn215 dX5_readState_40 ?_
    refine z_icmp_lt hX 48 dX5_readState_43 (by decide) (fun h4 => ?_) (fun h4 => ?_)
    · replace hf := zif_pos h4 hf
      refine z_iload_n hX dX5_readState_48 2 rfl ?_
      refine z_if_eq hX 71 dX5_readState_49 (by decide) (fun h5 => ?_) (fun h5 => ?_)
      · replace hf := zif_pos h5 hf
        refine z_aload_n hX dX5_readState_71 1 rfl ?_
        refine gf_PostReader_draft hX zq_390 q367 dX5_readState_72 ?_
        refine gf_World_bag_N hX zq_396 qn272 dX5_readState_75 ?_
        refine gf_Bag_mails_N hX zq_397 qn212 dX5_readState_78 ?_
        refine z_iload_n hX dX5_readState_81 0 rfl ?_
        replace hf := zchk_some hf
        obtain ⟨h6, hf⟩ := hf
        refine z_aald_mail hX zq_398 h6 dX5_readState_82 ?_
        refine z_iconst hX dX5_readState_83 ci_1 ?_
        replace hf := zput_some hf
        obtain ⟨g7, eg7, hf⟩ := hf
        refine gp_Mail_open_N hX (zk_el22 zq_398 h6) qn187 (Or.inr rfl) dX5_readState_84 (zW.eqg eg7 ?_)
        refine z_iconst hX dX5_readState_87 ci_1 ?_
        obtain rfl := Option.some.inj hf
        exact z_iret hX hr (zbn (Or.inr rfl)) (zl rfl) (zl rfl) dX5_readState_88
      · replace hf := zif_neg h5 hf
        refine z_aload_n hX dX5_readState_52 1 rfl ?_
        refine gf_PostReader_draft hX zq_390 q367 dX5_readState_53 ?_
        refine gf_World_bag_N hX zq_396 qn272 dX5_readState_56 ?_
        refine gf_Bag_mails_N hX zq_397 qn212 dX5_readState_59 ?_
        refine z_iload_n hX dX5_readState_62 0 rfl ?_
        replace hf := zchk_some hf
        obtain ⟨h8, hf⟩ := hf
        refine z_aald_mail hX zq_398 h8 dX5_readState_63 ?_
        refine z_iconst hX dX5_readState_64 ci_1 ?_
        replace hf := zput_some hf
        obtain ⟨g9, eg9, hf⟩ := hf
        refine gp_Mail_hot_N hX (zk_el22 zq_398 h8) qn192 (Or.inr rfl) dX5_readState_65 (zW.eqg eg9 ?_)
        refine z_goto hX 87 dX5_readState_68 (by decide) ?_
        refine z_iconst hX dX5_readState_87 ci_1 ?_
        obtain rfl := Option.some.inj hf
        exact z_iret hX hr (zbn (Or.inr rfl)) (zl rfl) (zl rfl) dX5_readState_88
    · replace hf := zif_neg h4 hf
      refine z_iconst hX dX5_readState_46 ci_0 ?_
      obtain rfl := Option.some.inj hf
      exact z_iret hX hr (zbn (Or.inl rfl)) (zl rfl) (zl rfl) dX5_readState_47
set_option maxHeartbeats 4000000 in
set_option maxRecDepth 100000 in
theorem ct_X5_readState {E : zE} {v1 : Int32} {g : zM} {r : Int32 × zM} (hf : fX5_readState v1 g = some r) : zCt yX5_readState cX5_readState 3 (some .boolean) 2 0 E [.ref (E.1 + 390), .int v1] g (.inl (some (.int r.1), r.2)) := by
  refine zmet (by decide) (zl rfl) (fun X hE hX hT hR hr hn => ?_)
  subst hE
  exact fX5_readState_ok hX hT hR hr hn  hf
def fX5_readWeek (g : zM) : Option (Int32 × zM) := zb (fX9_step 391 g) (fun g1 => zb2 (fX9_takeNumber 391 (g1 397 2) 999 g1) (fun r_2 g2 => if r_2 = ((-1)) then some (0, g2) else zput g2 397 2 r_2 (fun g4 => some (1, g4))))
set_option maxHeartbeats 4000000 in
set_option maxRecDepth 100000 in
theorem fX5_readWeek_ok {X : zX} (hX : zCX X cX5_readWeek RX5) (hT : zNT X) (hR : X.2.2.2.1 = zrm 2 0) (hr : X.2.2.2.2.2.2.2.2.1.sig.returnType = (some .boolean)) (hn : X.2.2.2.2.2.2.2.2.2.1.maxLocals = 2)  {g : zM} {r : Int32 × zM} (hf : fX5_readWeek g = some r) : zW X (zQ X (.inl (some (.int r.1), r.2)) 0) 0 0 0 [(0, .ref (zB X + 390))] [] g := by
  unfold fX5_readWeek at hf
  refine z_aload_n hX dX5_readWeek_0 0 rfl ?_
  refine gf_PostReader_tokens hX zq_390 q372 (z_same hX q373) dX5_readWeek_1 ?_
  replace hf := zb_some hf
  obtain ⟨g1, h1, hf⟩ := hf
  refine z_callV0 hX ok_X9_step q815 q768 q769 (zrm_ok hR (by decide)) (ct_X9_step zq_391 h1) (zrec_Tokens hX zq_391) dX5_readWeek_4 rfl rfl ?_
  refine z_aload_n hX dX5_readWeek_7 0 rfl ?_
  refine gf_PostReader_tokens hX zq_390 q372 (z_same hX q373) dX5_readWeek_8 ?_
  refine z_aload_n hX dX5_readWeek_11 0 rfl ?_
  refine gf_PostReader_draft hX zq_390 q367 dX5_readWeek_12 ?_
  refine gf_World_bag_N hX zq_396 qn272 dX5_readWeek_15 ?_
  refine gf_Bag_week_N hX zq_397 qn218 dX5_readWeek_18 ?_
  refine z_sipush hX dX5_readWeek_21 cs_999 ?_
  replace hf := zb2_some hf
  obtain ⟨r_2, g2, h2, hf⟩ := hf
  refine z_callV1 hX ok_X9_takeNumber q817 q818 q819 (zrm_ok hR (by decide)) (ct_X9_takeNumber zq_391 h2) (zrec_Tokens hX zq_391) dX5_readWeek_24 rfl rfl ?_
  refine z_istore_n (lv' := [(1, .int r_2), (0, .ref (zB X + 390))]) hX dX5_readWeek_27 hn (by decide) rfl ?_
  refine z_iload_n hX dX5_readWeek_28 0 rfl ?_
  refine z_iconst hX dX5_readWeek_29 ci_m1 ?_
  refine z_icmp_ne hX 35 dX5_readWeek_30 (by decide) (fun h3 => ?_) (fun h3 => ?_)
  · replace hf := zif_neg h3 hf
    refine z_aload_n hX dX5_readWeek_35 1 rfl ?_
    refine gf_PostReader_draft hX zq_390 q367 dX5_readWeek_36 ?_
    refine gf_World_bag_N hX zq_396 qn272 dX5_readWeek_39 ?_
    refine z_iload_n hX dX5_readWeek_42 0 rfl ?_
    replace hf := zput_some hf
    obtain ⟨g4, eg4, hf⟩ := hf
    refine gp_Bag_week_N hX zq_397 qn218 dX5_readWeek_43 (zW.eqg eg4 ?_)
    refine z_iconst hX dX5_readWeek_46 ci_1 ?_
    obtain rfl := Option.some.inj hf
    exact z_iret hX hr (zbn (Or.inr rfl)) (zl rfl) (zl rfl) dX5_readWeek_47
  · replace hf := zif_pos h3 hf
    refine z_iconst hX dX5_readWeek_33 ci_0 ?_
    obtain rfl := Option.some.inj hf
    exact z_iret hX hr (zbn (Or.inl rfl)) (zl rfl) (zl rfl) dX5_readWeek_34
set_option maxHeartbeats 4000000 in
set_option maxRecDepth 100000 in
theorem ct_X5_readWeek {E : zE} {g : zM} {r : Int32 × zM} (hf : fX5_readWeek g = some r) : zCt yX5_readWeek cX5_readWeek 2 (some .boolean) 2 0 E [.ref (E.1 + 390)] g (.inl (some (.int r.1), r.2)) := by
  refine zmet (by decide) (zl rfl) (fun X hE hX hT hR hr hn => ?_)
  subst hE
  exact fX5_readWeek_ok hX hT hR hr hn  hf
def fX5_readLine (g : zM) : Option (Int32 × zM) := zb (fX9_code 391 g) (fun r_1 => if r_1 = 1000 then zb2 (fX5_readState 1 g) (fun r_4 g4 => zbo r_4 (some (r_4, g4))) else if r_1 = 1001 then zb2 (fX9_fail 391 g) (fun r_7 g7 => zbo r_7 (some (r_7, g7))) else if r_1 = 1002 then zb2 (fX9_fail 391 g) (fun r_10 g10 => zbo r_10 (some (r_10, g10))) else if r_1 = 1003 then zb2 (fX9_fail 391 g) (fun r_13 g13 => zbo r_13 (some (r_13, g13))) else if r_1 = 1004 then zb2 (fX9_fail 391 g) (fun r_16 g16 => zbo r_16 (some (r_16, g16))) else if r_1 = 1005 then zb2 (fX5_readWeek g) (fun r_19 g19 => zbo r_19 (some (r_19, g19))) else if r_1 = 1006 then zb2 (fX9_fail 391 g) (fun r_22 g22 => zbo r_22 (some (r_22, g22))) else if r_1 = 1007 then zb2 (fX9_fail 391 g) (fun r_25 g25 => zbo r_25 (some (r_25, g25))) else if r_1 = 1008 then zb2 (fX9_fail 391 g) (fun r_28 g28 => zbo r_28 (some (r_28, g28))) else if r_1 = 1009 then zb2 (fX9_fail 391 g) (fun r_31 g31 => zbo r_31 (some (r_31, g31))) else if r_1 = 1010 then zb2 (fX9_fail 391 g) (fun r_34 g34 => zbo r_34 (some (r_34, g34))) else if r_1 = 1011 then zb2 (fX9_fail 391 g) (fun r_37 g37 => zbo r_37 (some (r_37, g37))) else if r_1 = 1012 then zb2 (fX9_fail 391 g) (fun r_40 g40 => zbo r_40 (some (r_40, g40))) else if r_1 = 1013 then zb2 (fX5_readLetter g) (fun r_43 g43 => zbo r_43 (some (r_43, g43))) else if r_1 = 1014 then zb2 (fX9_fail 391 g) (fun r_46 g46 => zbo r_46 (some (r_46, g46))) else if r_1 = 1015 then zb2 (fX5_readWords g) (fun r_49 g49 => zbo r_49 (some (r_49, g49))) else if r_1 = 1016 then zb2 (fX5_readPromise g) (fun r_52 g52 => zbo r_52 (some (r_52, g52))) else if r_1 = 1017 then zb2 (fX5_readSlip g) (fun r_55 g55 => zbo r_55 (some (r_55, g55))) else if r_1 = 1018 then zb2 (fX5_readState 0 g) (fun r_58 g58 => zbo r_58 (some (r_58, g58))) else zb2 (fX9_fail 391 g) (fun r_60 g60 => zbo r_60 (some (r_60, g60))))
set_option maxHeartbeats 4000000 in
set_option maxRecDepth 100000 in
theorem fX5_readLine_ok {X : zX} (hX : zCX X cX5_readLine RX5) (hT : zNT X) (hR : X.2.2.2.1 = zrm 4 0) (hr : X.2.2.2.2.2.2.2.2.1.sig.returnType = (some .boolean)) (hn : X.2.2.2.2.2.2.2.2.2.1.maxLocals = 1)  {g : zM} {r : Int32 × zM} (hf : fX5_readLine g = some r) : zW X (zQ X (.inl (some (.int r.1), r.2)) 0) 0 0 0 [(0, .ref (zB X + 390))] [] g := by
  unfold fX5_readLine at hf
  refine z_aload_n hX dX5_readLine_0 0 rfl ?_
  refine gf_PostReader_tokens hX zq_390 q372 (z_same hX q373) dX5_readLine_1 ?_
  replace hf := zb_some hf
  obtain ⟨r_1, h1, hf⟩ := hf
  refine z_callV1 hX ok_X9_code q809 q742 q743 (zrm_ok hR (by decide)) (ct_X9_code zq_391 h1) (zrec_Tokens hX zq_391) dX5_readLine_4 rfl rfl ?_
  by_cases h3 : r_1 = 1000
  · replace hf := zif_pos h3 hf
    refine z_tin hX 116 dX5_readLine_7 (by rw [h3]; decide) (by rw [h3]; decide) (by rw [h3]; rfl) (by decide) ?_
    refine z_aload_n hX dX5_readLine_116 0 rfl ?_
    refine z_iconst hX dX5_readLine_117 ci_1 ?_
    replace hf := zb2_some hf
    obtain ⟨r_4, g4, h4, hf⟩ := hf
    refine z_callV1 hX ok_X5_readState q849 q851 q21 (zrm_ok hR (by decide)) (ct_X5_readState  h4) (zrec_PostReader hX zq_390) dX5_readLine_118 rfl rfl ?_
    replace hf := zbo_some hf
    obtain ⟨h5, hf⟩ := hf
    obtain rfl := Option.some.inj hf
    exact z_iret hX hr (zbn h5) (zl rfl) (zl rfl) dX5_readLine_121
  replace hf := zif_neg h3 hf
  by_cases h6 : r_1 = 1001
  · replace hf := zif_pos h6 hf
    refine z_tin hX 133 dX5_readLine_7 (by rw [h6]; decide) (by rw [h6]; decide) (by rw [h6]; rfl) (by decide) ?_
    refine z_aload_n hX dX5_readLine_133 0 rfl ?_
    refine gf_PostReader_tokens hX zq_390 q372 (z_same hX q373) dX5_readLine_134 ?_
    replace hf := zb2_some hf
    obtain ⟨r_7, g7, h7, hf⟩ := hf
    refine z_callV1 hX ok_X9_fail q814 q764 q765 (zrm_ok hR (by decide)) (ct_X9_fail zq_391 h7) (zrec_Tokens hX zq_391) dX5_readLine_137 rfl rfl ?_
    replace hf := zbo_some hf
    obtain ⟨h8, hf⟩ := hf
    obtain rfl := Option.some.inj hf
    exact z_iret hX hr (zbn h8) (zl rfl) (zl rfl) dX5_readLine_140
  replace hf := zif_neg h6 hf
  by_cases h9 : r_1 = 1002
  · replace hf := zif_pos h9 hf
    refine z_tin hX 133 dX5_readLine_7 (by rw [h9]; decide) (by rw [h9]; decide) (by rw [h9]; rfl) (by decide) ?_
    refine z_aload_n hX dX5_readLine_133 0 rfl ?_
    refine gf_PostReader_tokens hX zq_390 q372 (z_same hX q373) dX5_readLine_134 ?_
    replace hf := zb2_some hf
    obtain ⟨r_10, g10, h10, hf⟩ := hf
    refine z_callV1 hX ok_X9_fail q814 q764 q765 (zrm_ok hR (by decide)) (ct_X9_fail zq_391 h10) (zrec_Tokens hX zq_391) dX5_readLine_137 rfl rfl ?_
    replace hf := zbo_some hf
    obtain ⟨h11, hf⟩ := hf
    obtain rfl := Option.some.inj hf
    exact z_iret hX hr (zbn h11) (zl rfl) (zl rfl) dX5_readLine_140
  replace hf := zif_neg h9 hf
  by_cases h12 : r_1 = 1003
  · replace hf := zif_pos h12 hf
    refine z_tin hX 133 dX5_readLine_7 (by rw [h12]; decide) (by rw [h12]; decide) (by rw [h12]; rfl) (by decide) ?_
    refine z_aload_n hX dX5_readLine_133 0 rfl ?_
    refine gf_PostReader_tokens hX zq_390 q372 (z_same hX q373) dX5_readLine_134 ?_
    replace hf := zb2_some hf
    obtain ⟨r_13, g13, h13, hf⟩ := hf
    refine z_callV1 hX ok_X9_fail q814 q764 q765 (zrm_ok hR (by decide)) (ct_X9_fail zq_391 h13) (zrec_Tokens hX zq_391) dX5_readLine_137 rfl rfl ?_
    replace hf := zbo_some hf
    obtain ⟨h14, hf⟩ := hf
    obtain rfl := Option.some.inj hf
    exact z_iret hX hr (zbn h14) (zl rfl) (zl rfl) dX5_readLine_140
  replace hf := zif_neg h12 hf
  by_cases h15 : r_1 = 1004
  · replace hf := zif_pos h15 hf
    refine z_tin hX 133 dX5_readLine_7 (by rw [h15]; decide) (by rw [h15]; decide) (by rw [h15]; rfl) (by decide) ?_
    refine z_aload_n hX dX5_readLine_133 0 rfl ?_
    refine gf_PostReader_tokens hX zq_390 q372 (z_same hX q373) dX5_readLine_134 ?_
    replace hf := zb2_some hf
    obtain ⟨r_16, g16, h16, hf⟩ := hf
    refine z_callV1 hX ok_X9_fail q814 q764 q765 (zrm_ok hR (by decide)) (ct_X9_fail zq_391 h16) (zrec_Tokens hX zq_391) dX5_readLine_137 rfl rfl ?_
    replace hf := zbo_some hf
    obtain ⟨h17, hf⟩ := hf
    obtain rfl := Option.some.inj hf
    exact z_iret hX hr (zbn h17) (zl rfl) (zl rfl) dX5_readLine_140
  replace hf := zif_neg h15 hf
  by_cases h18 : r_1 = 1005
  · replace hf := zif_pos h18 hf
    refine z_tin hX 128 dX5_readLine_7 (by rw [h18]; decide) (by rw [h18]; decide) (by rw [h18]; rfl) (by decide) ?_
    refine z_aload_n hX dX5_readLine_128 0 rfl ?_
    replace hf := zb2_some hf
    obtain ⟨r_19, g19, h19, hf⟩ := hf
    refine z_callV1 hX ok_X5_readWeek q853 q855 q22 (zrm_ok hR (by decide)) (ct_X5_readWeek  h19) (zrec_PostReader hX zq_390) dX5_readLine_129 rfl rfl ?_
    replace hf := zbo_some hf
    obtain ⟨h20, hf⟩ := hf
    obtain rfl := Option.some.inj hf
    exact z_iret hX hr (zbn h20) (zl rfl) (zl rfl) dX5_readLine_132
  replace hf := zif_neg h18 hf
  by_cases h21 : r_1 = 1006
  · replace hf := zif_pos h21 hf
    refine z_tin hX 133 dX5_readLine_7 (by rw [h21]; decide) (by rw [h21]; decide) (by rw [h21]; rfl) (by decide) ?_
    refine z_aload_n hX dX5_readLine_133 0 rfl ?_
    refine gf_PostReader_tokens hX zq_390 q372 (z_same hX q373) dX5_readLine_134 ?_
    replace hf := zb2_some hf
    obtain ⟨r_22, g22, h22, hf⟩ := hf
    refine z_callV1 hX ok_X9_fail q814 q764 q765 (zrm_ok hR (by decide)) (ct_X9_fail zq_391 h22) (zrec_Tokens hX zq_391) dX5_readLine_137 rfl rfl ?_
    replace hf := zbo_some hf
    obtain ⟨h23, hf⟩ := hf
    obtain rfl := Option.some.inj hf
    exact z_iret hX hr (zbn h23) (zl rfl) (zl rfl) dX5_readLine_140
  replace hf := zif_neg h21 hf
  by_cases h24 : r_1 = 1007
  · replace hf := zif_pos h24 hf
    refine z_tin hX 133 dX5_readLine_7 (by rw [h24]; decide) (by rw [h24]; decide) (by rw [h24]; rfl) (by decide) ?_
    refine z_aload_n hX dX5_readLine_133 0 rfl ?_
    refine gf_PostReader_tokens hX zq_390 q372 (z_same hX q373) dX5_readLine_134 ?_
    replace hf := zb2_some hf
    obtain ⟨r_25, g25, h25, hf⟩ := hf
    refine z_callV1 hX ok_X9_fail q814 q764 q765 (zrm_ok hR (by decide)) (ct_X9_fail zq_391 h25) (zrec_Tokens hX zq_391) dX5_readLine_137 rfl rfl ?_
    replace hf := zbo_some hf
    obtain ⟨h26, hf⟩ := hf
    obtain rfl := Option.some.inj hf
    exact z_iret hX hr (zbn h26) (zl rfl) (zl rfl) dX5_readLine_140
  replace hf := zif_neg h24 hf
  by_cases h27 : r_1 = 1008
  · replace hf := zif_pos h27 hf
    refine z_tin hX 133 dX5_readLine_7 (by rw [h27]; decide) (by rw [h27]; decide) (by rw [h27]; rfl) (by decide) ?_
    refine z_aload_n hX dX5_readLine_133 0 rfl ?_
    refine gf_PostReader_tokens hX zq_390 q372 (z_same hX q373) dX5_readLine_134 ?_
    replace hf := zb2_some hf
    obtain ⟨r_28, g28, h28, hf⟩ := hf
    refine z_callV1 hX ok_X9_fail q814 q764 q765 (zrm_ok hR (by decide)) (ct_X9_fail zq_391 h28) (zrec_Tokens hX zq_391) dX5_readLine_137 rfl rfl ?_
    replace hf := zbo_some hf
    obtain ⟨h29, hf⟩ := hf
    obtain rfl := Option.some.inj hf
    exact z_iret hX hr (zbn h29) (zl rfl) (zl rfl) dX5_readLine_140
  replace hf := zif_neg h27 hf
  by_cases h30 : r_1 = 1009
  · replace hf := zif_pos h30 hf
    refine z_tin hX 133 dX5_readLine_7 (by rw [h30]; decide) (by rw [h30]; decide) (by rw [h30]; rfl) (by decide) ?_
    refine z_aload_n hX dX5_readLine_133 0 rfl ?_
    refine gf_PostReader_tokens hX zq_390 q372 (z_same hX q373) dX5_readLine_134 ?_
    replace hf := zb2_some hf
    obtain ⟨r_31, g31, h31, hf⟩ := hf
    refine z_callV1 hX ok_X9_fail q814 q764 q765 (zrm_ok hR (by decide)) (ct_X9_fail zq_391 h31) (zrec_Tokens hX zq_391) dX5_readLine_137 rfl rfl ?_
    replace hf := zbo_some hf
    obtain ⟨h32, hf⟩ := hf
    obtain rfl := Option.some.inj hf
    exact z_iret hX hr (zbn h32) (zl rfl) (zl rfl) dX5_readLine_140
  replace hf := zif_neg h30 hf
  by_cases h33 : r_1 = 1010
  · replace hf := zif_pos h33 hf
    refine z_tin hX 133 dX5_readLine_7 (by rw [h33]; decide) (by rw [h33]; decide) (by rw [h33]; rfl) (by decide) ?_
    refine z_aload_n hX dX5_readLine_133 0 rfl ?_
    refine gf_PostReader_tokens hX zq_390 q372 (z_same hX q373) dX5_readLine_134 ?_
    replace hf := zb2_some hf
    obtain ⟨r_34, g34, h34, hf⟩ := hf
    refine z_callV1 hX ok_X9_fail q814 q764 q765 (zrm_ok hR (by decide)) (ct_X9_fail zq_391 h34) (zrec_Tokens hX zq_391) dX5_readLine_137 rfl rfl ?_
    replace hf := zbo_some hf
    obtain ⟨h35, hf⟩ := hf
    obtain rfl := Option.some.inj hf
    exact z_iret hX hr (zbn h35) (zl rfl) (zl rfl) dX5_readLine_140
  replace hf := zif_neg h33 hf
  by_cases h36 : r_1 = 1011
  · replace hf := zif_pos h36 hf
    refine z_tin hX 133 dX5_readLine_7 (by rw [h36]; decide) (by rw [h36]; decide) (by rw [h36]; rfl) (by decide) ?_
    refine z_aload_n hX dX5_readLine_133 0 rfl ?_
    refine gf_PostReader_tokens hX zq_390 q372 (z_same hX q373) dX5_readLine_134 ?_
    replace hf := zb2_some hf
    obtain ⟨r_37, g37, h37, hf⟩ := hf
    refine z_callV1 hX ok_X9_fail q814 q764 q765 (zrm_ok hR (by decide)) (ct_X9_fail zq_391 h37) (zrec_Tokens hX zq_391) dX5_readLine_137 rfl rfl ?_
    replace hf := zbo_some hf
    obtain ⟨h38, hf⟩ := hf
    obtain rfl := Option.some.inj hf
    exact z_iret hX hr (zbn h38) (zl rfl) (zl rfl) dX5_readLine_140
  replace hf := zif_neg h36 hf
  by_cases h39 : r_1 = 1012
  · replace hf := zif_pos h39 hf
    refine z_tin hX 133 dX5_readLine_7 (by rw [h39]; decide) (by rw [h39]; decide) (by rw [h39]; rfl) (by decide) ?_
    refine z_aload_n hX dX5_readLine_133 0 rfl ?_
    refine gf_PostReader_tokens hX zq_390 q372 (z_same hX q373) dX5_readLine_134 ?_
    replace hf := zb2_some hf
    obtain ⟨r_40, g40, h40, hf⟩ := hf
    refine z_callV1 hX ok_X9_fail q814 q764 q765 (zrm_ok hR (by decide)) (ct_X9_fail zq_391 h40) (zrec_Tokens hX zq_391) dX5_readLine_137 rfl rfl ?_
    replace hf := zbo_some hf
    obtain ⟨h41, hf⟩ := hf
    obtain rfl := Option.some.inj hf
    exact z_iret hX hr (zbn h41) (zl rfl) (zl rfl) dX5_readLine_140
  replace hf := zif_neg h39 hf
  by_cases h42 : r_1 = 1013
  · replace hf := zif_pos h42 hf
    refine z_tin hX 96 dX5_readLine_7 (by rw [h42]; decide) (by rw [h42]; decide) (by rw [h42]; rfl) (by decide) ?_
    refine z_aload_n hX dX5_readLine_96 0 rfl ?_
    replace hf := zb2_some hf
    obtain ⟨r_43, g43, h43, hf⟩ := hf
    refine z_callV1 hX ok_X5_readLetter q810 q812 q17 (zrm_ok hR (by decide)) (ct_X5_readLetter  h43) (zrec_PostReader hX zq_390) dX5_readLine_97 rfl rfl ?_
    replace hf := zbo_some hf
    obtain ⟨h44, hf⟩ := hf
    obtain rfl := Option.some.inj hf
    exact z_iret hX hr (zbn h44) (zl rfl) (zl rfl) dX5_readLine_100
  replace hf := zif_neg h42 hf
  by_cases h45 : r_1 = 1014
  · replace hf := zif_pos h45 hf
    refine z_tin hX 133 dX5_readLine_7 (by rw [h45]; decide) (by rw [h45]; decide) (by rw [h45]; rfl) (by decide) ?_
    refine z_aload_n hX dX5_readLine_133 0 rfl ?_
    refine gf_PostReader_tokens hX zq_390 q372 (z_same hX q373) dX5_readLine_134 ?_
    replace hf := zb2_some hf
    obtain ⟨r_46, g46, h46, hf⟩ := hf
    refine z_callV1 hX ok_X9_fail q814 q764 q765 (zrm_ok hR (by decide)) (ct_X9_fail zq_391 h46) (zrec_Tokens hX zq_391) dX5_readLine_137 rfl rfl ?_
    replace hf := zbo_some hf
    obtain ⟨h47, hf⟩ := hf
    obtain rfl := Option.some.inj hf
    exact z_iret hX hr (zbn h47) (zl rfl) (zl rfl) dX5_readLine_140
  replace hf := zif_neg h45 hf
  by_cases h48 : r_1 = 1015
  · replace hf := zif_pos h48 hf
    refine z_tin hX 101 dX5_readLine_7 (by rw [h48]; decide) (by rw [h48]; decide) (by rw [h48]; rfl) (by decide) ?_
    refine z_aload_n hX dX5_readLine_101 0 rfl ?_
    replace hf := zb2_some hf
    obtain ⟨r_49, g49, h49, hf⟩ := hf
    refine z_callV1 hX ok_X5_readWords q828 q830 q18 (zrm_ok hR (by decide)) (ct_X5_readWords  h49) (zrec_PostReader hX zq_390) dX5_readLine_102 rfl rfl ?_
    replace hf := zbo_some hf
    obtain ⟨h50, hf⟩ := hf
    obtain rfl := Option.some.inj hf
    exact z_iret hX hr (zbn h50) (zl rfl) (zl rfl) dX5_readLine_105
  replace hf := zif_neg h48 hf
  by_cases h51 : r_1 = 1016
  · replace hf := zif_pos h51 hf
    refine z_tin hX 106 dX5_readLine_7 (by rw [h51]; decide) (by rw [h51]; decide) (by rw [h51]; rfl) (by decide) ?_
    refine z_aload_n hX dX5_readLine_106 0 rfl ?_
    replace hf := zb2_some hf
    obtain ⟨r_52, g52, h52, hf⟩ := hf
    refine z_callV1 hX ok_X5_readPromise q837 q839 q19 (zrm_ok hR (by decide)) (ct_X5_readPromise  h52) (zrec_PostReader hX zq_390) dX5_readLine_107 rfl rfl ?_
    replace hf := zbo_some hf
    obtain ⟨h53, hf⟩ := hf
    obtain rfl := Option.some.inj hf
    exact z_iret hX hr (zbn h53) (zl rfl) (zl rfl) dX5_readLine_110
  replace hf := zif_neg h51 hf
  by_cases h54 : r_1 = 1017
  · replace hf := zif_pos h54 hf
    refine z_tin hX 111 dX5_readLine_7 (by rw [h54]; decide) (by rw [h54]; decide) (by rw [h54]; rfl) (by decide) ?_
    refine z_aload_n hX dX5_readLine_111 0 rfl ?_
    replace hf := zb2_some hf
    obtain ⟨r_55, g55, h55, hf⟩ := hf
    refine z_callV1 hX ok_X5_readSlip q845 q847 q20 (zrm_ok hR (by decide)) (ct_X5_readSlip  h55) (zrec_PostReader hX zq_390) dX5_readLine_112 rfl rfl ?_
    replace hf := zbo_some hf
    obtain ⟨h56, hf⟩ := hf
    obtain rfl := Option.some.inj hf
    exact z_iret hX hr (zbn h56) (zl rfl) (zl rfl) dX5_readLine_115
  replace hf := zif_neg h54 hf
  by_cases h57 : r_1 = 1018
  · replace hf := zif_pos h57 hf
    refine z_tin hX 122 dX5_readLine_7 (by rw [h57]; decide) (by rw [h57]; decide) (by rw [h57]; rfl) (by decide) ?_
    refine z_aload_n hX dX5_readLine_122 0 rfl ?_
    refine z_iconst hX dX5_readLine_123 ci_0 ?_
    replace hf := zb2_some hf
    obtain ⟨r_58, g58, h58, hf⟩ := hf
    refine z_callV1 hX ok_X5_readState q849 q851 q21 (zrm_ok hR (by decide)) (ct_X5_readState  h58) (zrec_PostReader hX zq_390) dX5_readLine_124 rfl rfl ?_
    replace hf := zbo_some hf
    obtain ⟨h59, hf⟩ := hf
    obtain rfl := Option.some.inj hf
    exact z_iret hX hr (zbn h59) (zl rfl) (zl rfl) dX5_readLine_127
  replace hf := zif_neg h57 hf
  refine z_tout hX 133 dX5_readLine_7 (zsw_out (fun v hlo hhi e => ?_)) (by decide) ?_
  · have hv : v = 1000 ∨ v = 1001 ∨ v = 1002 ∨ v = 1003 ∨ v = 1004 ∨ v = 1005 ∨ v = 1006 ∨ v = 1007 ∨ v = 1008 ∨ v = 1009 ∨ v = 1010 ∨ v = 1011 ∨ v = 1012 ∨ v = 1013 ∨ v = 1014 ∨ v = 1015 ∨ v = 1016 ∨ v = 1017 ∨ v = 1018 := by omega
    rcases hv with rfl | rfl | rfl | rfl | rfl | rfl | rfl | rfl | rfl | rfl | rfl | rfl | rfl | rfl | rfl | rfl | rfl | rfl | rfl
    · exact h3 (e.trans (by decide))
    · exact h6 (e.trans (by decide))
    · exact h9 (e.trans (by decide))
    · exact h12 (e.trans (by decide))
    · exact h15 (e.trans (by decide))
    · exact h18 (e.trans (by decide))
    · exact h21 (e.trans (by decide))
    · exact h24 (e.trans (by decide))
    · exact h27 (e.trans (by decide))
    · exact h30 (e.trans (by decide))
    · exact h33 (e.trans (by decide))
    · exact h36 (e.trans (by decide))
    · exact h39 (e.trans (by decide))
    · exact h42 (e.trans (by decide))
    · exact h45 (e.trans (by decide))
    · exact h48 (e.trans (by decide))
    · exact h51 (e.trans (by decide))
    · exact h54 (e.trans (by decide))
    · exact h57 (e.trans (by decide))
  refine z_aload_n hX dX5_readLine_133 0 rfl ?_
  refine gf_PostReader_tokens hX zq_390 q372 (z_same hX q373) dX5_readLine_134 ?_
  replace hf := zb2_some hf
  obtain ⟨r_60, g60, h60, hf⟩ := hf
  refine z_callV1 hX ok_X9_fail q814 q764 q765 (zrm_ok hR (by decide)) (ct_X9_fail zq_391 h60) (zrec_Tokens hX zq_391) dX5_readLine_137 rfl rfl ?_
  replace hf := zbo_some hf
  obtain ⟨h61, hf⟩ := hf
  obtain rfl := Option.some.inj hf
  exact z_iret hX hr (zbn h61) (zl rfl) (zl rfl) dX5_readLine_140
set_option maxHeartbeats 4000000 in
set_option maxRecDepth 100000 in
theorem ct_X5_readLine {E : zE} {g : zM} {r : Int32 × zM} (hf : fX5_readLine g = some r) : zCt yX5_readLine cX5_readLine 1 (some .boolean) 4 0 E [.ref (E.1 + 390)] g (.inl (some (.int r.1), r.2)) := by
  refine zmet (by decide) (zl rfl) (fun X hE hX hT hR hr hn => ?_)
  subst hE
  exact fX5_readLine_ok hX hT hR hr hn  hf
def fX1_addCode (h : Nat) (v1 : Int32) (g : zM) : Option zM := if 400 ≤ (g h 6) then some g else zchk (g h 6) 400 (zput g (h + 4) (g h 6).toNatClampNeg v1 (fun g3 => zput g3 h 6 ((g3 h 6) + 1) (fun g4 => some g4)))
set_option maxHeartbeats 4000000 in
set_option maxRecDepth 100000 in
theorem fX1_addCode_ok {X : zX} (hX : zCX X cX1_addCode RX1) (hT : zNT X) (hR : X.2.2.2.1 = zrm 0 0) (hr : X.2.2.2.2.2.2.2.2.1.sig.returnType = none) (hn : X.2.2.2.2.2.2.2.2.2.1.maxLocals = 2) {h : Nat} {v1 : Int32} (hkh : zK h = 1) {g : zM} {r : zM} (hf : fX1_addCode h v1 g = some r) : zW X (zQ X (.inl (none, r)) 0) 0 0 0 [(0, .ref (zB X + h)), (1, .int v1)] [] g := by
  unfold fX1_addCode at hf
  refine z_aload_n hX dX1_addCode_0 0 rfl ?_
  refine gf_Law_codeSize hX hkh q247 dX1_addCode_1 ?_
  refine z_sipush hX dX1_addCode_4 cs_400 ?_
  refine z_icmp_ge hX 30 dX1_addCode_7 (by decide) (fun h1 => ?_) (fun h1 => ?_)
  · replace hf := zif_pos h1 hf
    obtain rfl := Option.some.inj hf
    exact z_vret hX hr (zl rfl) (zl rfl) dX1_addCode_30
  · replace hf := zif_neg h1 hf
    refine z_aload_n hX dX1_addCode_10 0 rfl ?_
    refine gf_Law_codes hX hkh q244 dX1_addCode_11 ?_
    refine z_aload_n hX dX1_addCode_14 0 rfl ?_
    refine gf_Law_codeSize hX hkh q247 dX1_addCode_15 ?_
    refine z_iload_n hX dX1_addCode_18 1 rfl ?_
    replace hf := zchk_some hf
    obtain ⟨h2, hf⟩ := hf
    replace hf := zput_some hf
    obtain ⟨g3, eg3, hf⟩ := hf
    refine z_iast hX (zk_Law_codes hkh) (by decide) (zc_1400 _ _) h2 dX1_addCode_19 (zW.eqg eg3 ?_)
    refine z_aload_n hX dX1_addCode_20 0 rfl ?_
    refine z_dup hX dX1_addCode_21 rfl ?_
    refine gf_Law_codeSize hX hkh q247 dX1_addCode_22 ?_
    refine z_iconst hX dX1_addCode_25 ci_1 ?_
    refine z_iadd hX dX1_addCode_26 ?_
    replace hf := zput_some hf
    obtain ⟨g4, eg4, hf⟩ := hf
    refine gp_Law_codeSize hX hkh q247 dX1_addCode_27 (zW.eqg eg4 ?_)
    obtain rfl := Option.some.inj hf
    exact z_vret hX hr (zl rfl) (zl rfl) dX1_addCode_30
set_option maxHeartbeats 4000000 in
set_option maxRecDepth 100000 in
theorem ct_X1_addCode {E : zE} {h : Nat} {v1 : Int32} (hkh : zK h = 1) {g : zM} {r : zM} (hf : fX1_addCode h v1 g = some r) : zCt yX1_addCode cX1_addCode 2 none 0 0 E [.ref (E.1 + h), .int v1] g (.inl (none, r)) := by
  refine zmet (by decide) (zl rfl) (fun X hE hX hT hR hr hn => ?_)
  subst hE
  exact fX1_addCode_ok hX hT hR hr hn hkh hf
