def fX3_become (h : Nat) (r1 : Nat) (g : zM) : Option zM := zacp g (r1 + 1) 0 24 (h + 1) 0 24 24 (fun g2 => zacp g2 (r1 + 2) 0 24 (h + 2) 0 24 24 (fun g4 => zput g4 h 2 (g4 r1 2) (fun g5 => zput g5 h 3 (g5 r1 3) (fun g6 => zput g6 h 4 (g6 r1 4) (fun g7 => zbo (g7 r1 5) (zput g7 h 5 (g7 r1 5) (fun g9 => zbo (g9 r1 6) (zput g9 h 6 (g9 r1 6) (fun g11 => some g11)))))))))
def fX3_begin (h : Nat) (v1 : Int32) (v2 : Int32) (g : zM) : Option zM := zput g h 2 0 (fun g1 => zput g1 h 4 v1 (fun g2 => zput g2 h 3 v2 (fun g3 => zput g3 h 5 0 (fun g4 => zput g4 h 6 0 (fun g5 => some g5)))))
def fX3_add (h : Nat) (v1 : Int32) (v2 : Int32) (g : zM) : Option zM := if 24 ≤ (g h 2) then some g else zchk (g h 2) 24 (zput g (h + 1) (g h 2).toNatClampNeg v1 (fun g3 => zchk (g3 h 2) 24 (zput g3 (h + 2) (g3 h 2).toNatClampNeg v2 (fun g5 => zput g5 h 2 ((g5 h 2) + 1) (fun g6 => some g6)))))
def fX3_shorten (h : Nat) (v1 : Int32) (g : zM) : Option zM := if v1 < 0 then some g else if (g h 2) < v1 then some g else zput g h 2 ((g h 2) - v1) (fun g3 => some g3)
def fX3_drop_L15 (h : Nat) (k59 : zM → Option zM) : Nat → Int32 → zM → Option zM
  | 0, _, _ => none
  | n + 1, v2, g => if (g h 2) ≤ (v2 + 1) then k59 g else zchk (v2 + 1) 24 (zchk v2 24 (zput g (h + 1) v2.toNatClampNeg (g (h + 1) (v2 + 1).toNatClampNeg) (fun g6 => zchk (v2 + 1) 24 (zchk v2 24 (zput g6 (h + 2) v2.toNatClampNeg (g6 (h + 2) (v2 + 1).toNatClampNeg) (fun g9 => fX3_drop_L15 h k59 n (v2 + 1) g9))))))
def fX3_drop (h : Nat) (v1 : Int32) (g : zM) : Option zM := if v1 < 0 then some g else if v1 < (g h 2) then fX3_drop_L15 h (fun g10 => zput g10 h 2 ((g10 h 2) - 1) (fun g11 => some g11)) zFU v1 g else some g
def fX3_kindAt (h : Nat) (v1 : Int32) (g : zM) : Option Int32 := if v1 < 0 then some ((-1)) else if (g h 2) ≤ v1 then some ((-1)) else zchk v1 24 (some (g (h + 1) v1.toNatClampNeg))
def fX3_weekAt (h : Nat) (v1 : Int32) (g : zM) : Option Int32 := if v1 < 0 then some ((-1)) else if (g h 2) ≤ v1 then some ((-1)) else zchk v1 24 (some (g (h + 2) v1.toNatClampNeg))
def fX3_lastKind (h : Nat) (g : zM) : Option Int32 := zb (fX3_kindAt h ((g h 2) - 1) g) (fun r_1 => some r_1)
def fX3_kindSet_L4 (h : Nat) (g : zM) : Nat → Int32 → Int32 → Option Int32
  | 0, _, _ => none
  | n + 1, v1, v2 => if (g h 2) ≤ v2 then some v1 else zchk v2 24 (fX3_kindSet_L4 h g n (v1 ||| (1 <<< ((g (h + 1) v2.toNatClampNeg) &&& 31))) (v2 + 1))
def fX3_kindSet (h : Nat) (g : zM) : Option Int32 := fX3_kindSet_L4 h g zFU 0 0
def fX3_holds (h : Nat) (v1 : Int32) (g : zM) : Option Int32 := zb (fX3_kindSet h g) (fun r_1 => if ((r_1 >>> (v1 &&& 31)) &&& 1) = 1 then some 1 else some 0)
def fX3_binds_L5 (h : Nat) (v1 : Int32) (v2 : Int32) (g : zM) : Nat → Int32 → Int32 → Option Int32
  | 0, _, _ => none
  | n + 1, v3, v4 => if (g h 2) ≤ v4 then some 0 else zjoin (if v3 = 0 then zchk v4 24 (if (g (h + 1) v4.toNatClampNeg) = v1 then fX3_binds_L5 h v1 v2 g n 1 (v4 + 1) else fX3_binds_L5 h v1 v2 g n 0 (v4 + 1)) else fX3_binds_L5 h v1 v2 g n 1 (v4 + 1) : Option Int32) (fun k31 => if v3 = 0 then k31 else zchk v4 24 (if (g (h + 1) v4.toNatClampNeg) = v2 then some 1 else k31))
def fX3_binds (h : Nat) (v1 : Int32) (v2 : Int32) (g : zM) : Option Int32 := fX3_binds_L5 h v1 v2 g zFU 0 0
def fX3_firstUnlike_L14 (h : Nat) (r1 : Nat) (v2 : Int32) (g : zM) : Nat → Int32 → Option Int32
  | 0, _ => none
  | n + 1, v3 => if v2 ≤ v3 then some ((-1)) else zb (fX3_kindAt h v3 g) (fun r_2 => zb (fX3_kindAt r1 v3 g) (fun r_3 => if r_2 = r_3 then fX3_firstUnlike_L14 h r1 v2 g n (v3 + 1) else some v3))
def fX3_firstUnlike (h : Nat) (r1 : Nat) (g : zM) : Option Int32 := fX3_firstUnlike_L14 h r1 (if g h 2 < g r1 2 then g r1 2 else g h 2) g zFU 0
def fX3_alikeFrom_L6 (h : Nat) (v1 : Int32) (r2 : Nat) (v3 : Int32) (g : zM) : Nat → Int32 → Int32 → Option Int32
  | 0, _, _ => none
  | n + 1, v4, v5 => if (g h 2) ≤ (v1 + v5) then some v4 else if (g r2 2) ≤ (v3 + v5) then some v4 else zb (fX3_kindAt h (v1 + v5) g) (fun r_3 => zb (fX3_kindAt r2 (v3 + v5) g) (fun r_4 => if r_3 = r_4 then fX3_alikeFrom_L6 h v1 r2 v3 g n (v4 + 1) (v5 + 1) else some v4))
def fX3_alikeFrom (h : Nat) (v1 : Int32) (r2 : Nat) (v3 : Int32) (g : zM) : Option Int32 := fX3_alikeFrom_L6 h v1 r2 v3 g zFU 0 0
def fX3_linesOf_L4 (h : Nat) (v1 : Int32) (g : zM) : Nat → Int32 → Int32 → Option Int32
  | 0, _, _ => none
  | n + 1, v2, v3 => if (g h 2) ≤ v3 then some v2 else zchk v3 24 (if (g (h + 2) v3.toNatClampNeg) = v1 then fX3_linesOf_L4 h v1 g n (v2 + 1) (v3 + 1) else fX3_linesOf_L4 h v1 g n v2 (v3 + 1))
def fX3_linesOf (h : Nat) (v1 : Int32) (g : zM) : Option Int32 := fX3_linesOf_L4 h v1 g zFU 0 0
set_option maxHeartbeats 4000000 in
set_option maxRecDepth 100000 in
theorem fX3_become_ok {X : zX} (hX : zCX X cX3_become RX3) (hT : zNT X) (hR : X.2.2.2.1 = zrm 5 0) (hr : X.2.2.2.2.2.2.2.2.1.sig.returnType = none) (hn : X.2.2.2.2.2.2.2.2.2.1.maxLocals = 2) {h : Nat} {r1 : Nat} (hkh : zK h = 3) (hk1 : zK r1 = 3) {g : zM} {r : zM} (hf : fX3_become h r1 g = some r) : zW X (zQ X (.inl (none, r)) 0) 0 0 0 [(0, .ref (zB X + h)), (1, .ref (zB X + r1))] [] g := by
  unfold fX3_become at hf
  refine z_aload_n hX dX3_become_0 1 rfl ?_
  refine gf_Mail_kinds hX hk1 q170 dX3_become_1 ?_
  refine z_iconst hX dX3_become_4 ci_0 ?_
  refine z_aload_n hX dX3_become_5 0 rfl ?_
  refine gf_Mail_kinds hX hkh q170 dX3_become_6 ?_
  refine z_iconst hX dX3_become_9 ci_0 ?_
  refine z_bipush hX dX3_become_10 cb_24 ?_
  replace hf := zacp_some hf
  obtain ⟨g2, eg2, h1, hf⟩ := hf
  refine z_acp hX hR (zk_Mail_kinds hk1) (by decide) (zc_1024 _ _) (zk_Mail_kinds hkh) (by decide) (zc_1024 _ _) q514 h1 (zl rfl) dX3_become_12 (zW.eqg eg2 ?_)
  refine z_aload_n hX dX3_become_15 1 rfl ?_
  refine gf_Mail_weeks hX hk1 q172 dX3_become_16 ?_
  refine z_iconst hX dX3_become_19 ci_0 ?_
  refine z_aload_n hX dX3_become_20 0 rfl ?_
  refine gf_Mail_weeks hX hkh q172 dX3_become_21 ?_
  refine z_iconst hX dX3_become_24 ci_0 ?_
  refine z_bipush hX dX3_become_25 cb_24 ?_
  replace hf := zacp_some hf
  obtain ⟨g4, eg4, h3, hf⟩ := hf
  refine z_acp hX hR (zk_Mail_weeks hk1) (by decide) (zc_1024 _ _) (zk_Mail_weeks hkh) (by decide) (zc_1024 _ _) q514 h3 (zl rfl) dX3_become_27 (zW.eqg eg4 ?_)
  refine z_aload_n hX dX3_become_30 0 rfl ?_
  refine z_aload_n hX dX3_become_31 1 rfl ?_
  refine gf_Mail_lines hX hk1 q173 dX3_become_32 ?_
  replace hf := zput_some hf
  obtain ⟨g5, eg5, hf⟩ := hf
  refine gp_Mail_lines hX hkh q173 dX3_become_35 (zW.eqg eg5 ?_)
  refine z_aload_n hX dX3_become_38 0 rfl ?_
  refine z_aload_n hX dX3_become_39 1 rfl ?_
  refine gf_Mail_temper hX hk1 q178 dX3_become_40 ?_
  replace hf := zput_some hf
  obtain ⟨g6, eg6, hf⟩ := hf
  refine gp_Mail_temper hX hkh q178 dX3_become_43 (zW.eqg eg6 ?_)
  refine z_aload_n hX dX3_become_46 0 rfl ?_
  refine z_aload_n hX dX3_become_47 1 rfl ?_
  refine gf_Mail_sender hX hk1 q181 dX3_become_48 ?_
  replace hf := zput_some hf
  obtain ⟨g7, eg7, hf⟩ := hf
  refine gp_Mail_sender hX hkh q181 dX3_become_51 (zW.eqg eg7 ?_)
  refine z_aload_n hX dX3_become_54 0 rfl ?_
  refine z_aload_n hX dX3_become_55 1 rfl ?_
  refine gf_Mail_open hX hk1 q184 dX3_become_56 ?_
  replace hf := zbo_some hf
  obtain ⟨h8, hf⟩ := hf
  replace hf := zput_some hf
  obtain ⟨g9, eg9, hf⟩ := hf
  refine gp_Mail_open hX hkh q184 h8 dX3_become_59 (zW.eqg eg9 ?_)
  refine z_aload_n hX dX3_become_62 0 rfl ?_
  refine z_aload_n hX dX3_become_63 1 rfl ?_
  refine gf_Mail_hot hX hk1 q189 dX3_become_64 ?_
  replace hf := zbo_some hf
  obtain ⟨h10, hf⟩ := hf
  replace hf := zput_some hf
  obtain ⟨g11, eg11, hf⟩ := hf
  refine gp_Mail_hot hX hkh q189 h10 dX3_become_67 (zW.eqg eg11 ?_)
  obtain rfl := Option.some.inj hf
  exact z_vret hX hr (zl rfl) (zl rfl) dX3_become_70
set_option maxHeartbeats 4000000 in
set_option maxRecDepth 100000 in
theorem ct_X3_become {E : zE} {h : Nat} {r1 : Nat} (hkh : zK h = 3) (hk1 : zK r1 = 3) {g : zM} {r : zM} (hf : fX3_become h r1 g = some r) : zCt yX3_become cX3_become 2 none 5 0 E [.ref (E.1 + h), .ref (E.1 + r1)] g (.inl (none, r)) := by
  refine zmet (by decide) (zl rfl) (fun X hE hX hT hR hr hn => ?_)
  subst hE
  exact fX3_become_ok hX hT hR hr hn hkh hk1 hf
set_option maxHeartbeats 4000000 in
set_option maxRecDepth 100000 in
theorem fX3_begin_ok {X : zX} (hX : zCX X cX3_begin RX3) (hT : zNT X) (hR : X.2.2.2.1 = zrm 0 0) (hr : X.2.2.2.2.2.2.2.2.1.sig.returnType = none) (hn : X.2.2.2.2.2.2.2.2.2.1.maxLocals = 3) {h : Nat} {v1 : Int32} {v2 : Int32} (hkh : zK h = 3) {g : zM} {r : zM} (hf : fX3_begin h v1 v2 g = some r) : zW X (zQ X (.inl (none, r)) 0) 0 0 0 [(0, .ref (zB X + h)), (1, .int v1), (2, .int v2)] [] g := by
  unfold fX3_begin at hf
  refine z_aload_n hX dX3_begin_0 0 rfl ?_
  refine z_iconst hX dX3_begin_1 ci_0 ?_
  replace hf := zput_some hf
  obtain ⟨g1, eg1, hf⟩ := hf
  refine gp_Mail_lines hX hkh q173 dX3_begin_2 (zW.eqg eg1 ?_)
  refine z_aload_n hX dX3_begin_5 0 rfl ?_
  refine z_iload_n hX dX3_begin_6 1 rfl ?_
  replace hf := zput_some hf
  obtain ⟨g2, eg2, hf⟩ := hf
  refine gp_Mail_sender hX hkh q181 dX3_begin_7 (zW.eqg eg2 ?_)
  refine z_aload_n hX dX3_begin_10 0 rfl ?_
  refine z_iload_n hX dX3_begin_11 2 rfl ?_
  replace hf := zput_some hf
  obtain ⟨g3, eg3, hf⟩ := hf
  refine gp_Mail_temper hX hkh q178 dX3_begin_12 (zW.eqg eg3 ?_)
  refine z_aload_n hX dX3_begin_15 0 rfl ?_
  refine z_iconst hX dX3_begin_16 ci_0 ?_
  replace hf := zput_some hf
  obtain ⟨g4, eg4, hf⟩ := hf
  refine gp_Mail_open hX hkh q184 (Or.inl rfl) dX3_begin_17 (zW.eqg eg4 ?_)
  refine z_aload_n hX dX3_begin_20 0 rfl ?_
  refine z_iconst hX dX3_begin_21 ci_0 ?_
  replace hf := zput_some hf
  obtain ⟨g5, eg5, hf⟩ := hf
  refine gp_Mail_hot hX hkh q189 (Or.inl rfl) dX3_begin_22 (zW.eqg eg5 ?_)
  obtain rfl := Option.some.inj hf
  exact z_vret hX hr (zl rfl) (zl rfl) dX3_begin_25
set_option maxHeartbeats 4000000 in
set_option maxRecDepth 100000 in
theorem ct_X3_begin {E : zE} {h : Nat} {v1 : Int32} {v2 : Int32} (hkh : zK h = 3) {g : zM} {r : zM} (hf : fX3_begin h v1 v2 g = some r) : zCt yX3_begin cX3_begin 3 none 0 0 E [.ref (E.1 + h), .int v1, .int v2] g (.inl (none, r)) := by
  refine zmet (by decide) (zl rfl) (fun X hE hX hT hR hr hn => ?_)
  subst hE
  exact fX3_begin_ok hX hT hR hr hn hkh hf
set_option maxHeartbeats 4000000 in
set_option maxRecDepth 100000 in
theorem fX3_add_ok {X : zX} (hX : zCX X cX3_add RX3) (hT : zNT X) (hR : X.2.2.2.1 = zrm 0 0) (hr : X.2.2.2.2.2.2.2.2.1.sig.returnType = none) (hn : X.2.2.2.2.2.2.2.2.2.1.maxLocals = 3) {h : Nat} {v1 : Int32} {v2 : Int32} (hkh : zK h = 3) {g : zM} {r : zM} (hf : fX3_add h v1 v2 g = some r) : zW X (zQ X (.inl (none, r)) 0) 0 0 0 [(0, .ref (zB X + h)), (1, .int v1), (2, .int v2)] [] g := by
  unfold fX3_add at hf
  refine z_aload_n hX dX3_add_0 0 rfl ?_
  refine gf_Mail_lines hX hkh q173 dX3_add_1 ?_
  refine z_bipush hX dX3_add_4 cb_24 ?_
  refine z_icmp_ge hX 39 dX3_add_6 (by decide) (fun h1 => ?_) (fun h1 => ?_)
  · replace hf := zif_pos h1 hf
    obtain rfl := Option.some.inj hf
    exact z_vret hX hr (zl rfl) (zl rfl) dX3_add_39
  · replace hf := zif_neg h1 hf
    refine z_aload_n hX dX3_add_9 0 rfl ?_
    refine gf_Mail_kinds hX hkh q170 dX3_add_10 ?_
    refine z_aload_n hX dX3_add_13 0 rfl ?_
    refine gf_Mail_lines hX hkh q173 dX3_add_14 ?_
    refine z_iload_n hX dX3_add_17 1 rfl ?_
    replace hf := zchk_some hf
    obtain ⟨h2, hf⟩ := hf
    replace hf := zput_some hf
    obtain ⟨g3, eg3, hf⟩ := hf
    refine z_iast hX (zk_Mail_kinds hkh) (by decide) (zc_1024 _ _) h2 dX3_add_18 (zW.eqg eg3 ?_)
    refine z_aload_n hX dX3_add_19 0 rfl ?_
    refine gf_Mail_weeks hX hkh q172 dX3_add_20 ?_
    refine z_aload_n hX dX3_add_23 0 rfl ?_
    refine gf_Mail_lines hX hkh q173 dX3_add_24 ?_
    refine z_iload_n hX dX3_add_27 2 rfl ?_
    replace hf := zchk_some hf
    obtain ⟨h4, hf⟩ := hf
    replace hf := zput_some hf
    obtain ⟨g5, eg5, hf⟩ := hf
    refine z_iast hX (zk_Mail_weeks hkh) (by decide) (zc_1024 _ _) h4 dX3_add_28 (zW.eqg eg5 ?_)
    refine z_aload_n hX dX3_add_29 0 rfl ?_
    refine z_dup hX dX3_add_30 rfl ?_
    refine gf_Mail_lines hX hkh q173 dX3_add_31 ?_
    refine z_iconst hX dX3_add_34 ci_1 ?_
    refine z_iadd hX dX3_add_35 ?_
    replace hf := zput_some hf
    obtain ⟨g6, eg6, hf⟩ := hf
    refine gp_Mail_lines hX hkh q173 dX3_add_36 (zW.eqg eg6 ?_)
    obtain rfl := Option.some.inj hf
    exact z_vret hX hr (zl rfl) (zl rfl) dX3_add_39
set_option maxHeartbeats 4000000 in
set_option maxRecDepth 100000 in
theorem ct_X3_add {E : zE} {h : Nat} {v1 : Int32} {v2 : Int32} (hkh : zK h = 3) {g : zM} {r : zM} (hf : fX3_add h v1 v2 g = some r) : zCt yX3_add cX3_add 3 none 0 0 E [.ref (E.1 + h), .int v1, .int v2] g (.inl (none, r)) := by
  refine zmet (by decide) (zl rfl) (fun X hE hX hT hR hr hn => ?_)
  subst hE
  exact fX3_add_ok hX hT hR hr hn hkh hf
set_option maxHeartbeats 4000000 in
set_option maxRecDepth 100000 in
theorem fX3_shorten_ok {X : zX} (hX : zCX X cX3_shorten RX3) (hT : zNT X) (hR : X.2.2.2.1 = zrm 0 0) (hr : X.2.2.2.2.2.2.2.2.1.sig.returnType = none) (hn : X.2.2.2.2.2.2.2.2.2.1.maxLocals = 2) {h : Nat} {v1 : Int32} (hkh : zK h = 3) {g : zM} {r : zM} (hf : fX3_shorten h v1 g = some r) : zW X (zQ X (.inl (none, r)) 0) 0 0 0 [(0, .ref (zB X + h)), (1, .int v1)] [] g := by
  unfold fX3_shorten at hf
  refine z_iload_n hX dX3_shorten_0 1 rfl ?_
  refine z_if_lt hX 22 dX3_shorten_1 (by decide) (fun h1 => ?_) (fun h1 => ?_)
  · replace hf := zif_pos h1 hf
    obtain rfl := Option.some.inj hf
    exact z_vret hX hr (zl rfl) (zl rfl) dX3_shorten_22
  · replace hf := zif_neg h1 hf
    refine z_iload_n hX dX3_shorten_4 1 rfl ?_
    refine z_aload_n hX dX3_shorten_5 0 rfl ?_
    refine gf_Mail_lines hX hkh q173 dX3_shorten_6 ?_
    refine z_icmp_gt hX 22 dX3_shorten_9 (by decide) (fun h2 => ?_) (fun h2 => ?_)
    · replace hf := zif_pos h2 hf
      obtain rfl := Option.some.inj hf
      exact z_vret hX hr (zl rfl) (zl rfl) dX3_shorten_22
    · replace hf := zif_neg h2 hf
      refine z_aload_n hX dX3_shorten_12 0 rfl ?_
      refine z_dup hX dX3_shorten_13 rfl ?_
      refine gf_Mail_lines hX hkh q173 dX3_shorten_14 ?_
      refine z_iload_n hX dX3_shorten_17 1 rfl ?_
      refine z_isub hX dX3_shorten_18 ?_
      replace hf := zput_some hf
      obtain ⟨g3, eg3, hf⟩ := hf
      refine gp_Mail_lines hX hkh q173 dX3_shorten_19 (zW.eqg eg3 ?_)
      obtain rfl := Option.some.inj hf
      exact z_vret hX hr (zl rfl) (zl rfl) dX3_shorten_22
set_option maxHeartbeats 4000000 in
set_option maxRecDepth 100000 in
theorem ct_X3_shorten {E : zE} {h : Nat} {v1 : Int32} (hkh : zK h = 3) {g : zM} {r : zM} (hf : fX3_shorten h v1 g = some r) : zCt yX3_shorten cX3_shorten 2 none 0 0 E [.ref (E.1 + h), .int v1] g (.inl (none, r)) := by
  refine zmet (by decide) (zl rfl) (fun X hE hX hT hR hr hn => ?_)
  subst hE
  exact fX3_shorten_ok hX hT hR hr hn hkh hf
set_option maxHeartbeats 4000000 in
set_option maxRecDepth 100000 in
theorem fX3_drop_L15_ok {X : zX} (hX : zCX X cX3_drop RX3) (hT : zNT X) (hR : X.2.2.2.1 = zrm 0 0) (hr : X.2.2.2.2.2.2.2.2.1.sig.returnType = none) (hn : X.2.2.2.2.2.2.2.2.2.1.maxLocals = 3) {h : Nat} (hkh : zK h = 3) {k59 : zM → Option zM} {r : zM} (hk59 : ∀ (g : zM), k59 g = some r → zW X (zQ X (.inl (none, r)) 0) 0 0 59 [(0, .ref (zB X + h))] [] g) : ∀ (n : Nat) (v2 : Int32) (g : zM), fX3_drop_L15 h k59 n v2 g = some r → zW X (zQ X (.inl (none, r)) 0) 0 0 15 [(0, .ref (zB X + h)), (2, .int v2)] [] g := by
  intro n
  induction n with
  | zero => intro v2 g hf; exact zno hf
  | succ n ih =>
    intro v2 g hf
    rw [fX3_drop_L15] at hf
    refine z_iload_n hX dX3_drop_15 1 rfl ?_
    refine z_iconst hX dX3_drop_16 ci_1 ?_
    refine z_iadd hX dX3_drop_17 ?_
    refine z_aload_n hX dX3_drop_18 0 rfl ?_
    refine gf_Mail_lines hX hkh q173 dX3_drop_19 ?_
    refine z_icmp_ge hX 59 dX3_drop_22 (by decide) (fun h3 => ?_) (fun h3 => ?_)
    · replace hf := zif_pos h3 hf
      refine zW.sub [0] rfl ?_
      exact hk59 g hf
    · replace hf := zif_neg h3 hf
      refine z_aload_n hX dX3_drop_25 0 rfl ?_
      refine gf_Mail_kinds hX hkh q170 dX3_drop_26 ?_
      refine z_iload_n hX dX3_drop_29 1 rfl ?_
      refine z_aload_n hX dX3_drop_30 0 rfl ?_
      refine gf_Mail_kinds hX hkh q170 dX3_drop_31 ?_
      refine z_iload_n hX dX3_drop_34 1 rfl ?_
      refine z_iconst hX dX3_drop_35 ci_1 ?_
      refine z_iadd hX dX3_drop_36 ?_
      replace hf := zchk_some hf
      obtain ⟨h4, hf⟩ := hf
      refine z_iald hX (zk_Mail_kinds hkh) (by decide) (zc_1024 _ _ _) h4 dX3_drop_37 ?_
      replace hf := zchk_some hf
      obtain ⟨h5, hf⟩ := hf
      replace hf := zput_some hf
      obtain ⟨g6, eg6, hf⟩ := hf
      refine z_iast hX (zk_Mail_kinds hkh) (by decide) (zc_1024 _ _) h5 dX3_drop_38 (zW.eqg eg6 ?_)
      refine z_aload_n hX dX3_drop_39 0 rfl ?_
      refine gf_Mail_weeks hX hkh q172 dX3_drop_40 ?_
      refine z_iload_n hX dX3_drop_43 1 rfl ?_
      refine z_aload_n hX dX3_drop_44 0 rfl ?_
      refine gf_Mail_weeks hX hkh q172 dX3_drop_45 ?_
      refine z_iload_n hX dX3_drop_48 1 rfl ?_
      refine z_iconst hX dX3_drop_49 ci_1 ?_
      refine z_iadd hX dX3_drop_50 ?_
      replace hf := zchk_some hf
      obtain ⟨h7, hf⟩ := hf
      refine z_iald hX (zk_Mail_weeks hkh) (by decide) (zc_1024 _ _ _) h7 dX3_drop_51 ?_
      replace hf := zchk_some hf
      obtain ⟨h8, hf⟩ := hf
      replace hf := zput_some hf
      obtain ⟨g9, eg9, hf⟩ := hf
      refine z_iast hX (zk_Mail_weeks hkh) (by decide) (zc_1024 _ _) h8 dX3_drop_52 (zW.eqg eg9 ?_)
      refine z_iincc (lv' := [(2, .int (v2 + 1)), (0, .ref (zB X + h))]) hX dX3_drop_53 hn (by decide) 1 rfl ci_1 rfl ?_
      refine z_goto hX 15 dX3_drop_56 (by decide) ?_
      refine zW.sub [1, 0] rfl ?_
      exact ih (v2 + 1) g9 hf
set_option maxHeartbeats 4000000 in
set_option maxRecDepth 100000 in
theorem fX3_drop_ok {X : zX} (hX : zCX X cX3_drop RX3) (hT : zNT X) (hR : X.2.2.2.1 = zrm 0 0) (hr : X.2.2.2.2.2.2.2.2.1.sig.returnType = none) (hn : X.2.2.2.2.2.2.2.2.2.1.maxLocals = 3) {h : Nat} {v1 : Int32} (hkh : zK h = 3) {g : zM} {r : zM} (hf : fX3_drop h v1 g = some r) : zW X (zQ X (.inl (none, r)) 0) 0 0 0 [(0, .ref (zB X + h)), (1, .int v1)] [] g := by
  unfold fX3_drop at hf
  refine z_iload_n hX dX3_drop_0 1 rfl ?_
  refine z_if_lt hX 12 dX3_drop_1 (by decide) (fun h1 => ?_) (fun h1 => ?_)
  · replace hf := zif_pos h1 hf
    obtain rfl := Option.some.inj hf
    exact z_vret hX hr (zl rfl) (zl rfl) dX3_drop_12
  · replace hf := zif_neg h1 hf
    refine z_iload_n hX dX3_drop_4 1 rfl ?_
    refine z_aload_n hX dX3_drop_5 0 rfl ?_
    refine gf_Mail_lines hX hkh q173 dX3_drop_6 ?_
    refine z_icmp_lt hX 13 dX3_drop_9 (by decide) (fun h2 => ?_) (fun h2 => ?_)
    · replace hf := zif_pos h2 hf
      refine z_iload_n hX dX3_drop_13 1 rfl ?_
      refine z_istore_n (lv' := [(2, .int v1), (0, .ref (zB X + h)), (1, .int v1)]) hX dX3_drop_14 hn (by decide) rfl ?_
      refine zW.sub [1, 0] rfl ?_
      refine fX3_drop_L15_ok hX hT hR hr hn hkh (fun g10 hf => ?_) zFU v1 g hf
      · refine z_aload_n hX dX3_drop_59 0 rfl ?_
        refine z_dup hX dX3_drop_60 rfl ?_
        refine gf_Mail_lines hX hkh q173 dX3_drop_61 ?_
        refine z_iconst hX dX3_drop_64 ci_1 ?_
        refine z_isub hX dX3_drop_65 ?_
        replace hf := zput_some hf
        obtain ⟨g11, eg11, hf⟩ := hf
        refine gp_Mail_lines hX hkh q173 dX3_drop_66 (zW.eqg eg11 ?_)
        obtain rfl := Option.some.inj hf
        exact z_vret hX hr (zl rfl) (zl rfl) dX3_drop_69
    · replace hf := zif_neg h2 hf
      obtain rfl := Option.some.inj hf
      exact z_vret hX hr (zl rfl) (zl rfl) dX3_drop_12
set_option maxHeartbeats 4000000 in
set_option maxRecDepth 100000 in
theorem ct_X3_drop {E : zE} {h : Nat} {v1 : Int32} (hkh : zK h = 3) {g : zM} {r : zM} (hf : fX3_drop h v1 g = some r) : zCt yX3_drop cX3_drop 3 none 0 0 E [.ref (E.1 + h), .int v1] g (.inl (none, r)) := by
  refine zmet (by decide) (zl rfl) (fun X hE hX hT hR hr hn => ?_)
  subst hE
  exact fX3_drop_ok hX hT hR hr hn hkh hf
set_option maxHeartbeats 4000000 in
set_option maxRecDepth 100000 in
theorem fX3_kindAt_ok {X : zX} (hX : zCX X cX3_kindAt RX3) (hT : zNT X) (hR : X.2.2.2.1 = zrm 0 0) (hr : X.2.2.2.2.2.2.2.2.1.sig.returnType = (some .int)) (hn : X.2.2.2.2.2.2.2.2.2.1.maxLocals = 2) {h : Nat} {v1 : Int32} (hkh : zK h = 3) {g : zM} {r : Int32} (hf : fX3_kindAt h v1 g = some r) : zW X (zQ X (.inl (some (.int r), g)) 0) 0 0 0 [(0, .ref (zB X + h)), (1, .int v1)] [] g := by
  unfold fX3_kindAt at hf
  refine z_iload_n hX dX3_kindAt_0 1 rfl ?_
  refine z_if_lt hX 21 dX3_kindAt_1 (by decide) (fun h1 => ?_) (fun h1 => ?_)
  · replace hf := zif_pos h1 hf
    refine z_iconst hX dX3_kindAt_21 ci_m1 ?_
    obtain rfl := Option.some.inj hf
    exact z_iret hX hr rfl (zl rfl) (zl rfl) dX3_kindAt_22
  · replace hf := zif_neg h1 hf
    refine z_iload_n hX dX3_kindAt_4 1 rfl ?_
    refine z_aload_n hX dX3_kindAt_5 0 rfl ?_
    refine gf_Mail_lines hX hkh q173 dX3_kindAt_6 ?_
    refine z_icmp_ge hX 21 dX3_kindAt_9 (by decide) (fun h2 => ?_) (fun h2 => ?_)
    · replace hf := zif_pos h2 hf
      refine z_iconst hX dX3_kindAt_21 ci_m1 ?_
      obtain rfl := Option.some.inj hf
      exact z_iret hX hr rfl (zl rfl) (zl rfl) dX3_kindAt_22
    · replace hf := zif_neg h2 hf
      refine z_aload_n hX dX3_kindAt_12 0 rfl ?_
      refine gf_Mail_kinds hX hkh q170 dX3_kindAt_13 ?_
      refine z_iload_n hX dX3_kindAt_16 1 rfl ?_
      replace hf := zchk_some hf
      obtain ⟨h3, hf⟩ := hf
      refine z_iald hX (zk_Mail_kinds hkh) (by decide) (zc_1024 _ _ _) h3 dX3_kindAt_17 ?_
      refine z_goto hX 22 dX3_kindAt_18 (by decide) ?_
      obtain rfl := Option.some.inj hf
      exact z_iret hX hr rfl (zl rfl) (zl rfl) dX3_kindAt_22
set_option maxHeartbeats 4000000 in
set_option maxRecDepth 100000 in
theorem ct_X3_kindAt {E : zE} {h : Nat} {v1 : Int32} (hkh : zK h = 3) {g : zM} {r : Int32} (hf : fX3_kindAt h v1 g = some r) : zCt yX3_kindAt cX3_kindAt 2 (some .int) 0 0 E [.ref (E.1 + h), .int v1] g (.inl (some (.int r), g)) := by
  refine zmet (by decide) (zl rfl) (fun X hE hX hT hR hr hn => ?_)
  subst hE
  exact fX3_kindAt_ok hX hT hR hr hn hkh hf
set_option maxHeartbeats 4000000 in
set_option maxRecDepth 100000 in
theorem fX3_weekAt_ok {X : zX} (hX : zCX X cX3_weekAt RX3) (hT : zNT X) (hR : X.2.2.2.1 = zrm 0 0) (hr : X.2.2.2.2.2.2.2.2.1.sig.returnType = (some .int)) (hn : X.2.2.2.2.2.2.2.2.2.1.maxLocals = 2) {h : Nat} {v1 : Int32} (hkh : zK h = 3) {g : zM} {r : Int32} (hf : fX3_weekAt h v1 g = some r) : zW X (zQ X (.inl (some (.int r), g)) 0) 0 0 0 [(0, .ref (zB X + h)), (1, .int v1)] [] g := by
  unfold fX3_weekAt at hf
  refine z_iload_n hX dX3_weekAt_0 1 rfl ?_
  refine z_if_lt hX 21 dX3_weekAt_1 (by decide) (fun h1 => ?_) (fun h1 => ?_)
  · replace hf := zif_pos h1 hf
    refine z_iconst hX dX3_weekAt_21 ci_m1 ?_
    obtain rfl := Option.some.inj hf
    exact z_iret hX hr rfl (zl rfl) (zl rfl) dX3_weekAt_22
  · replace hf := zif_neg h1 hf
    refine z_iload_n hX dX3_weekAt_4 1 rfl ?_
    refine z_aload_n hX dX3_weekAt_5 0 rfl ?_
    refine gf_Mail_lines hX hkh q173 dX3_weekAt_6 ?_
    refine z_icmp_ge hX 21 dX3_weekAt_9 (by decide) (fun h2 => ?_) (fun h2 => ?_)
    · replace hf := zif_pos h2 hf
      refine z_iconst hX dX3_weekAt_21 ci_m1 ?_
      obtain rfl := Option.some.inj hf
      exact z_iret hX hr rfl (zl rfl) (zl rfl) dX3_weekAt_22
    · replace hf := zif_neg h2 hf
      refine z_aload_n hX dX3_weekAt_12 0 rfl ?_
      refine gf_Mail_weeks hX hkh q172 dX3_weekAt_13 ?_
      refine z_iload_n hX dX3_weekAt_16 1 rfl ?_
      replace hf := zchk_some hf
      obtain ⟨h3, hf⟩ := hf
      refine z_iald hX (zk_Mail_weeks hkh) (by decide) (zc_1024 _ _ _) h3 dX3_weekAt_17 ?_
      refine z_goto hX 22 dX3_weekAt_18 (by decide) ?_
      obtain rfl := Option.some.inj hf
      exact z_iret hX hr rfl (zl rfl) (zl rfl) dX3_weekAt_22
set_option maxHeartbeats 4000000 in
set_option maxRecDepth 100000 in
theorem ct_X3_weekAt {E : zE} {h : Nat} {v1 : Int32} (hkh : zK h = 3) {g : zM} {r : Int32} (hf : fX3_weekAt h v1 g = some r) : zCt yX3_weekAt cX3_weekAt 2 (some .int) 0 0 E [.ref (E.1 + h), .int v1] g (.inl (some (.int r), g)) := by
  refine zmet (by decide) (zl rfl) (fun X hE hX hT hR hr hn => ?_)
  subst hE
  exact fX3_weekAt_ok hX hT hR hr hn hkh hf
set_option maxHeartbeats 4000000 in
set_option maxRecDepth 100000 in
theorem fX3_lastKind_ok {X : zX} (hX : zCX X cX3_lastKind RX3) (hT : zNT X) (hR : X.2.2.2.1 = zrm 1 0) (hr : X.2.2.2.2.2.2.2.2.1.sig.returnType = (some .int)) (hn : X.2.2.2.2.2.2.2.2.2.1.maxLocals = 1) {h : Nat} (hkh : zK h = 3) {g : zM} {r : Int32} (hf : fX3_lastKind h g = some r) : zW X (zQ X (.inl (some (.int r), g)) 0) 0 0 0 [(0, .ref (zB X + h))] [] g := by
  unfold fX3_lastKind at hf
  refine z_aload_n hX dX3_lastKind_0 0 rfl ?_
  refine z_aload_n hX dX3_lastKind_1 0 rfl ?_
  refine gf_Mail_lines hX hkh q173 dX3_lastKind_2 ?_
  refine z_iconst hX dX3_lastKind_5 ci_1 ?_
  refine z_isub hX dX3_lastKind_6 ?_
  replace hf := zb_some hf
  obtain ⟨r_1, h1, hf⟩ := hf
  refine z_callV1 hX ok_X3_kindAt q521 q522 q523 (zrm_ok hR (by decide)) (ct_X3_kindAt hkh h1) (zrec_Mail hX hkh) dX3_lastKind_7 rfl rfl ?_
  obtain rfl := Option.some.inj hf
  exact z_iret hX hr rfl (zl rfl) (zl rfl) dX3_lastKind_10
set_option maxHeartbeats 4000000 in
set_option maxRecDepth 100000 in
theorem ct_X3_lastKind {E : zE} {h : Nat} (hkh : zK h = 3) {g : zM} {r : Int32} (hf : fX3_lastKind h g = some r) : zCt yX3_lastKind cX3_lastKind 1 (some .int) 1 0 E [.ref (E.1 + h)] g (.inl (some (.int r), g)) := by
  refine zmet (by decide) (zl rfl) (fun X hE hX hT hR hr hn => ?_)
  subst hE
  exact fX3_lastKind_ok hX hT hR hr hn hkh hf
set_option maxHeartbeats 4000000 in
set_option maxRecDepth 100000 in
theorem fX3_kindSet_L4_ok {X : zX} (hX : zCX X cX3_kindSet RX3) (hT : zNT X) (hR : X.2.2.2.1 = zrm 0 0) (hr : X.2.2.2.2.2.2.2.2.1.sig.returnType = (some .int)) (hn : X.2.2.2.2.2.2.2.2.2.1.maxLocals = 3) {h : Nat} (hkh : zK h = 3) {g : zM} {r : Int32}  : ∀ (n : Nat) (v1 : Int32) (v2 : Int32), fX3_kindSet_L4 h g n v1 v2 = some r → zW X (zQ X (.inl (some (.int r), g)) 0) 0 0 4 [(0, .ref (zB X + h)), (1, .int v1), (2, .int v2)] [] g := by
  intro n
  induction n with
  | zero => intro v1 v2 hf; exact zno hf
  | succ n ih =>
    intro v1 v2 hf
    rw [fX3_kindSet_L4] at hf
    refine z_iload_n hX dX3_kindSet_4 2 rfl ?_
    refine z_aload_n hX dX3_kindSet_5 0 rfl ?_
    refine gf_Mail_lines hX hkh q173 dX3_kindSet_6 ?_
    refine z_icmp_ge hX 29 dX3_kindSet_9 (by decide) (fun h1 => ?_) (fun h1 => ?_)
    · replace hf := zif_pos h1 hf
      refine z_iload_n hX dX3_kindSet_29 1 rfl ?_
      obtain rfl := Option.some.inj hf
      exact z_iret hX hr rfl (zl rfl) (zl rfl) dX3_kindSet_30
    · replace hf := zif_neg h1 hf
      refine z_iload_n hX dX3_kindSet_12 1 rfl ?_
      refine z_iconst hX dX3_kindSet_13 ci_1 ?_
      refine z_aload_n hX dX3_kindSet_14 0 rfl ?_
      refine gf_Mail_kinds hX hkh q170 dX3_kindSet_15 ?_
      refine z_iload_n hX dX3_kindSet_18 2 rfl ?_
      replace hf := zchk_some hf
      obtain ⟨h2, hf⟩ := hf
      refine z_iald hX (zk_Mail_kinds hkh) (by decide) (zc_1024 _ _ _) h2 dX3_kindSet_19 ?_
      refine z_ishl hX dX3_kindSet_20 ?_
      refine z_ior hX dX3_kindSet_21 ?_
      refine z_istore_n (lv' := [(1, .int (v1 ||| (1 <<< ((g (h + 1) v2.toNatClampNeg) &&& 31)))), (0, .ref (zB X + h)), (2, .int v2)]) hX dX3_kindSet_22 hn (by decide) rfl ?_
      refine z_iincc (lv' := [(2, .int (v2 + 1)), (1, .int (v1 ||| (1 <<< ((g (h + 1) v2.toNatClampNeg) &&& 31)))), (0, .ref (zB X + h))]) hX dX3_kindSet_23 hn (by decide) 2 rfl ci_1 rfl ?_
      refine z_goto hX 4 dX3_kindSet_26 (by decide) ?_
      refine zW.sub [2, 1, 0] rfl ?_
      exact ih (v1 ||| (1 <<< ((g (h + 1) v2.toNatClampNeg) &&& 31))) (v2 + 1) hf
set_option maxHeartbeats 4000000 in
set_option maxRecDepth 100000 in
theorem fX3_kindSet_ok {X : zX} (hX : zCX X cX3_kindSet RX3) (hT : zNT X) (hR : X.2.2.2.1 = zrm 0 0) (hr : X.2.2.2.2.2.2.2.2.1.sig.returnType = (some .int)) (hn : X.2.2.2.2.2.2.2.2.2.1.maxLocals = 3) {h : Nat} (hkh : zK h = 3) {g : zM} {r : Int32} (hf : fX3_kindSet h g = some r) : zW X (zQ X (.inl (some (.int r), g)) 0) 0 0 0 [(0, .ref (zB X + h))] [] g := by
  unfold fX3_kindSet at hf
  refine z_iconst hX dX3_kindSet_0 ci_0 ?_
  refine z_istore_n (lv' := [(1, .int 0), (0, .ref (zB X + h))]) hX dX3_kindSet_1 hn (by decide) rfl ?_
  refine z_iconst hX dX3_kindSet_2 ci_0 ?_
  refine z_istore_n (lv' := [(2, .int 0), (1, .int 0), (0, .ref (zB X + h))]) hX dX3_kindSet_3 hn (by decide) rfl ?_
  refine zW.sub [2, 1, 0] rfl ?_
  exact fX3_kindSet_L4_ok hX hT hR hr hn hkh zFU 0 0 hf
set_option maxHeartbeats 4000000 in
set_option maxRecDepth 100000 in
theorem ct_X3_kindSet {E : zE} {h : Nat} (hkh : zK h = 3) {g : zM} {r : Int32} (hf : fX3_kindSet h g = some r) : zCt yX3_kindSet cX3_kindSet 3 (some .int) 0 0 E [.ref (E.1 + h)] g (.inl (some (.int r), g)) := by
  refine zmet (by decide) (zl rfl) (fun X hE hX hT hR hr hn => ?_)
  subst hE
  exact fX3_kindSet_ok hX hT hR hr hn hkh hf
set_option maxHeartbeats 4000000 in
set_option maxRecDepth 100000 in
theorem fX3_holds_ok {X : zX} (hX : zCX X cX3_holds RX3) (hT : zNT X) (hR : X.2.2.2.1 = zrm 1 0) (hr : X.2.2.2.2.2.2.2.2.1.sig.returnType = (some .boolean)) (hn : X.2.2.2.2.2.2.2.2.2.1.maxLocals = 2) {h : Nat} {v1 : Int32} (hkh : zK h = 3) {g : zM} {r : Int32} (hf : fX3_holds h v1 g = some r) : zW X (zQ X (.inl (some (.int r), g)) 0) 0 0 0 [(0, .ref (zB X + h)), (1, .int v1)] [] g := by
  unfold fX3_holds at hf
  refine z_aload_n hX dX3_holds_0 0 rfl ?_
  replace hf := zb_some hf
  obtain ⟨r_1, h1, hf⟩ := hf
  refine z_callV1 hX ok_X3_kindSet q1216 q1217 q1218 (zrm_ok hR (by decide)) (ct_X3_kindSet hkh h1) (zrec_Mail hX hkh) dX3_holds_1 rfl rfl ?_
  refine z_iload_n hX dX3_holds_4 1 rfl ?_
  refine z_ishr hX dX3_holds_5 ?_
  refine z_iconst hX dX3_holds_6 ci_1 ?_
  refine z_iand hX dX3_holds_7 ?_
  refine z_iconst hX dX3_holds_8 ci_1 ?_
  refine z_icmp_ne hX 16 dX3_holds_9 (by decide) (fun h2 => ?_) (fun h2 => ?_)
  · replace hf := zif_neg h2 hf
    refine z_iconst hX dX3_holds_16 ci_0 ?_
    obtain rfl := Option.some.inj hf
    exact z_iret hX hr rfl (zl rfl) (zl rfl) dX3_holds_17
  · replace hf := zif_pos h2 hf
    refine z_iconst hX dX3_holds_12 ci_1 ?_
    refine z_goto hX 17 dX3_holds_13 (by decide) ?_
    obtain rfl := Option.some.inj hf
    exact z_iret hX hr rfl (zl rfl) (zl rfl) dX3_holds_17
set_option maxHeartbeats 4000000 in
set_option maxRecDepth 100000 in
theorem ct_X3_holds {E : zE} {h : Nat} {v1 : Int32} (hkh : zK h = 3) {g : zM} {r : Int32} (hf : fX3_holds h v1 g = some r) : zCt yX3_holds cX3_holds 2 (some .boolean) 1 0 E [.ref (E.1 + h), .int v1] g (.inl (some (.int r), g)) := by
  refine zmet (by decide) (zl rfl) (fun X hE hX hT hR hr hn => ?_)
  subst hE
  exact fX3_holds_ok hX hT hR hr hn hkh hf
set_option maxHeartbeats 4000000 in
set_option maxRecDepth 100000 in
theorem fX3_binds_L5_ok {X : zX} (hX : zCX X cX3_binds RX3) (hT : zNT X) (hR : X.2.2.2.1 = zrm 0 0) (hr : X.2.2.2.2.2.2.2.2.1.sig.returnType = (some .boolean)) (hn : X.2.2.2.2.2.2.2.2.2.1.maxLocals = 5) {h : Nat} {v1 : Int32} {v2 : Int32} (hkh : zK h = 3) {g : zM} {r : Int32}  : ∀ (n : Nat) (v3 : Int32) (v4 : Int32), fX3_binds_L5 h v1 v2 g n v3 v4 = some r → zW X (zQ X (.inl (some (.int r), g)) 0) 0 0 5 [(0, .ref (zB X + h)), (1, .int v1), (2, .int v2), (3, .int v3), (4, .int v4)] [] g := by
  intro n
  induction n with
  | zero => intro v3 v4 hf; exact zno hf
  | succ n ih =>
    intro v3 v4 hf
    rw [fX3_binds_L5] at hf
    refine z_iload hX dX3_binds_5 4 rfl ?_
    refine z_aload_n hX dX3_binds_7 0 rfl ?_
    refine gf_Mail_lines hX hkh q173 dX3_binds_8 ?_
    refine z_icmp_ge hX 58 dX3_binds_11 (by decide) (fun h1 => ?_) (fun h1 => ?_)
    · replace hf := zif_pos h1 hf
      refine z_iconst hX dX3_binds_58 ci_0 ?_
      obtain rfl := Option.some.inj hf
      exact z_iret hX hr rfl (zl rfl) (zl rfl) dX3_binds_59
    · replace hf := zif_neg h1 hf
      refine z_iload_n hX dX3_binds_14 3 rfl ?_
      refine zjoin_ok (P := fun (k : Option Int32) => k = some r → zW X (zQ X (.inl (some (.int r), g)) 0) 0 0 31 [(0, .ref (zB X + h)), (1, .int v1), (2, .int v2), (3, .int v3), (4, .int v4)] [] g) hf (fun hf => ?_) (fun k31 hk31 hf => ?_)
      · refine z_iload_n hX dX3_binds_31 3 rfl ?_
        refine z_if_ne hX 46 dX3_binds_32 (by decide) (fun h3 => ?_) (fun h3 => ?_)
        · replace hf := zif_neg h3 hf
          refine z_iconst hX dX3_binds_46 ci_1 ?_
          refine z_goto hX 51 dX3_binds_47 (by decide) ?_
          refine z_istore_n (lv' := [(3, .int 1), (0, .ref (zB X + h)), (1, .int v1), (2, .int v2), (4, .int v4)]) hX dX3_binds_51 hn (by decide) rfl ?_
          refine z_iincc (lv' := [(4, .int (v4 + 1)), (3, .int 1), (0, .ref (zB X + h)), (1, .int v1), (2, .int v2)]) hX dX3_binds_52 hn (by decide) 4 rfl ci_1 rfl ?_
          refine z_goto hX 5 dX3_binds_55 (by decide) ?_
          refine zW.sub [2, 3, 4, 1, 0] rfl ?_
          exact ih 1 (v4 + 1) hf
        · replace hf := zif_pos h3 hf
          refine z_aload_n hX dX3_binds_35 0 rfl ?_
          refine gf_Mail_kinds hX hkh q170 dX3_binds_36 ?_
          refine z_iload hX dX3_binds_39 4 rfl ?_
          replace hf := zchk_some hf
          obtain ⟨h4, hf⟩ := hf
          refine z_iald hX (zk_Mail_kinds hkh) (by decide) (zc_1024 _ _ _) h4 dX3_binds_41 ?_
          refine z_iload_n hX dX3_binds_42 1 rfl ?_
          refine z_icmp_ne hX 50 dX3_binds_43 (by decide) (fun h5 => ?_) (fun h5 => ?_)
          · replace hf := zif_neg h5 hf
            refine z_iconst hX dX3_binds_50 ci_0 ?_
            refine z_istore_n (lv' := [(3, .int 0), (0, .ref (zB X + h)), (1, .int v1), (2, .int v2), (4, .int v4)]) hX dX3_binds_51 hn (by decide) rfl ?_
            refine z_iincc (lv' := [(4, .int (v4 + 1)), (3, .int 0), (0, .ref (zB X + h)), (1, .int v1), (2, .int v2)]) hX dX3_binds_52 hn (by decide) 4 rfl ci_1 rfl ?_
            refine z_goto hX 5 dX3_binds_55 (by decide) ?_
            refine zW.sub [2, 3, 4, 1, 0] rfl ?_
            exact ih 0 (v4 + 1) hf
          · replace hf := zif_pos h5 hf
            refine z_iconst hX dX3_binds_46 ci_1 ?_
            refine z_goto hX 51 dX3_binds_47 (by decide) ?_
            refine z_istore_n (lv' := [(3, .int 1), (0, .ref (zB X + h)), (1, .int v1), (2, .int v2), (4, .int v4)]) hX dX3_binds_51 hn (by decide) rfl ?_
            refine z_iincc (lv' := [(4, .int (v4 + 1)), (3, .int 1), (0, .ref (zB X + h)), (1, .int v1), (2, .int v2)]) hX dX3_binds_52 hn (by decide) 4 rfl ci_1 rfl ?_
            refine z_goto hX 5 dX3_binds_55 (by decide) ?_
            refine zW.sub [2, 3, 4, 1, 0] rfl ?_
            exact ih 1 (v4 + 1) hf
      · refine z_if_eq hX 31 dX3_binds_15 (by decide) (fun h6 => ?_) (fun h6 => ?_)
        · replace hf := zif_pos h6 hf
          exact hk31 hf
        · replace hf := zif_neg h6 hf
          refine z_aload_n hX dX3_binds_18 0 rfl ?_
          refine gf_Mail_kinds hX hkh q170 dX3_binds_19 ?_
          refine z_iload hX dX3_binds_22 4 rfl ?_
          replace hf := zchk_some hf
          obtain ⟨h7, hf⟩ := hf
          refine z_iald hX (zk_Mail_kinds hkh) (by decide) (zc_1024 _ _ _) h7 dX3_binds_24 ?_
          refine z_iload_n hX dX3_binds_25 2 rfl ?_
          refine z_icmp_ne hX 31 dX3_binds_26 (by decide) (fun h8 => ?_) (fun h8 => ?_)
          · replace hf := zif_neg h8 hf
            exact hk31 hf
          · replace hf := zif_pos h8 hf
            refine z_iconst hX dX3_binds_29 ci_1 ?_
            obtain rfl := Option.some.inj hf
            exact z_iret hX hr rfl (zl rfl) (zl rfl) dX3_binds_30
set_option maxHeartbeats 4000000 in
set_option maxRecDepth 100000 in
theorem fX3_binds_ok {X : zX} (hX : zCX X cX3_binds RX3) (hT : zNT X) (hR : X.2.2.2.1 = zrm 0 0) (hr : X.2.2.2.2.2.2.2.2.1.sig.returnType = (some .boolean)) (hn : X.2.2.2.2.2.2.2.2.2.1.maxLocals = 5) {h : Nat} {v1 : Int32} {v2 : Int32} (hkh : zK h = 3) {g : zM} {r : Int32} (hf : fX3_binds h v1 v2 g = some r) : zW X (zQ X (.inl (some (.int r), g)) 0) 0 0 0 [(0, .ref (zB X + h)), (1, .int v1), (2, .int v2)] [] g := by
  unfold fX3_binds at hf
  refine z_iconst hX dX3_binds_0 ci_0 ?_
  refine z_istore_n (lv' := [(3, .int 0), (0, .ref (zB X + h)), (1, .int v1), (2, .int v2)]) hX dX3_binds_1 hn (by decide) rfl ?_
  refine z_iconst hX dX3_binds_2 ci_0 ?_
  refine z_istore (lv' := [(4, .int 0), (3, .int 0), (0, .ref (zB X + h)), (1, .int v1), (2, .int v2)]) hX dX3_binds_3 hn (by decide) rfl ?_
  refine zW.sub [2, 3, 4, 1, 0] rfl ?_
  exact fX3_binds_L5_ok hX hT hR hr hn hkh zFU 0 0 hf
set_option maxHeartbeats 4000000 in
set_option maxRecDepth 100000 in
theorem ct_X3_binds {E : zE} {h : Nat} {v1 : Int32} {v2 : Int32} (hkh : zK h = 3) {g : zM} {r : Int32} (hf : fX3_binds h v1 v2 g = some r) : zCt yX3_binds cX3_binds 5 (some .boolean) 0 0 E [.ref (E.1 + h), .int v1, .int v2] g (.inl (some (.int r), g)) := by
  refine zmet (by decide) (zl rfl) (fun X hE hX hT hR hr hn => ?_)
  subst hE
  exact fX3_binds_ok hX hT hR hr hn hkh hf
set_option maxHeartbeats 4000000 in
set_option maxRecDepth 100000 in
theorem fX3_firstUnlike_L14_ok {X : zX} (hX : zCX X cX3_firstUnlike RX3) (hT : zNT X) (hR : X.2.2.2.1 = zrm 5 0) (hr : X.2.2.2.2.2.2.2.2.1.sig.returnType = (some .int)) (hn : X.2.2.2.2.2.2.2.2.2.1.maxLocals = 4) {h : Nat} {r1 : Nat} {v2 : Int32} (hkh : zK h = 3) (hkr1 : zK r1 = 3) {g : zM} {r : Int32}  : ∀ (n : Nat) (v3 : Int32), fX3_firstUnlike_L14 h r1 v2 g n v3 = some r → zW X (zQ X (.inl (some (.int r), g)) 0) 0 0 14 [(0, .ref (zB X + h)), (1, .ref (zB X + r1)), (2, .int v2), (3, .int v3)] [] g := by
  intro n
  induction n with
  | zero => intro v3 hf; exact zno hf
  | succ n ih =>
    intro v3 hf
    rw [fX3_firstUnlike_L14] at hf
    refine z_iload_n hX dX3_firstUnlike_14 3 rfl ?_
    refine z_iload_n hX dX3_firstUnlike_15 2 rfl ?_
    refine z_icmp_ge hX 40 dX3_firstUnlike_16 (by decide) (fun h1 => ?_) (fun h1 => ?_)
    · replace hf := zif_pos h1 hf
      refine z_iconst hX dX3_firstUnlike_40 ci_m1 ?_
      obtain rfl := Option.some.inj hf
      exact z_iret hX hr rfl (zl rfl) (zl rfl) dX3_firstUnlike_41
    · replace hf := zif_neg h1 hf
      refine z_aload_n hX dX3_firstUnlike_19 0 rfl ?_
      refine z_iload_n hX dX3_firstUnlike_20 3 rfl ?_
      replace hf := zb_some hf
      obtain ⟨r_2, h2, hf⟩ := hf
      refine z_callV1 hX ok_X3_kindAt q521 q522 q523 (zrm_ok hR (by decide)) (ct_X3_kindAt hkh h2) (zrec_Mail hX hkh) dX3_firstUnlike_21 rfl rfl ?_
      refine z_aload_n hX dX3_firstUnlike_24 1 rfl ?_
      refine z_iload_n hX dX3_firstUnlike_25 3 rfl ?_
      replace hf := zb_some hf
      obtain ⟨r_3, h3, hf⟩ := hf
      refine z_callV1 hX ok_X3_kindAt q521 q522 q523 (zrm_ok hR (by decide)) (ct_X3_kindAt hkr1 h3) (zrec_Mail hX hkr1) dX3_firstUnlike_26 rfl rfl ?_
      refine z_icmp_eq hX 34 dX3_firstUnlike_29 (by decide) (fun h4 => ?_) (fun h4 => ?_)
      · replace hf := zif_pos h4 hf
        refine z_iincc (lv' := [(3, .int (v3 + 1)), (0, .ref (zB X + h)), (1, .ref (zB X + r1)), (2, .int v2)]) hX dX3_firstUnlike_34 hn (by decide) 3 rfl ci_1 rfl ?_
        refine z_goto hX 14 dX3_firstUnlike_37 (by decide) ?_
        refine zW.sub [1, 2, 3, 0] rfl ?_
        exact ih (v3 + 1) hf
      · replace hf := zif_neg h4 hf
        refine z_iload_n hX dX3_firstUnlike_32 3 rfl ?_
        obtain rfl := Option.some.inj hf
        exact z_iret hX hr rfl (zl rfl) (zl rfl) dX3_firstUnlike_33
set_option maxHeartbeats 4000000 in
set_option maxRecDepth 100000 in
theorem fX3_firstUnlike_ok {X : zX} (hX : zCX X cX3_firstUnlike RX3) (hT : zNT X) (hR : X.2.2.2.1 = zrm 5 0) (hr : X.2.2.2.2.2.2.2.2.1.sig.returnType = (some .int)) (hn : X.2.2.2.2.2.2.2.2.2.1.maxLocals = 4) {h : Nat} {r1 : Nat} (hkh : zK h = 3) (hk1 : zK r1 = 3) {g : zM} {r : Int32} (hf : fX3_firstUnlike h r1 g = some r) : zW X (zQ X (.inl (some (.int r), g)) 0) 0 0 0 [(0, .ref (zB X + h)), (1, .ref (zB X + r1))] [] g := by
  unfold fX3_firstUnlike at hf
  refine z_aload_n hX dX3_firstUnlike_0 0 rfl ?_
  refine gf_Mail_lines hX hkh q173 dX3_firstUnlike_1 ?_
  refine z_aload_n hX dX3_firstUnlike_4 1 rfl ?_
  refine gf_Mail_lines hX hk1 q173 dX3_firstUnlike_5 ?_
  refine z_max hX hR ⟨zl rfl, zl rfl⟩ q1309 dX3_firstUnlike_8 (zl rfl) ?_
  refine z_istore_n (lv' := [(2, .int (if g h 2 < g r1 2 then g r1 2 else g h 2)), (0, .ref (zB X + h)), (1, .ref (zB X + r1))]) hX dX3_firstUnlike_11 hn (by decide) rfl ?_
  refine z_iconst hX dX3_firstUnlike_12 ci_0 ?_
  refine z_istore_n (lv' := [(3, .int 0), (2, .int (if g h 2 < g r1 2 then g r1 2 else g h 2)), (0, .ref (zB X + h)), (1, .ref (zB X + r1))]) hX dX3_firstUnlike_13 hn (by decide) rfl ?_
  refine zW.sub [2, 3, 1, 0] rfl ?_
  exact fX3_firstUnlike_L14_ok hX hT hR hr hn hkh hk1 zFU 0 hf
set_option maxHeartbeats 4000000 in
set_option maxRecDepth 100000 in
theorem ct_X3_firstUnlike {E : zE} {h : Nat} {r1 : Nat} (hkh : zK h = 3) (hk1 : zK r1 = 3) {g : zM} {r : Int32} (hf : fX3_firstUnlike h r1 g = some r) : zCt yX3_firstUnlike cX3_firstUnlike 4 (some .int) 5 0 E [.ref (E.1 + h), .ref (E.1 + r1)] g (.inl (some (.int r), g)) := by
  refine zmet (by decide) (zl rfl) (fun X hE hX hT hR hr hn => ?_)
  subst hE
  exact fX3_firstUnlike_ok hX hT hR hr hn hkh hk1 hf
set_option maxHeartbeats 4000000 in
set_option maxRecDepth 100000 in
theorem fX3_alikeFrom_L6_ok {X : zX} (hX : zCX X cX3_alikeFrom RX3) (hT : zNT X) (hR : X.2.2.2.1 = zrm 1 0) (hr : X.2.2.2.2.2.2.2.2.1.sig.returnType = (some .int)) (hn : X.2.2.2.2.2.2.2.2.2.1.maxLocals = 6) {h : Nat} {v1 : Int32} {r2 : Nat} {v3 : Int32} (hkh : zK h = 3) (hkr2 : zK r2 = 3) {g : zM} {r : Int32}  : ∀ (n : Nat) (v4 : Int32) (v5 : Int32), fX3_alikeFrom_L6 h v1 r2 v3 g n v4 v5 = some r → zW X (zQ X (.inl (some (.int r), g)) 0) 0 0 6 [(0, .ref (zB X + h)), (1, .int v1), (2, .ref (zB X + r2)), (3, .int v3), (4, .int v4), (5, .int v5)] [] g := by
  intro n
  induction n with
  | zero => intro v4 v5 hf; exact zno hf
  | succ n ih =>
    intro v4 v5 hf
    rw [fX3_alikeFrom_L6] at hf
    refine z_iload_n hX dX3_alikeFrom_6 1 rfl ?_
    refine z_iload hX dX3_alikeFrom_7 5 rfl ?_
    refine z_iadd hX dX3_alikeFrom_9 ?_
    refine z_aload_n hX dX3_alikeFrom_10 0 rfl ?_
    refine gf_Mail_lines hX hkh q173 dX3_alikeFrom_11 ?_
    refine z_icmp_ge hX 59 dX3_alikeFrom_14 (by decide) (fun h1 => ?_) (fun h1 => ?_)
    · replace hf := zif_pos h1 hf
      refine z_iload hX dX3_alikeFrom_59 4 rfl ?_
      obtain rfl := Option.some.inj hf
      exact z_iret hX hr rfl (zl rfl) (zl rfl) dX3_alikeFrom_61
    · replace hf := zif_neg h1 hf
      refine z_iload_n hX dX3_alikeFrom_17 3 rfl ?_
      refine z_iload hX dX3_alikeFrom_18 5 rfl ?_
      refine z_iadd hX dX3_alikeFrom_20 ?_
      refine z_aload_n hX dX3_alikeFrom_21 2 rfl ?_
      refine gf_Mail_lines hX hkr2 q173 dX3_alikeFrom_22 ?_
      refine z_icmp_ge hX 59 dX3_alikeFrom_25 (by decide) (fun h2 => ?_) (fun h2 => ?_)
      · replace hf := zif_pos h2 hf
        refine z_iload hX dX3_alikeFrom_59 4 rfl ?_
        obtain rfl := Option.some.inj hf
        exact z_iret hX hr rfl (zl rfl) (zl rfl) dX3_alikeFrom_61
      · replace hf := zif_neg h2 hf
        refine z_aload_n hX dX3_alikeFrom_28 0 rfl ?_
        refine z_iload_n hX dX3_alikeFrom_29 1 rfl ?_
        refine z_iload hX dX3_alikeFrom_30 5 rfl ?_
        refine z_iadd hX dX3_alikeFrom_32 ?_
        replace hf := zb_some hf
        obtain ⟨r_3, h3, hf⟩ := hf
        refine z_callV1 hX ok_X3_kindAt q521 q522 q523 (zrm_ok hR (by decide)) (ct_X3_kindAt hkh h3) (zrec_Mail hX hkh) dX3_alikeFrom_33 rfl rfl ?_
        refine z_aload_n hX dX3_alikeFrom_36 2 rfl ?_
        refine z_iload_n hX dX3_alikeFrom_37 3 rfl ?_
        refine z_iload hX dX3_alikeFrom_38 5 rfl ?_
        refine z_iadd hX dX3_alikeFrom_40 ?_
        replace hf := zb_some hf
        obtain ⟨r_4, h4, hf⟩ := hf
        refine z_callV1 hX ok_X3_kindAt q521 q522 q523 (zrm_ok hR (by decide)) (ct_X3_kindAt hkr2 h4) (zrec_Mail hX hkr2) dX3_alikeFrom_41 rfl rfl ?_
        refine z_icmp_eq hX 50 dX3_alikeFrom_44 (by decide) (fun h5 => ?_) (fun h5 => ?_)
        · replace hf := zif_pos h5 hf
          refine z_iincc (lv' := [(4, .int (v4 + 1)), (0, .ref (zB X + h)), (1, .int v1), (2, .ref (zB X + r2)), (3, .int v3), (5, .int v5)]) hX dX3_alikeFrom_50 hn (by decide) 4 rfl ci_1 rfl ?_
          refine z_iincc (lv' := [(5, .int (v5 + 1)), (4, .int (v4 + 1)), (0, .ref (zB X + h)), (1, .int v1), (2, .ref (zB X + r2)), (3, .int v3)]) hX dX3_alikeFrom_53 hn (by decide) 5 rfl ci_1 rfl ?_
          refine z_goto hX 6 dX3_alikeFrom_56 (by decide) ?_
          refine zW.sub [2, 3, 4, 5, 1, 0] rfl ?_
          exact ih (v4 + 1) (v5 + 1) hf
        · replace hf := zif_neg h5 hf
          refine z_iload hX dX3_alikeFrom_47 4 rfl ?_
          obtain rfl := Option.some.inj hf
          exact z_iret hX hr rfl (zl rfl) (zl rfl) dX3_alikeFrom_49
set_option maxHeartbeats 4000000 in
set_option maxRecDepth 100000 in
theorem fX3_alikeFrom_ok {X : zX} (hX : zCX X cX3_alikeFrom RX3) (hT : zNT X) (hR : X.2.2.2.1 = zrm 1 0) (hr : X.2.2.2.2.2.2.2.2.1.sig.returnType = (some .int)) (hn : X.2.2.2.2.2.2.2.2.2.1.maxLocals = 6) {h : Nat} {v1 : Int32} {r2 : Nat} {v3 : Int32} (hkh : zK h = 3) (hk2 : zK r2 = 3) {g : zM} {r : Int32} (hf : fX3_alikeFrom h v1 r2 v3 g = some r) : zW X (zQ X (.inl (some (.int r), g)) 0) 0 0 0 [(0, .ref (zB X + h)), (1, .int v1), (2, .ref (zB X + r2)), (3, .int v3)] [] g := by
  unfold fX3_alikeFrom at hf
  refine z_iconst hX dX3_alikeFrom_0 ci_0 ?_
  refine z_istore (lv' := [(4, .int 0), (0, .ref (zB X + h)), (1, .int v1), (2, .ref (zB X + r2)), (3, .int v3)]) hX dX3_alikeFrom_1 hn (by decide) rfl ?_
  refine z_iconst hX dX3_alikeFrom_3 ci_0 ?_
  refine z_istore (lv' := [(5, .int 0), (4, .int 0), (0, .ref (zB X + h)), (1, .int v1), (2, .ref (zB X + r2)), (3, .int v3)]) hX dX3_alikeFrom_4 hn (by decide) rfl ?_
  refine zW.sub [2, 3, 4, 5, 1, 0] rfl ?_
  exact fX3_alikeFrom_L6_ok hX hT hR hr hn hkh hk2 zFU 0 0 hf
set_option maxHeartbeats 4000000 in
set_option maxRecDepth 100000 in
theorem ct_X3_alikeFrom {E : zE} {h : Nat} {v1 : Int32} {r2 : Nat} {v3 : Int32} (hkh : zK h = 3) (hk2 : zK r2 = 3) {g : zM} {r : Int32} (hf : fX3_alikeFrom h v1 r2 v3 g = some r) : zCt yX3_alikeFrom cX3_alikeFrom 6 (some .int) 1 0 E [.ref (E.1 + h), .int v1, .ref (E.1 + r2), .int v3] g (.inl (some (.int r), g)) := by
  refine zmet (by decide) (zl rfl) (fun X hE hX hT hR hr hn => ?_)
  subst hE
  exact fX3_alikeFrom_ok hX hT hR hr hn hkh hk2 hf
set_option maxHeartbeats 4000000 in
set_option maxRecDepth 100000 in
theorem fX3_linesOf_L4_ok {X : zX} (hX : zCX X cX3_linesOf RX3) (hT : zNT X) (hR : X.2.2.2.1 = zrm 0 0) (hr : X.2.2.2.2.2.2.2.2.1.sig.returnType = (some .int)) (hn : X.2.2.2.2.2.2.2.2.2.1.maxLocals = 4) {h : Nat} {v1 : Int32} (hkh : zK h = 3) {g : zM} {r : Int32}  : ∀ (n : Nat) (v2 : Int32) (v3 : Int32), fX3_linesOf_L4 h v1 g n v2 v3 = some r → zW X (zQ X (.inl (some (.int r), g)) 0) 0 0 4 [(0, .ref (zB X + h)), (1, .int v1), (2, .int v2), (3, .int v3)] [] g := by
  intro n
  induction n with
  | zero => intro v2 v3 hf; exact zno hf
  | succ n ih =>
    intro v2 v3 hf
    rw [fX3_linesOf_L4] at hf
    refine z_iload_n hX dX3_linesOf_4 3 rfl ?_
    refine z_aload_n hX dX3_linesOf_5 0 rfl ?_
    refine gf_Mail_lines hX hkh q173 dX3_linesOf_6 ?_
    refine z_icmp_ge hX 31 dX3_linesOf_9 (by decide) (fun h1 => ?_) (fun h1 => ?_)
    · replace hf := zif_pos h1 hf
      refine z_iload_n hX dX3_linesOf_31 2 rfl ?_
      obtain rfl := Option.some.inj hf
      exact z_iret hX hr rfl (zl rfl) (zl rfl) dX3_linesOf_32
    · replace hf := zif_neg h1 hf
      refine z_aload_n hX dX3_linesOf_12 0 rfl ?_
      refine gf_Mail_weeks hX hkh q172 dX3_linesOf_13 ?_
      refine z_iload_n hX dX3_linesOf_16 3 rfl ?_
      replace hf := zchk_some hf
      obtain ⟨h2, hf⟩ := hf
      refine z_iald hX (zk_Mail_weeks hkh) (by decide) (zc_1024 _ _ _) h2 dX3_linesOf_17 ?_
      refine z_iload_n hX dX3_linesOf_18 1 rfl ?_
      refine z_icmp_ne hX 25 dX3_linesOf_19 (by decide) (fun h3 => ?_) (fun h3 => ?_)
      · replace hf := zif_neg h3 hf
        refine z_iincc (lv' := [(3, .int (v3 + 1)), (0, .ref (zB X + h)), (1, .int v1), (2, .int v2)]) hX dX3_linesOf_25 hn (by decide) 3 rfl ci_1 rfl ?_
        refine z_goto hX 4 dX3_linesOf_28 (by decide) ?_
        refine zW.sub [1, 2, 3, 0] rfl ?_
        exact ih v2 (v3 + 1) hf
      · replace hf := zif_pos h3 hf
        refine z_iincc (lv' := [(2, .int (v2 + 1)), (0, .ref (zB X + h)), (1, .int v1), (3, .int v3)]) hX dX3_linesOf_22 hn (by decide) 2 rfl ci_1 rfl ?_
        refine z_iincc (lv' := [(3, .int (v3 + 1)), (2, .int (v2 + 1)), (0, .ref (zB X + h)), (1, .int v1)]) hX dX3_linesOf_25 hn (by decide) 3 rfl ci_1 rfl ?_
        refine z_goto hX 4 dX3_linesOf_28 (by decide) ?_
        refine zW.sub [2, 3, 1, 0] rfl ?_
        exact ih (v2 + 1) (v3 + 1) hf
set_option maxHeartbeats 4000000 in
set_option maxRecDepth 100000 in
theorem fX3_linesOf_ok {X : zX} (hX : zCX X cX3_linesOf RX3) (hT : zNT X) (hR : X.2.2.2.1 = zrm 0 0) (hr : X.2.2.2.2.2.2.2.2.1.sig.returnType = (some .int)) (hn : X.2.2.2.2.2.2.2.2.2.1.maxLocals = 4) {h : Nat} {v1 : Int32} (hkh : zK h = 3) {g : zM} {r : Int32} (hf : fX3_linesOf h v1 g = some r) : zW X (zQ X (.inl (some (.int r), g)) 0) 0 0 0 [(0, .ref (zB X + h)), (1, .int v1)] [] g := by
  unfold fX3_linesOf at hf
  refine z_iconst hX dX3_linesOf_0 ci_0 ?_
  refine z_istore_n (lv' := [(2, .int 0), (0, .ref (zB X + h)), (1, .int v1)]) hX dX3_linesOf_1 hn (by decide) rfl ?_
  refine z_iconst hX dX3_linesOf_2 ci_0 ?_
  refine z_istore_n (lv' := [(3, .int 0), (2, .int 0), (0, .ref (zB X + h)), (1, .int v1)]) hX dX3_linesOf_3 hn (by decide) rfl ?_
  refine zW.sub [2, 3, 1, 0] rfl ?_
  exact fX3_linesOf_L4_ok hX hT hR hr hn hkh zFU 0 0 hf
set_option maxHeartbeats 4000000 in
set_option maxRecDepth 100000 in
theorem ct_X3_linesOf {E : zE} {h : Nat} {v1 : Int32} (hkh : zK h = 3) {g : zM} {r : Int32} (hf : fX3_linesOf h v1 g = some r) : zCt yX3_linesOf cX3_linesOf 4 (some .int) 0 0 E [.ref (E.1 + h), .int v1] g (.inl (some (.int r), g)) := by
  refine zmet (by decide) (zl rfl) (fun X hE hX hT hR hr hn => ?_)
  subst hE
  exact fX3_linesOf_ok hX hT hR hr hn hkh hf
