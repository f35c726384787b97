def fX12_ofPromise (v1 : Int32) (v2 : Int32) (g : zM) : Option Int32 := if v2 = 0 then zchk ((20 + (2 * v1)) + 0) 2158 (some (g 494 ((20 + (2 * v1)) + 0).toNatClampNeg)) else zchk ((20 + (2 * v1)) + 1) 2158 (some (g 494 ((20 + (2 * v1)) + 1).toNatClampNeg))
set_option maxHeartbeats 4000000 in
set_option maxRecDepth 100000 in
theorem fX12_ofPromise_ok {X : zX} (hX : zCX X cX12_ofPromise RX12) (hT : zNT X) (hR : X.2.2.2.1 = zrm 0 0) (hr : X.2.2.2.2.2.2.2.2.1.sig.returnType = (some .int)) (hn : X.2.2.2.2.2.2.2.2.2.1.maxLocals = 3) {v1 : Int32} {v2 : Int32} {g : zM} {r : Int32} (hf : fX12_ofPromise v1 v2 g = some r) : zW X (zQ X (.inl (some (.int r), g)) 0) 0 0 0 [(0, .ref (zB X + 493)), (1, .int v1), (2, .int v2)] [] g := by
  unfold fX12_ofPromise at hf
  refine z_aload_n hX dX12_ofPromise_0 0 rfl ?_
  refine gf_Model_world hX zq_493 q1495 dX12_ofPromise_1 ?_
  refine z_bipush hX dX12_ofPromise_4 cb_20 ?_
  refine z_iconst hX dX12_ofPromise_6 ci_2 ?_
  refine z_iload_n hX dX12_ofPromise_7 1 rfl ?_
  refine z_imul hX dX12_ofPromise_8 ?_
  refine z_iadd hX dX12_ofPromise_9 ?_
  refine z_iload_n hX dX12_ofPromise_10 2 rfl ?_
  refine z_if_eq hX 18 dX12_ofPromise_11 (by decide) (fun h1 => ?_) (fun h1 => ?_)
  · replace hf := zif_pos h1 hf
    refine z_iconst hX dX12_ofPromise_18 ci_0 ?_
    refine z_iadd hX dX12_ofPromise_19 ?_
    replace hf := zchk_some hf
    obtain ⟨h2, hf⟩ := hf
    refine z_iald hX zq_494 (by decide) (zc_3158 _ _ _) h2 dX12_ofPromise_20 ?_
    obtain rfl := Option.some.inj hf
    exact z_iret hX hr rfl (zl rfl) (zl rfl) dX12_ofPromise_21
  · replace hf := zif_neg h1 hf
    refine z_iconst hX dX12_ofPromise_14 ci_1 ?_
    refine z_goto hX 19 dX12_ofPromise_15 (by decide) ?_
    refine z_iadd hX dX12_ofPromise_19 ?_
    replace hf := zchk_some hf
    obtain ⟨h3, hf⟩ := hf
    refine z_iald hX zq_494 (by decide) (zc_3158 _ _ _) h3 dX12_ofPromise_20 ?_
    obtain rfl := Option.some.inj hf
    exact z_iret hX hr rfl (zl rfl) (zl rfl) dX12_ofPromise_21
set_option maxHeartbeats 4000000 in
set_option maxRecDepth 100000 in
theorem ct_X12_ofPromise {E : zE} {v1 : Int32} {v2 : Int32} {g : zM} {r : Int32} (hf : fX12_ofPromise v1 v2 g = some r) : zCt yX12_ofPromise cX12_ofPromise 3 (some .int) 0 0 E [.ref (E.1 + 493), .int v1, .int v2] g (.inl (some (.int r), g)) := by
  refine zmet (by decide) (zl rfl) (fun X hE hX hT hR hr hn => ?_)
  subst hE
  exact fX12_ofPromise_ok hX hT hR hr hn  hf
def fX12_promise (v1 : Int32) (v2 : Int32) (g : zM) : Option (Int32 × zM) := zput g 493 0 0 (fun g1 => zb (fX12_noPromise v1 g1) (fun r_2 => zb2 (fX12_throwsIf r_2 1 g1) (fun r_3 g3 => if r_3 = 0 then zb (fX12_ofPromise v1 v2 g3) (fun r_5 => some (r_5, g3)) else some (0, g3))))
set_option maxHeartbeats 4000000 in
set_option maxRecDepth 100000 in
theorem fX12_promise_ok {X : zX} (hX : zCX X cX12_promise RX12) (hT : zNT X) (hR : X.2.2.2.1 = zrm 2 0) (hr : X.2.2.2.2.2.2.2.2.1.sig.returnType = (some .int)) (hn : X.2.2.2.2.2.2.2.2.2.1.maxLocals = 3) {v1 : Int32} {v2 : Int32} {g : zM} {r : Int32 × zM} (hf : fX12_promise v1 v2 g = some r) : zW X (zQ X (.inl (some (.int r.1), r.2)) 0) 0 0 0 [(0, .ref (zB X + 493)), (1, .int v1), (2, .int v2)] [] g := by
  unfold fX12_promise at hf
  refine z_aload_n hX dX12_promise_0 0 rfl ?_
  refine z_iconst hX dX12_promise_1 ci_0 ?_
  replace hf := zput_some hf
  obtain ⟨g1, eg1, hf⟩ := hf
  refine gp_Model_thrown hX zq_493 q1494 dX12_promise_2 (zW.eqg eg1 ?_)
  refine z_aload_n hX dX12_promise_5 0 rfl ?_
  refine z_aload_n hX dX12_promise_6 0 rfl ?_
  refine z_iload_n hX dX12_promise_7 1 rfl ?_
  replace hf := zb_some hf
  obtain ⟨r_2, h2, hf⟩ := hf
  refine z_callV1 hX ok_X12_noPromise q1861 q1863 q82 (zrm_ok hR (by decide)) (ct_X12_noPromise  h2) (zrec_Model hX zq_493) dX12_promise_8 rfl rfl ?_
  refine z_iconst hX dX12_promise_11 ci_1 ?_
  replace hf := zb2_some hf
  obtain ⟨r_3, g3, h3, hf⟩ := hf
  refine z_callV1 hX ok_X12_throwsIf q1775 q1777 q67 (zrm_ok hR (by decide)) (ct_X12_throwsIf  h3) (zrec_Model hX zq_493) dX12_promise_12 rfl rfl ?_
  refine z_if_eq hX 22 dX12_promise_15 (by decide) (fun h4 => ?_) (fun h4 => ?_)
  · replace hf := zif_pos h4 hf
    refine z_aload_n hX dX12_promise_22 0 rfl ?_
    refine z_iload_n hX dX12_promise_23 1 rfl ?_
    refine z_iload_n hX dX12_promise_24 2 rfl ?_
    replace hf := zb_some hf
    obtain ⟨r_5, h5, hf⟩ := hf
    refine z_callV1 hX ok_X12_ofPromise q1865 q1867 q83 (zrm_ok hR (by decide)) (ct_X12_ofPromise  h5) (zrec_Model hX zq_493) dX12_promise_25 rfl rfl ?_
    obtain rfl := Option.some.inj hf
    exact z_iret hX hr rfl (zl rfl) (zl rfl) dX12_promise_28
  · replace hf := zif_neg h4 hf
    refine z_iconst hX dX12_promise_18 ci_0 ?_
    refine z_goto hX 28 dX12_promise_19 (by decide) ?_
    obtain rfl := Option.some.inj hf
    exact z_iret hX hr rfl (zl rfl) (zl rfl) dX12_promise_28
set_option maxHeartbeats 4000000 in
set_option maxRecDepth 100000 in
theorem ct_X12_promise {E : zE} {v1 : Int32} {v2 : Int32} {g : zM} {r : Int32 × zM} (hf : fX12_promise v1 v2 g = some r) : zCt yX12_promise cX12_promise 3 (some .int) 2 0 E [.ref (E.1 + 493), .int v1, .int v2] g (.inl (some (.int r.1), r.2)) := by
  refine zmet (by decide) (zl rfl) (fun X hE hX hT hR hr hn => ?_)
  subst hE
  exact fX12_promise_ok hX hT hR hr hn  hf
def fX12_season (v1 : Int32) (g : zM) : Option (Int32 × zM) := zput g 493 0 0 (fun g1 => zb (fX12_in v1 0 9999 g1) (fun r_2 => if r_2 = 0 then zb2 (fX12_throwsIf 1 1 g1) (fun r_7 g7 => if r_7 = 0 then zb (fX12_seasonOf v1 g7) (fun r_9 => some (r_9, g7)) else some (0, g7)) else zb2 (fX12_throwsIf 0 1 g1) (fun r_4 g4 => if r_4 = 0 then zb (fX12_seasonOf v1 g4) (fun r_6 => some (r_6, g4)) else some (0, g4))))
set_option maxHeartbeats 4000000 in
set_option maxRecDepth 100000 in
theorem fX12_season_ok {X : zX} (hX : zCX X cX12_season RX12) (hT : zNT X) (hR : X.2.2.2.1 = zrm 1 0) (hr : X.2.2.2.2.2.2.2.2.1.sig.returnType = (some .int)) (hn : X.2.2.2.2.2.2.2.2.2.1.maxLocals = 2) {v1 : Int32} {g : zM} {r : Int32 × zM} (hf : fX12_season v1 g = some r) : zW X (zQ X (.inl (some (.int r.1), r.2)) 0) 0 0 0 [(0, .ref (zB X + 493)), (1, .int v1)] [] g := by
  unfold fX12_season at hf
  refine z_aload_n hX dX12_season_0 0 rfl ?_
  refine z_iconst hX dX12_season_1 ci_0 ?_
  replace hf := zput_some hf
  obtain ⟨g1, eg1, hf⟩ := hf
  refine gp_Model_thrown hX zq_493 q1494 dX12_season_2 (zW.eqg eg1 ?_)
  refine z_aload_n hX dX12_season_5 0 rfl ?_
  refine z_iload_n hX dX12_season_6 1 rfl ?_
  refine z_iconst hX dX12_season_7 ci_0 ?_
  refine z_sipush hX dX12_season_8 cs_9999 ?_
  replace hf := zb_some hf
  obtain ⟨r_2, h2, hf⟩ := hf
  refine z_callS1 hX ok_X12_in rfl q1666 q1667 (zrm_ok hR (by decide)) (ct_X12_in  h2) dX12_season_11 rfl rfl ?_
  refine z_if_ne hX 21 dX12_season_14 (by decide) (fun h3 => ?_) (fun h3 => ?_)
  · replace hf := zif_neg h3 hf
    refine z_iconst hX dX12_season_21 ci_0 ?_
    refine z_iconst hX dX12_season_22 ci_1 ?_
    replace hf := zb2_some hf
    obtain ⟨r_4, g4, h4, hf⟩ := hf
    refine z_callV1 hX ok_X12_throwsIf q1775 q1777 q67 (zrm_ok hR (by decide)) (ct_X12_throwsIf  h4) (zrec_Model hX zq_493) dX12_season_23 rfl rfl ?_
    refine z_if_eq hX 33 dX12_season_26 (by decide) (fun h5 => ?_) (fun h5 => ?_)
    · replace hf := zif_pos h5 hf
      refine z_iload_n hX dX12_season_33 1 rfl ?_
      replace hf := zb_some hf
      obtain ⟨r_6, h6, hf⟩ := hf
      refine z_callS1 hX ok_X12_seasonOf rfl q1835 q1836 (zrm_ok hR (by decide)) (ct_X12_seasonOf  h6) dX12_season_34 rfl rfl ?_
      obtain rfl := Option.some.inj hf
      exact z_iret hX hr rfl (zl rfl) (zl rfl) dX12_season_37
    · replace hf := zif_neg h5 hf
      refine z_iconst hX dX12_season_29 ci_0 ?_
      refine z_goto hX 37 dX12_season_30 (by decide) ?_
      obtain rfl := Option.some.inj hf
      exact z_iret hX hr rfl (zl rfl) (zl rfl) dX12_season_37
  · replace hf := zif_pos h3 hf
    refine z_iconst hX dX12_season_17 ci_1 ?_
    refine z_goto hX 22 dX12_season_18 (by decide) ?_
    refine z_iconst hX dX12_season_22 ci_1 ?_
    replace hf := zb2_some hf
    obtain ⟨r_7, g7, h7, hf⟩ := hf
    refine z_callV1 hX ok_X12_throwsIf q1775 q1777 q67 (zrm_ok hR (by decide)) (ct_X12_throwsIf  h7) (zrec_Model hX zq_493) dX12_season_23 rfl rfl ?_
    refine z_if_eq hX 33 dX12_season_26 (by decide) (fun h8 => ?_) (fun h8 => ?_)
    · replace hf := zif_pos h8 hf
      refine z_iload_n hX dX12_season_33 1 rfl ?_
      replace hf := zb_some hf
      obtain ⟨r_9, h9, hf⟩ := hf
      refine z_callS1 hX ok_X12_seasonOf rfl q1835 q1836 (zrm_ok hR (by decide)) (ct_X12_seasonOf  h9) dX12_season_34 rfl rfl ?_
      obtain rfl := Option.some.inj hf
      exact z_iret hX hr rfl (zl rfl) (zl rfl) dX12_season_37
    · replace hf := zif_neg h8 hf
      refine z_iconst hX dX12_season_29 ci_0 ?_
      refine z_goto hX 37 dX12_season_30 (by decide) ?_
      obtain rfl := Option.some.inj hf
      exact z_iret hX hr rfl (zl rfl) (zl rfl) dX12_season_37
set_option maxHeartbeats 4000000 in
set_option maxRecDepth 100000 in
theorem ct_X12_season {E : zE} {v1 : Int32} {g : zM} {r : Int32 × zM} (hf : fX12_season v1 g = some r) : zCt yX12_season cX12_season 2 (some .int) 1 0 E [.ref (E.1 + 493), .int v1] g (.inl (some (.int r.1), r.2)) := by
  refine zmet (by decide) (zl rfl) (fun X hE hX hT hR hr hn => ?_)
  subst hE
  exact fX12_season_ok hX hT hR hr hn  hf
def fX12_write_L34 (v1 : Int32) (v2 : Int32) (g : zM) (k72 : Int32 → Option (Int32 × zM)) : Nat → Int32 → Int32 → Option (Int32 × zM)
  | 0, _, _ => none
  | n + 1, v3, v4 => if (g 493 11) ≤ v4 then k72 v3 else if v3 = 0 then k72 v3 else zchk v4 400 (zb (fX12_noKind (g 499 v4.toNatClampNeg) g) (fun r_7 => if r_7 = 0 then fX12_write_L34 v1 v2 g k72 n 1 (v4 + 1) else fX12_write_L34 v1 v2 g k72 n 0 (v4 + 1)))
def fX12_write_L128 (v4 : Int32) : Nat → Int32 → zM → Option (Int32 × zM)
  | 0, _, _ => none
  | n + 1, v5, g => if (g 493 11) ≤ v5 then some (v4, g) else zchk v5 400 (zb (fX12_comes v4 (g 499 v5.toNatClampNeg) g) (fun g21 => fX12_write_L128 v4 n (v5 + 1) g21))
def fX12_write (v1 : Int32) (v2 : Int32) (g : zM) : Option (Int32 × zM) := zb (fX12_uses g) (fun g1 => zb (fX12_noSender v1 v2 g1) (fun r_2 => if r_2 = 0 then zb (fX12_in (g1 493 11) 1 24 g1) (fun r_24 => if r_24 = 0 then fX12_write_L34 v1 v2 g1 (fun v3_26 => zjoin (fun t0_27 => zb2 (fX12_throwsIf t0_27 1 g1) (fun r_28 g28 => if r_28 = 0 then zb (fX12_letters g28) (fun r_30 => zjoin (fun t0_31 => zb2 (fX12_throwsIf t0_31 2 g28) (fun r_32 g32 => if r_32 = 0 then zb (fX12_remembers g32) (fun g34 => zb2 (fX12_begins v1 v2 g34) (fun r_35 g35 => fX12_write_L128 r_35 zFU 0 g35)) else some (0, g32)) : Int32 → Option (Int32 × zM)) (fun k104 => if r_30 = 8 then k104 1 else k104 0)) else some (0, g28)) : Int32 → Option (Int32 × zM)) (fun k82 => if v3_26 = 0 then k82 1 else k82 0)) zFU 0 0 else fX12_write_L34 v1 v2 g1 (fun v3_38 => zjoin (fun t0_39 => zb2 (fX12_throwsIf t0_39 1 g1) (fun r_40 g40 => if r_40 = 0 then zb (fX12_letters g40) (fun r_42 => zjoin (fun t0_43 => zb2 (fX12_throwsIf t0_43 2 g40) (fun r_44 g44 => if r_44 = 0 then zb (fX12_remembers g44) (fun g46 => zb2 (fX12_begins v1 v2 g46) (fun r_47 g47 => fX12_write_L128 r_47 zFU 0 g47)) else some (0, g44)) : Int32 → Option (Int32 × zM)) (fun k104 => if r_42 = 8 then k104 1 else k104 0)) else some (0, g40)) : Int32 → Option (Int32 × zM)) (fun k82 => if v3_38 = 0 then k82 1 else k82 0)) zFU 1 0) else fX12_write_L34 v1 v2 g1 (fun v3_9 => zjoin (fun t0_10 => zb2 (fX12_throwsIf t0_10 1 g1) (fun r_11 g11 => if r_11 = 0 then zb (fX12_letters g11) (fun r_13 => zjoin (fun t0_14 => zb2 (fX12_throwsIf t0_14 2 g11) (fun r_15 g15 => if r_15 = 0 then zb (fX12_remembers g15) (fun g17 => zb2 (fX12_begins v1 v2 g17) (fun r_18 g18 => fX12_write_L128 r_18 zFU 0 g18)) else some (0, g15)) : Int32 → Option (Int32 × zM)) (fun k104 => if r_13 = 8 then k104 1 else k104 0)) else some (0, g11)) : Int32 → Option (Int32 × zM)) (fun k82 => if v3_9 = 0 then k82 1 else k82 0)) zFU 0 0))
set_option maxHeartbeats 4000000 in
set_option maxRecDepth 100000 in
theorem fX12_write_L34_ok {X : zX} (hX : zCX X cX12_write RX12) (hT : zNT X) (hR : X.2.2.2.1 = zrm 4 0) (hr : X.2.2.2.2.2.2.2.2.1.sig.returnType = (some .int)) (hn : X.2.2.2.2.2.2.2.2.2.1.maxLocals = 6) {v1 : Int32} {v2 : Int32} {g : zM} {k72 : Int32 → Option (Int32 × zM)} {r : Int32 × zM} (hk72 : ∀ (v3 : Int32), k72 v3 = some r → zW X (zQ X (.inl (some (.int r.1), r.2)) 0) 0 0 72 [(0, .ref (zB X + 493)), (1, .int v1), (2, .int v2), (3, .int v3)] [] g) : ∀ (n : Nat) (v3 : Int32) (v4 : Int32), fX12_write_L34 v1 v2 g k72 n v3 v4 = some r → zW X (zQ X (.inl (some (.int r.1), r.2)) 0) 0 0 34 [(0, .ref (zB X + 493)), (1, .int v1), (2, .int v2), (3, .int v3), (4, .int v4)] [] g := by
  intro n
  induction n with
  | zero => intro v3 v4 hf; exact zno hf
  | succ n ih =>
    intro v3 v4 hf
    rw [fX12_write_L34] at hf
    refine z_iload hX dX12_write_34 4 rfl ?_
    refine z_aload_n hX dX12_write_36 0 rfl ?_
    refine gf_Model_end hX zq_493 q1505 dX12_write_37 ?_
    refine z_icmp_ge hX 72 dX12_write_40 (by decide) (fun h4 => ?_) (fun h4 => ?_)
    · replace hf := zif_pos h4 hf
      refine zW.sub [0, 1, 2, 3] rfl ?_
      exact hk72 v3 hf
    · replace hf := zif_neg h4 hf
      refine z_iload_n hX dX12_write_43 3 rfl ?_
      refine z_if_eq hX 72 dX12_write_44 (by decide) (fun h5 => ?_) (fun h5 => ?_)
      · replace hf := zif_pos h5 hf
        refine zW.sub [0, 1, 2, 3] rfl ?_
        exact hk72 v3 hf
      · replace hf := zif_neg h5 hf
        refine z_aload_n hX dX12_write_47 0 rfl ?_
        refine gf_Model_tape hX zq_493 q1502 dX12_write_48 ?_
        refine z_iload hX dX12_write_51 4 rfl ?_
        replace hf := zchk_some hf
        obtain ⟨h6, hf⟩ := hf
        refine z_bald hX zq_499 h6 dX12_write_53 ?_
        replace hf := zb_some hf
        obtain ⟨r_7, h7, hf⟩ := hf
        refine z_callS1 hX ok_X12_noKind rfl q1854 q1855 (zrm_ok hR (by decide)) (ct_X12_noKind  h7) dX12_write_54 rfl rfl ?_
        refine z_if_ne hX 64 dX12_write_57 (by decide) (fun h8 => ?_) (fun h8 => ?_)
        · replace hf := zif_neg h8 hf
          refine z_iconst hX dX12_write_64 ci_0 ?_
          refine z_istore_n (lv' := [(3, .int 0), (0, .ref (zB X + 493)), (1, .int v1), (2, .int v2), (4, .int v4)]) hX dX12_write_65 hn (by decide) rfl ?_
          refine z_iincc (lv' := [(4, .int (v4 + 1)), (3, .int 0), (0, .ref (zB X + 493)), (1, .int v1), (2, .int v2)]) hX dX12_write_66 hn (by decide) 4 rfl ci_1 rfl ?_
          refine z_goto hX 34 dX12_write_69 (by decide) ?_
          refine zW.sub [2, 3, 4, 1, 0] rfl ?_
          exact ih 0 (v4 + 1) hf
        · replace hf := zif_pos h8 hf
          refine z_iconst hX dX12_write_60 ci_1 ?_
          refine z_goto hX 65 dX12_write_61 (by decide) ?_
          refine z_istore_n (lv' := [(3, .int 1), (0, .ref (zB X + 493)), (1, .int v1), (2, .int v2), (4, .int v4)]) hX dX12_write_65 hn (by decide) rfl ?_
          refine z_iincc (lv' := [(4, .int (v4 + 1)), (3, .int 1), (0, .ref (zB X + 493)), (1, .int v1), (2, .int v2)]) hX dX12_write_66 hn (by decide) 4 rfl ci_1 rfl ?_
          refine z_goto hX 34 dX12_write_69 (by decide) ?_
          refine zW.sub [2, 3, 4, 1, 0] rfl ?_
          exact ih 1 (v4 + 1) hf
set_option maxHeartbeats 4000000 in
set_option maxRecDepth 100000 in
theorem fX12_write_L128_ok {X : zX} (hX : zCX X cX12_write RX12) (hT : zNT X) (hR : X.2.2.2.1 = zrm 4 0) (hr : X.2.2.2.2.2.2.2.2.1.sig.returnType = (some .int)) (hn : X.2.2.2.2.2.2.2.2.2.1.maxLocals = 6) {v4 : Int32} {r : Int32 × zM}  : ∀ (n : Nat) (v5 : Int32) (g : zM), fX12_write_L128 v4 n v5 g = some r → zW X (zQ X (.inl (some (.int r.1), r.2)) 0) 0 0 128 [(0, .ref (zB X + 493)), (4, .int v4), (5, .int v5)] [] g := by
  intro n
  induction n with
  | zero => intro v5 g hf; exact zno hf
  | succ n ih =>
    intro v5 g hf
    rw [fX12_write_L128] at hf
    refine z_iload hX dX12_write_128 2 rfl ?_
    refine z_aload_n hX dX12_write_130 0 rfl ?_
    refine gf_Model_end hX zq_493 q1505 dX12_write_131 ?_
    refine z_icmp_ge hX 156 dX12_write_134 (by decide) (fun h19 => ?_) (fun h19 => ?_)
    · replace hf := zif_pos h19 hf
      refine z_iload hX dX12_write_156 1 rfl ?_
      obtain rfl := Option.some.inj hf
      exact z_iret hX hr rfl (zl rfl) (zl rfl) dX12_write_158
    · replace hf := zif_neg h19 hf
      refine z_aload_n hX dX12_write_137 0 rfl ?_
      refine z_iload hX dX12_write_138 1 rfl ?_
      refine z_aload_n hX dX12_write_140 0 rfl ?_
      refine gf_Model_tape hX zq_493 q1502 dX12_write_141 ?_
      refine z_iload hX dX12_write_144 2 rfl ?_
      replace hf := zchk_some hf
      obtain ⟨h20, hf⟩ := hf
      refine z_bald hX zq_499 h20 dX12_write_146 ?_
      replace hf := zb_some hf
      obtain ⟨g21, h21, hf⟩ := hf
      refine z_callV0 hX ok_X12_comes q1679 q1681 q47 (zrm_ok hR (by decide)) (ct_X12_comes  h21) (zrec_Model hX zq_493) dX12_write_147 rfl rfl ?_
      refine z_iincc (lv' := [(5, .int (v5 + 1)), (0, .ref (zB X + 493)), (4, .int v4)]) hX dX12_write_150 hn (by decide) 2 rfl ci_1 rfl ?_
      refine z_goto hX 128 dX12_write_153 (by decide) ?_
      refine zW.sub [1, 2, 0] rfl ?_
      exact ih (v5 + 1) g21 hf
set_option maxHeartbeats 4000000 in
set_option maxRecDepth 100000 in
theorem fX12_write_ok {X : zX} (hX : zCX X cX12_write RX12) (hT : zNT X) (hR : X.2.2.2.1 = zrm 4 0) (hr : X.2.2.2.2.2.2.2.2.1.sig.returnType = (some .int)) (hn : X.2.2.2.2.2.2.2.2.2.1.maxLocals = 6) {v1 : Int32} {v2 : Int32} {g : zM} {r : Int32 × zM} (hf : fX12_write v1 v2 g = some r) : zW X (zQ X (.inl (some (.int r.1), r.2)) 0) 0 0 0 [(0, .ref (zB X + 493)), (1, .int v1), (2, .int v2)] [] g := by
  unfold fX12_write at hf
  refine z_aload_n hX dX12_write_0 0 rfl ?_
  replace hf := zb_some hf
  obtain ⟨g1, h1, hf⟩ := hf
  refine z_callV0 hX ok_X12_uses q1617 q1619 q35 (zrm_ok hR (by decide)) (ct_X12_uses  h1) (zrec_Model hX zq_493) dX12_write_1 rfl rfl ?_
  refine z_iload_n hX dX12_write_4 1 rfl ?_
  refine z_iload_n hX dX12_write_5 2 rfl ?_
  replace hf := zb_some hf
  obtain ⟨r_2, h2, hf⟩ := hf
  refine z_callS1 hX ok_X12_noSender rfl q1877 q1878 (zrm_ok hR (by decide)) (ct_X12_noSender  h2) dX12_write_6 rfl rfl ?_
  refine z_if_ne hX 29 dX12_write_9 (by decide) (fun h3 => ?_) (fun h3 => ?_)
  · replace hf := zif_neg h3 hf
    refine z_iconst hX dX12_write_29 ci_0 ?_
    refine z_istore_n (lv' := [(3, .int 0), (0, .ref (zB X + 493)), (1, .int v1), (2, .int v2)]) hX dX12_write_30 hn (by decide) rfl ?_
    refine z_iconst hX dX12_write_31 ci_0 ?_
    refine z_istore (lv' := [(4, .int 0), (3, .int 0), (0, .ref (zB X + 493)), (1, .int v1), (2, .int v2)]) hX dX12_write_32 hn (by decide) rfl ?_
    refine zW.sub [2, 3, 4, 1, 0] rfl ?_
    refine fX12_write_L34_ok hX hT hR hr hn (fun v3_9 hf => ?_) zFU 0 0 hf
    · refine z_aload_n hX dX12_write_72 0 rfl ?_
      refine z_iload_n hX dX12_write_73 3 rfl ?_
      refine zjoin_ok (P := fun (k : Int32 → Option (Int32 × zM)) => ∀ (t0_10 : Int32), k t0_10 = some r → zW X (zQ X (.inl (some (.int r.1), r.2)) 0) 0 0 82 [(0, .ref (zB X + 493)), (1, .int v1), (2, .int v2)] [.int t0_10, .ref (zB X + 493)] g1) hf (fun t0_10 hf => ?_) (fun k82 hk82 hf => ?_)
      · refine z_iconst hX dX12_write_82 ci_1 ?_
        replace hf := zb2_some hf
        obtain ⟨r_11, g11, h11, hf⟩ := hf
        refine z_callV1 hX ok_X12_throwsIf q1775 q1777 q67 (zrm_ok hR (by decide)) (ct_X12_throwsIf  h11) (zrec_Model hX zq_493) dX12_write_83 rfl rfl ?_
        refine z_if_ne hX 111 dX12_write_86 (by decide) (fun h12 => ?_) (fun h12 => ?_)
        · replace hf := zif_neg h12 hf
          refine z_iconst hX dX12_write_111 ci_0 ?_
          obtain rfl := Option.some.inj hf
          exact z_iret hX hr rfl (zl rfl) (zl rfl) dX12_write_112
        · replace hf := zif_pos h12 hf
          refine z_aload_n hX dX12_write_89 0 rfl ?_
          refine z_aload_n hX dX12_write_90 0 rfl ?_
          replace hf := zb_some hf
          obtain ⟨r_13, h13, hf⟩ := hf
          refine z_callV1 hX ok_X12_letters q1652 q1654 q43 (zrm_ok hR (by decide)) (ct_X12_letters  h13) (zrec_Model hX zq_493) dX12_write_91 rfl rfl ?_
          refine z_bipush hX dX12_write_94 cb_8 ?_
          refine zjoin_ok (P := fun (k : Int32 → Option (Int32 × zM)) => ∀ (t0_14 : Int32), k t0_14 = some r → zW X (zQ X (.inl (some (.int r.1), r.2)) 0) 0 0 104 [(0, .ref (zB X + 493)), (1, .int v1), (2, .int v2)] [.int t0_14, .ref (zB X + 493)] g11) hf (fun t0_14 hf => ?_) (fun k104 hk104 hf => ?_)
          · refine z_iconst hX dX12_write_104 ci_2 ?_
            replace hf := zb2_some hf
            obtain ⟨r_15, g15, h15, hf⟩ := hf
            refine z_callV1 hX ok_X12_throwsIf q1775 q1777 q67 (zrm_ok hR (by decide)) (ct_X12_throwsIf  h15) (zrec_Model hX zq_493) dX12_write_105 rfl rfl ?_
            refine z_if_eq hX 113 dX12_write_108 (by decide) (fun h16 => ?_) (fun h16 => ?_)
            · replace hf := zif_pos h16 hf
              refine z_aload_n hX dX12_write_113 0 rfl ?_
              replace hf := zb_some hf
              obtain ⟨g17, h17, hf⟩ := hf
              refine z_callV0 hX ok_X12_remembers q1880 q1882 q84 (zrm_ok hR (by decide)) (ct_X12_remembers  h17) (zrec_Model hX zq_493) dX12_write_114 rfl rfl ?_
              refine z_aload_n hX dX12_write_117 0 rfl ?_
              refine z_iload_n hX dX12_write_118 1 rfl ?_
              refine z_iload_n hX dX12_write_119 2 rfl ?_
              replace hf := zb2_some hf
              obtain ⟨r_18, g18, h18, hf⟩ := hf
              refine z_callV1 hX ok_X12_begins q1669 q1671 q46 (zrm_ok hR (by decide)) (ct_X12_begins  h18) (zrec_Model hX zq_493) dX12_write_120 rfl rfl ?_
              refine z_istore (lv' := [(4, .int r_18), (0, .ref (zB X + 493)), (1, .int v1), (2, .int v2)]) hX dX12_write_123 hn (by decide) rfl ?_
              refine z_iconst hX dX12_write_125 ci_0 ?_
              refine z_istore (lv' := [(5, .int 0), (4, .int r_18), (0, .ref (zB X + 493)), (1, .int v1), (2, .int v2)]) hX dX12_write_126 hn (by decide) rfl ?_
              refine zW.sub [2, 1, 0] rfl ?_
              exact fX12_write_L128_ok hX hT hR hr hn  zFU 0 g18 hf
            · replace hf := zif_neg h16 hf
              refine z_iconst hX dX12_write_111 ci_0 ?_
              obtain rfl := Option.some.inj hf
              exact z_iret hX hr rfl (zl rfl) (zl rfl) dX12_write_112
          · refine z_icmp_ne hX 103 dX12_write_96 (by decide) (fun h22 => ?_) (fun h22 => ?_)
            · replace hf := zif_neg h22 hf
              refine z_iconst hX dX12_write_103 ci_0 ?_
              exact hk104 0 hf
            · replace hf := zif_pos h22 hf
              refine z_iconst hX dX12_write_99 ci_1 ?_
              refine z_goto hX 104 dX12_write_100 (by decide) ?_
              exact hk104 1 hf
      · refine z_if_ne hX 81 dX12_write_74 (by decide) (fun h23 => ?_) (fun h23 => ?_)
        · replace hf := zif_neg h23 hf
          refine z_iconst hX dX12_write_81 ci_0 ?_
          refine zW.sub [0, 1, 2] rfl ?_
          exact hk82 0 hf
        · replace hf := zif_pos h23 hf
          refine z_iconst hX dX12_write_77 ci_1 ?_
          refine z_goto hX 82 dX12_write_78 (by decide) ?_
          refine zW.sub [0, 1, 2] rfl ?_
          exact hk82 1 hf
  · replace hf := zif_pos h3 hf
    refine z_aload_n hX dX12_write_12 0 rfl ?_
    refine gf_Model_end hX zq_493 q1505 dX12_write_13 ?_
    refine z_iconst hX dX12_write_16 ci_1 ?_
    refine z_bipush hX dX12_write_17 cb_24 ?_
    replace hf := zb_some hf
    obtain ⟨r_24, h24, hf⟩ := hf
    refine z_callS1 hX ok_X12_in rfl q1666 q1667 (zrm_ok hR (by decide)) (ct_X12_in  h24) dX12_write_19 rfl rfl ?_
    refine z_if_eq hX 29 dX12_write_22 (by decide) (fun h25 => ?_) (fun h25 => ?_)
    · replace hf := zif_pos h25 hf
      refine z_iconst hX dX12_write_29 ci_0 ?_
      refine z_istore_n (lv' := [(3, .int 0), (0, .ref (zB X + 493)), (1, .int v1), (2, .int v2)]) hX dX12_write_30 hn (by decide) rfl ?_
      refine z_iconst hX dX12_write_31 ci_0 ?_
      refine z_istore (lv' := [(4, .int 0), (3, .int 0), (0, .ref (zB X + 493)), (1, .int v1), (2, .int v2)]) hX dX12_write_32 hn (by decide) rfl ?_
      refine zW.sub [2, 3, 4, 1, 0] rfl ?_
      refine fX12_write_L34_ok hX hT hR hr hn (fun v3_26 hf => ?_) zFU 0 0 hf
      · refine z_aload_n hX dX12_write_72 0 rfl ?_
        refine z_iload_n hX dX12_write_73 3 rfl ?_
        refine zjoin_ok (P := fun (k : Int32 → Option (Int32 × zM)) => ∀ (t0_27 : Int32), k t0_27 = some r → zW X (zQ X (.inl (some (.int r.1), r.2)) 0) 0 0 82 [(0, .ref (zB X + 493)), (1, .int v1), (2, .int v2)] [.int t0_27, .ref (zB X + 493)] g1) hf (fun t0_27 hf => ?_) (fun k82 hk82 hf => ?_)
        · refine z_iconst hX dX12_write_82 ci_1 ?_
          replace hf := zb2_some hf
          obtain ⟨r_28, g28, h28, hf⟩ := hf
          refine z_callV1 hX ok_X12_throwsIf q1775 q1777 q67 (zrm_ok hR (by decide)) (ct_X12_throwsIf  h28) (zrec_Model hX zq_493) dX12_write_83 rfl rfl ?_
          refine z_if_ne hX 111 dX12_write_86 (by decide) (fun h29 => ?_) (fun h29 => ?_)
          · replace hf := zif_neg h29 hf
            refine z_iconst hX dX12_write_111 ci_0 ?_
            obtain rfl := Option.some.inj hf
            exact z_iret hX hr rfl (zl rfl) (zl rfl) dX12_write_112
          · replace hf := zif_pos h29 hf
            refine z_aload_n hX dX12_write_89 0 rfl ?_
            refine z_aload_n hX dX12_write_90 0 rfl ?_
            replace hf := zb_some hf
            obtain ⟨r_30, h30, hf⟩ := hf
            refine z_callV1 hX ok_X12_letters q1652 q1654 q43 (zrm_ok hR (by decide)) (ct_X12_letters  h30) (zrec_Model hX zq_493) dX12_write_91 rfl rfl ?_
            refine z_bipush hX dX12_write_94 cb_8 ?_
            refine zjoin_ok (P := fun (k : Int32 → Option (Int32 × zM)) => ∀ (t0_31 : Int32), k t0_31 = some r → zW X (zQ X (.inl (some (.int r.1), r.2)) 0) 0 0 104 [(0, .ref (zB X + 493)), (1, .int v1), (2, .int v2)] [.int t0_31, .ref (zB X + 493)] g28) hf (fun t0_31 hf => ?_) (fun k104 hk104 hf => ?_)
            · refine z_iconst hX dX12_write_104 ci_2 ?_
              replace hf := zb2_some hf
              obtain ⟨r_32, g32, h32, hf⟩ := hf
              refine z_callV1 hX ok_X12_throwsIf q1775 q1777 q67 (zrm_ok hR (by decide)) (ct_X12_throwsIf  h32) (zrec_Model hX zq_493) dX12_write_105 rfl rfl ?_
              refine z_if_eq hX 113 dX12_write_108 (by decide) (fun h33 => ?_) (fun h33 => ?_)
              · replace hf := zif_pos h33 hf
                refine z_aload_n hX dX12_write_113 0 rfl ?_
                replace hf := zb_some hf
                obtain ⟨g34, h34, hf⟩ := hf
                refine z_callV0 hX ok_X12_remembers q1880 q1882 q84 (zrm_ok hR (by decide)) (ct_X12_remembers  h34) (zrec_Model hX zq_493) dX12_write_114 rfl rfl ?_
                refine z_aload_n hX dX12_write_117 0 rfl ?_
                refine z_iload_n hX dX12_write_118 1 rfl ?_
                refine z_iload_n hX dX12_write_119 2 rfl ?_
                replace hf := zb2_some hf
                obtain ⟨r_35, g35, h35, hf⟩ := hf
                refine z_callV1 hX ok_X12_begins q1669 q1671 q46 (zrm_ok hR (by decide)) (ct_X12_begins  h35) (zrec_Model hX zq_493) dX12_write_120 rfl rfl ?_
                refine z_istore (lv' := [(4, .int r_35), (0, .ref (zB X + 493)), (1, .int v1), (2, .int v2)]) hX dX12_write_123 hn (by decide) rfl ?_
                refine z_iconst hX dX12_write_125 ci_0 ?_
                refine z_istore (lv' := [(5, .int 0), (4, .int r_35), (0, .ref (zB X + 493)), (1, .int v1), (2, .int v2)]) hX dX12_write_126 hn (by decide) rfl ?_
                refine zW.sub [2, 1, 0] rfl ?_
                exact fX12_write_L128_ok hX hT hR hr hn  zFU 0 g35 hf
              · replace hf := zif_neg h33 hf
                refine z_iconst hX dX12_write_111 ci_0 ?_
                obtain rfl := Option.some.inj hf
                exact z_iret hX hr rfl (zl rfl) (zl rfl) dX12_write_112
            · refine z_icmp_ne hX 103 dX12_write_96 (by decide) (fun h36 => ?_) (fun h36 => ?_)
              · replace hf := zif_neg h36 hf
                refine z_iconst hX dX12_write_103 ci_0 ?_
                exact hk104 0 hf
              · replace hf := zif_pos h36 hf
                refine z_iconst hX dX12_write_99 ci_1 ?_
                refine z_goto hX 104 dX12_write_100 (by decide) ?_
                exact hk104 1 hf
        · refine z_if_ne hX 81 dX12_write_74 (by decide) (fun h37 => ?_) (fun h37 => ?_)
          · replace hf := zif_neg h37 hf
            refine z_iconst hX dX12_write_81 ci_0 ?_
            refine zW.sub [0, 1, 2] rfl ?_
            exact hk82 0 hf
          · replace hf := zif_pos h37 hf
            refine z_iconst hX dX12_write_77 ci_1 ?_
            refine z_goto hX 82 dX12_write_78 (by decide) ?_
            refine zW.sub [0, 1, 2] rfl ?_
            exact hk82 1 hf
    · replace hf := zif_neg h25 hf
      refine z_iconst hX dX12_write_25 ci_1 ?_
      refine z_goto hX 30 dX12_write_26 (by decide) ?_
      refine z_istore_n (lv' := [(3, .int 1), (0, .ref (zB X + 493)), (1, .int v1), (2, .int v2)]) hX dX12_write_30 hn (by decide) rfl ?_
      refine z_iconst hX dX12_write_31 ci_0 ?_
      refine z_istore (lv' := [(4, .int 0), (3, .int 1), (0, .ref (zB X + 493)), (1, .int v1), (2, .int v2)]) hX dX12_write_32 hn (by decide) rfl ?_
      refine zW.sub [2, 3, 4, 1, 0] rfl ?_
      refine fX12_write_L34_ok hX hT hR hr hn (fun v3_38 hf => ?_) zFU 1 0 hf
      · refine z_aload_n hX dX12_write_72 0 rfl ?_
        refine z_iload_n hX dX12_write_73 3 rfl ?_
        refine zjoin_ok (P := fun (k : Int32 → Option (Int32 × zM)) => ∀ (t0_39 : Int32), k t0_39 = some r → zW X (zQ X (.inl (some (.int r.1), r.2)) 0) 0 0 82 [(0, .ref (zB X + 493)), (1, .int v1), (2, .int v2)] [.int t0_39, .ref (zB X + 493)] g1) hf (fun t0_39 hf => ?_) (fun k82 hk82 hf => ?_)
        · refine z_iconst hX dX12_write_82 ci_1 ?_
          replace hf := zb2_some hf
          obtain ⟨r_40, g40, h40, hf⟩ := hf
          refine z_callV1 hX ok_X12_throwsIf q1775 q1777 q67 (zrm_ok hR (by decide)) (ct_X12_throwsIf  h40) (zrec_Model hX zq_493) dX12_write_83 rfl rfl ?_
          refine z_if_ne hX 111 dX12_write_86 (by decide) (fun h41 => ?_) (fun h41 => ?_)
          · replace hf := zif_neg h41 hf
            refine z_iconst hX dX12_write_111 ci_0 ?_
            obtain rfl := Option.some.inj hf
            exact z_iret hX hr rfl (zl rfl) (zl rfl) dX12_write_112
          · replace hf := zif_pos h41 hf
            refine z_aload_n hX dX12_write_89 0 rfl ?_
            refine z_aload_n hX dX12_write_90 0 rfl ?_
            replace hf := zb_some hf
            obtain ⟨r_42, h42, hf⟩ := hf
            refine z_callV1 hX ok_X12_letters q1652 q1654 q43 (zrm_ok hR (by decide)) (ct_X12_letters  h42) (zrec_Model hX zq_493) dX12_write_91 rfl rfl ?_
            refine z_bipush hX dX12_write_94 cb_8 ?_
            refine zjoin_ok (P := fun (k : Int32 → Option (Int32 × zM)) => ∀ (t0_43 : Int32), k t0_43 = some r → zW X (zQ X (.inl (some (.int r.1), r.2)) 0) 0 0 104 [(0, .ref (zB X + 493)), (1, .int v1), (2, .int v2)] [.int t0_43, .ref (zB X + 493)] g40) hf (fun t0_43 hf => ?_) (fun k104 hk104 hf => ?_)
            · refine z_iconst hX dX12_write_104 ci_2 ?_
              replace hf := zb2_some hf
              obtain ⟨r_44, g44, h44, hf⟩ := hf
              refine z_callV1 hX ok_X12_throwsIf q1775 q1777 q67 (zrm_ok hR (by decide)) (ct_X12_throwsIf  h44) (zrec_Model hX zq_493) dX12_write_105 rfl rfl ?_
              refine z_if_eq hX 113 dX12_write_108 (by decide) (fun h45 => ?_) (fun h45 => ?_)
              · replace hf := zif_pos h45 hf
                refine z_aload_n hX dX12_write_113 0 rfl ?_
                replace hf := zb_some hf
                obtain ⟨g46, h46, hf⟩ := hf
                refine z_callV0 hX ok_X12_remembers q1880 q1882 q84 (zrm_ok hR (by decide)) (ct_X12_remembers  h46) (zrec_Model hX zq_493) dX12_write_114 rfl rfl ?_
                refine z_aload_n hX dX12_write_117 0 rfl ?_
                refine z_iload_n hX dX12_write_118 1 rfl ?_
                refine z_iload_n hX dX12_write_119 2 rfl ?_
                replace hf := zb2_some hf
                obtain ⟨r_47, g47, h47, hf⟩ := hf
                refine z_callV1 hX ok_X12_begins q1669 q1671 q46 (zrm_ok hR (by decide)) (ct_X12_begins  h47) (zrec_Model hX zq_493) dX12_write_120 rfl rfl ?_
                refine z_istore (lv' := [(4, .int r_47), (0, .ref (zB X + 493)), (1, .int v1), (2, .int v2)]) hX dX12_write_123 hn (by decide) rfl ?_
                refine z_iconst hX dX12_write_125 ci_0 ?_
                refine z_istore (lv' := [(5, .int 0), (4, .int r_47), (0, .ref (zB X + 493)), (1, .int v1), (2, .int v2)]) hX dX12_write_126 hn (by decide) rfl ?_
                refine zW.sub [2, 1, 0] rfl ?_
                exact fX12_write_L128_ok hX hT hR hr hn  zFU 0 g47 hf
              · replace hf := zif_neg h45 hf
                refine z_iconst hX dX12_write_111 ci_0 ?_
                obtain rfl := Option.some.inj hf
                exact z_iret hX hr rfl (zl rfl) (zl rfl) dX12_write_112
            · refine z_icmp_ne hX 103 dX12_write_96 (by decide) (fun h48 => ?_) (fun h48 => ?_)
              · replace hf := zif_neg h48 hf
                refine z_iconst hX dX12_write_103 ci_0 ?_
                exact hk104 0 hf
              · replace hf := zif_pos h48 hf
                refine z_iconst hX dX12_write_99 ci_1 ?_
                refine z_goto hX 104 dX12_write_100 (by decide) ?_
                exact hk104 1 hf
        · refine z_if_ne hX 81 dX12_write_74 (by decide) (fun h49 => ?_) (fun h49 => ?_)
          · replace hf := zif_neg h49 hf
            refine z_iconst hX dX12_write_81 ci_0 ?_
            refine zW.sub [0, 1, 2] rfl ?_
            exact hk82 0 hf
          · replace hf := zif_pos h49 hf
            refine z_iconst hX dX12_write_77 ci_1 ?_
            refine z_goto hX 82 dX12_write_78 (by decide) ?_
            refine zW.sub [0, 1, 2] rfl ?_
            exact hk82 1 hf
set_option maxHeartbeats 4000000 in
set_option maxRecDepth 100000 in
theorem ct_X12_write {E : zE} {v1 : Int32} {v2 : Int32} {g : zM} {r : Int32 × zM} (hf : fX12_write v1 v2 g = some r) : zCt yX12_write cX12_write 6 (some .int) 4 0 E [.ref (E.1 + 493), .int v1, .int v2] g (.inl (some (.int r.1), r.2)) := by
  refine zmet (by decide) (zl rfl) (fun X hE hX hT hR hr hn => ?_)
  subst hE
  exact fX12_write_ok hX hT hR hr hn  hf
def fX12_turns (v1 : Int32) (v2 : Int32) (v3 : Int32) (g : zM) : Option (Int32 × zM) := zb (fX12_remembers g) (fun g1 => zb (fX12_of v1 v2 g1) (fun r_2 => zjoin (fun t0_3 => zb (fX12_at v1 v2 g1) (fun r_4 => if v3 = 0 then zchk r_4 2158 (zput g1 494 r_4.toNatClampNeg 0 (fun g7 => if t0_3 = v3 then some (0, g7) else some (1, g7))) else zchk r_4 2158 (zput g1 494 r_4.toNatClampNeg 1 (fun g10 => if t0_3 = v3 then some (0, g10) else some (1, g10)))) : Int32 → Option (Int32 × zM)) (fun k19 => if r_2 = 1 then k19 1 else k19 0)))
set_option maxHeartbeats 4000000 in
set_option maxRecDepth 100000 in
theorem fX12_turns_ok {X : zX} (hX : zCX X cX12_turns RX12) (hT : zNT X) (hR : X.2.2.2.1 = zrm 2 0) (hr : X.2.2.2.2.2.2.2.2.1.sig.returnType = (some .boolean)) (hn : X.2.2.2.2.2.2.2.2.2.1.maxLocals = 5) {v1 : Int32} {v2 : Int32} {v3 : Int32} {g : zM} {r : Int32 × zM} (hf : fX12_turns v1 v2 v3 g = some r) : zW X (zQ X (.inl (some (.int r.1), r.2)) 0) 0 0 0 [(0, .ref (zB X + 493)), (1, .int v1), (2, .int v2), (3, .int v3)] [] g := by
  unfold fX12_turns at hf
  refine z_aload_n hX dX12_turns_0 0 rfl ?_
  replace hf := zb_some hf
  obtain ⟨g1, h1, hf⟩ := hf
  refine z_callV0 hX ok_X12_remembers q1880 q1882 q84 (zrm_ok hR (by decide)) (ct_X12_remembers  h1) (zrec_Model hX zq_493) dX12_turns_1 rfl rfl ?_
  refine z_aload_n hX dX12_turns_4 0 rfl ?_
  refine z_iload_n hX dX12_turns_5 1 rfl ?_
  refine z_iload_n hX dX12_turns_6 2 rfl ?_
  replace hf := zb_some hf
  obtain ⟨r_2, h2, hf⟩ := hf
  refine z_callV1 hX ok_X12_of q1687 q1689 q49 (zrm_ok hR (by decide)) (ct_X12_of  h2) (zrec_Model hX zq_493) dX12_turns_7 rfl rfl ?_
  refine z_iconst hX dX12_turns_10 ci_1 ?_
  refine zjoin_ok (P := fun (k : Int32 → Option (Int32 × zM)) => ∀ (t0_3 : Int32), k t0_3 = some r → zW X (zQ X (.inl (some (.int r.1), r.2)) 0) 0 0 19 [(0, .ref (zB X + 493)), (1, .int v1), (2, .int v2), (3, .int v3)] [.int t0_3] g1) hf (fun t0_3 hf => ?_) (fun k19 hk19 hf => ?_)
  · refine z_istore (lv' := [(4, .int t0_3), (0, .ref (zB X + 493)), (1, .int v1), (2, .int v2), (3, .int v3)]) hX dX12_turns_19 hn (by decide) rfl ?_
    refine z_aload_n hX dX12_turns_21 1 rfl ?_
    refine gf_Model_world hX zq_493 q1495 dX12_turns_22 ?_
    refine z_iload_n hX dX12_turns_25 2 rfl ?_
    refine z_iload_n hX dX12_turns_26 3 rfl ?_
    replace hf := zb_some hf
    obtain ⟨r_4, h4, hf⟩ := hf
    refine z_callS1 hX ok_X12_at rfl q1673 q1674 (zrm_ok hR (by decide)) (ct_X12_at  h4) dX12_turns_27 rfl rfl ?_
    refine z_iload_n hX dX12_turns_30 4 rfl ?_
    refine z_if_eq hX 38 dX12_turns_31 (by decide) (fun h5 => ?_) (fun h5 => ?_)
    · replace hf := zif_pos h5 hf
      refine z_iconst hX dX12_turns_38 ci_0 ?_
      replace hf := zchk_some hf
      obtain ⟨h6, hf⟩ := hf
      replace hf := zput_some hf
      obtain ⟨g7, eg7, hf⟩ := hf
      refine z_iast hX zq_494 (by decide) (zc_3158 _ _) h6 dX12_turns_39 (zW.eqg eg7 ?_)
      refine z_iload hX dX12_turns_40 0 rfl ?_
      refine z_iload_n hX dX12_turns_42 4 rfl ?_
      refine z_icmp_eq hX 50 dX12_turns_43 (by decide) (fun h8 => ?_) (fun h8 => ?_)
      · replace hf := zif_pos h8 hf
        refine z_iconst hX dX12_turns_50 ci_0 ?_
        obtain rfl := Option.some.inj hf
        exact z_iret hX hr (zbn (Or.inl rfl)) (zl rfl) (zl rfl) dX12_turns_51
      · replace hf := zif_neg h8 hf
        refine z_iconst hX dX12_turns_46 ci_1 ?_
        refine z_goto hX 51 dX12_turns_47 (by decide) ?_
        obtain rfl := Option.some.inj hf
        exact z_iret hX hr (zbn (Or.inr rfl)) (zl rfl) (zl rfl) dX12_turns_51
    · replace hf := zif_neg h5 hf
      refine z_iconst hX dX12_turns_34 ci_1 ?_
      refine z_goto hX 39 dX12_turns_35 (by decide) ?_
      replace hf := zchk_some hf
      obtain ⟨h9, hf⟩ := hf
      replace hf := zput_some hf
      obtain ⟨g10, eg10, hf⟩ := hf
      refine z_iast hX zq_494 (by decide) (zc_3158 _ _) h9 dX12_turns_39 (zW.eqg eg10 ?_)
      refine z_iload hX dX12_turns_40 0 rfl ?_
      refine z_iload_n hX dX12_turns_42 4 rfl ?_
      refine z_icmp_eq hX 50 dX12_turns_43 (by decide) (fun h11 => ?_) (fun h11 => ?_)
      · replace hf := zif_pos h11 hf
        refine z_iconst hX dX12_turns_50 ci_0 ?_
        obtain rfl := Option.some.inj hf
        exact z_iret hX hr (zbn (Or.inl rfl)) (zl rfl) (zl rfl) dX12_turns_51
      · replace hf := zif_neg h11 hf
        refine z_iconst hX dX12_turns_46 ci_1 ?_
        refine z_goto hX 51 dX12_turns_47 (by decide) ?_
        obtain rfl := Option.some.inj hf
        exact z_iret hX hr (zbn (Or.inr rfl)) (zl rfl) (zl rfl) dX12_turns_51
  · refine z_icmp_ne hX 18 dX12_turns_11 (by decide) (fun h12 => ?_) (fun h12 => ?_)
    · replace hf := zif_neg h12 hf
      refine z_iconst hX dX12_turns_18 ci_0 ?_
      exact hk19 0 hf
    · replace hf := zif_pos h12 hf
      refine z_iconst hX dX12_turns_14 ci_1 ?_
      refine z_goto hX 19 dX12_turns_15 (by decide) ?_
      exact hk19 1 hf
set_option maxHeartbeats 4000000 in
set_option maxRecDepth 100000 in
theorem ct_X12_turns {E : zE} {v1 : Int32} {v2 : Int32} {v3 : Int32} {g : zM} {r : Int32 × zM} (hf : fX12_turns v1 v2 v3 g = some r) : zCt yX12_turns cX12_turns 5 (some .boolean) 2 0 E [.ref (E.1 + 493), .int v1, .int v2, .int v3] g (.inl (some (.int r.1), r.2)) := by
  refine zmet (by decide) (zl rfl) (fun X hE hX hT hR hr hn => ?_)
  subst hE
  exact fX12_turns_ok hX hT hR hr hn  hf
def fX12_open (v1 : Int32) (v2 : Int32) (g : zM) : Option (Int32 × zM) := zput g 493 0 0 (fun g1 => zb (fX12_noLetter v1 g1) (fun r_2 => zb2 (fX12_throwsIf r_2 1 g1) (fun r_3 g3 => if r_3 = 0 then zb2 (fX12_turns v1 3 v2 g3) (fun r_5 g5 => if r_5 = 0 then some (0, g5) else some (1, g5)) else some (0, g3))))
set_option maxHeartbeats 4000000 in
set_option maxRecDepth 100000 in
theorem fX12_open_ok {X : zX} (hX : zCX X cX12_open RX12) (hT : zNT X) (hR : X.2.2.2.1 = zrm 3 0) (hr : X.2.2.2.2.2.2.2.2.1.sig.returnType = (some .boolean)) (hn : X.2.2.2.2.2.2.2.2.2.1.maxLocals = 3) {v1 : Int32} {v2 : Int32} {g : zM} {r : Int32 × zM} (hf : fX12_open v1 v2 g = some r) : zW X (zQ X (.inl (some (.int r.1), r.2)) 0) 0 0 0 [(0, .ref (zB X + 493)), (1, .int v1), (2, .int v2)] [] g := by
  unfold fX12_open at hf
  refine z_aload_n hX dX12_open_0 0 rfl ?_
  refine z_iconst hX dX12_open_1 ci_0 ?_
  replace hf := zput_some hf
  obtain ⟨g1, eg1, hf⟩ := hf
  refine gp_Model_thrown hX zq_493 q1494 dX12_open_2 (zW.eqg eg1 ?_)
  refine z_aload_n hX dX12_open_5 0 rfl ?_
  refine z_aload_n hX dX12_open_6 0 rfl ?_
  refine z_iload_n hX dX12_open_7 1 rfl ?_
  replace hf := zb_some hf
  obtain ⟨r_2, h2, hf⟩ := hf
  refine z_callV1 hX ok_X12_noLetter q1787 q1789 q68 (zrm_ok hR (by decide)) (ct_X12_noLetter  h2) (zrec_Model hX zq_493) dX12_open_8 rfl rfl ?_
  refine z_iconst hX dX12_open_11 ci_1 ?_
  replace hf := zb2_some hf
  obtain ⟨r_3, g3, h3, hf⟩ := hf
  refine z_callV1 hX ok_X12_throwsIf q1775 q1777 q67 (zrm_ok hR (by decide)) (ct_X12_throwsIf  h3) (zrec_Model hX zq_493) dX12_open_12 rfl rfl ?_
  refine z_if_ne hX 32 dX12_open_15 (by decide) (fun h4 => ?_) (fun h4 => ?_)
  · replace hf := zif_neg h4 hf
    refine z_iconst hX dX12_open_32 ci_0 ?_
    obtain rfl := Option.some.inj hf
    exact z_iret hX hr (zbn (Or.inl rfl)) (zl rfl) (zl rfl) dX12_open_33
  · replace hf := zif_pos h4 hf
    refine z_aload_n hX dX12_open_18 0 rfl ?_
    refine z_iload_n hX dX12_open_19 1 rfl ?_
    refine z_iconst hX dX12_open_20 ci_3 ?_
    refine z_iload_n hX dX12_open_21 2 rfl ?_
    replace hf := zb2_some hf
    obtain ⟨r_5, g5, h5, hf⟩ := hf
    refine z_callV1 hX ok_X12_turns q1888 q1890 q85 (zrm_ok hR (by decide)) (ct_X12_turns  h5) (zrec_Model hX zq_493) dX12_open_22 rfl rfl ?_
    refine z_if_eq hX 32 dX12_open_25 (by decide) (fun h6 => ?_) (fun h6 => ?_)
    · replace hf := zif_pos h6 hf
      refine z_iconst hX dX12_open_32 ci_0 ?_
      obtain rfl := Option.some.inj hf
      exact z_iret hX hr (zbn (Or.inl rfl)) (zl rfl) (zl rfl) dX12_open_33
    · replace hf := zif_neg h6 hf
      refine z_iconst hX dX12_open_28 ci_1 ?_
      refine z_goto hX 33 dX12_open_29 (by decide) ?_
      obtain rfl := Option.some.inj hf
      exact z_iret hX hr (zbn (Or.inr rfl)) (zl rfl) (zl rfl) dX12_open_33
set_option maxHeartbeats 4000000 in
set_option maxRecDepth 100000 in
theorem ct_X12_open {E : zE} {v1 : Int32} {v2 : Int32} {g : zM} {r : Int32 × zM} (hf : fX12_open v1 v2 g = some r) : zCt yX12_open cX12_open 3 (some .boolean) 3 0 E [.ref (E.1 + 493), .int v1, .int v2] g (.inl (some (.int r.1), r.2)) := by
  refine zmet (by decide) (zl rfl) (fun X hE hX hT hR hr hn => ?_)
  subst hE
  exact fX12_open_ok hX hT hR hr hn  hf
def fX12_heat (v1 : Int32) (v2 : Int32) (g : zM) : Option (Int32 × zM) := zput g 493 0 0 (fun g1 => zb (fX12_noLetter v1 g1) (fun r_2 => zb2 (fX12_throwsIf r_2 1 g1) (fun r_3 g3 => if r_3 = 0 then zb2 (fX12_turns v1 4 v2 g3) (fun r_5 g5 => if r_5 = 0 then some (0, g5) else some (1, g5)) else some (0, g3))))
set_option maxHeartbeats 4000000 in
set_option maxRecDepth 100000 in
theorem fX12_heat_ok {X : zX} (hX : zCX X cX12_heat RX12) (hT : zNT X) (hR : X.2.2.2.1 = zrm 3 0) (hr : X.2.2.2.2.2.2.2.2.1.sig.returnType = (some .boolean)) (hn : X.2.2.2.2.2.2.2.2.2.1.maxLocals = 3) {v1 : Int32} {v2 : Int32} {g : zM} {r : Int32 × zM} (hf : fX12_heat v1 v2 g = some r) : zW X (zQ X (.inl (some (.int r.1), r.2)) 0) 0 0 0 [(0, .ref (zB X + 493)), (1, .int v1), (2, .int v2)] [] g := by
  unfold fX12_heat at hf
  refine z_aload_n hX dX12_heat_0 0 rfl ?_
  refine z_iconst hX dX12_heat_1 ci_0 ?_
  replace hf := zput_some hf
  obtain ⟨g1, eg1, hf⟩ := hf
  refine gp_Model_thrown hX zq_493 q1494 dX12_heat_2 (zW.eqg eg1 ?_)
  refine z_aload_n hX dX12_heat_5 0 rfl ?_
  refine z_aload_n hX dX12_heat_6 0 rfl ?_
  refine z_iload_n hX dX12_heat_7 1 rfl ?_
  replace hf := zb_some hf
  obtain ⟨r_2, h2, hf⟩ := hf
  refine z_callV1 hX ok_X12_noLetter q1787 q1789 q68 (zrm_ok hR (by decide)) (ct_X12_noLetter  h2) (zrec_Model hX zq_493) dX12_heat_8 rfl rfl ?_
  refine z_iconst hX dX12_heat_11 ci_1 ?_
  replace hf := zb2_some hf
  obtain ⟨r_3, g3, h3, hf⟩ := hf
  refine z_callV1 hX ok_X12_throwsIf q1775 q1777 q67 (zrm_ok hR (by decide)) (ct_X12_throwsIf  h3) (zrec_Model hX zq_493) dX12_heat_12 rfl rfl ?_
  refine z_if_ne hX 32 dX12_heat_15 (by decide) (fun h4 => ?_) (fun h4 => ?_)
  · replace hf := zif_neg h4 hf
    refine z_iconst hX dX12_heat_32 ci_0 ?_
    obtain rfl := Option.some.inj hf
    exact z_iret hX hr (zbn (Or.inl rfl)) (zl rfl) (zl rfl) dX12_heat_33
  · replace hf := zif_pos h4 hf
    refine z_aload_n hX dX12_heat_18 0 rfl ?_
    refine z_iload_n hX dX12_heat_19 1 rfl ?_
    refine z_iconst hX dX12_heat_20 ci_4 ?_
    refine z_iload_n hX dX12_heat_21 2 rfl ?_
    replace hf := zb2_some hf
    obtain ⟨r_5, g5, h5, hf⟩ := hf
    refine z_callV1 hX ok_X12_turns q1888 q1890 q85 (zrm_ok hR (by decide)) (ct_X12_turns  h5) (zrec_Model hX zq_493) dX12_heat_22 rfl rfl ?_
    refine z_if_eq hX 32 dX12_heat_25 (by decide) (fun h6 => ?_) (fun h6 => ?_)
    · replace hf := zif_pos h6 hf
      refine z_iconst hX dX12_heat_32 ci_0 ?_
      obtain rfl := Option.some.inj hf
      exact z_iret hX hr (zbn (Or.inl rfl)) (zl rfl) (zl rfl) dX12_heat_33
    · replace hf := zif_neg h6 hf
      refine z_iconst hX dX12_heat_28 ci_1 ?_
      refine z_goto hX 33 dX12_heat_29 (by decide) ?_
      obtain rfl := Option.some.inj hf
      exact z_iret hX hr (zbn (Or.inr rfl)) (zl rfl) (zl rfl) dX12_heat_33
set_option maxHeartbeats 4000000 in
set_option maxRecDepth 100000 in
theorem ct_X12_heat {E : zE} {v1 : Int32} {v2 : Int32} {g : zM} {r : Int32 × zM} (hf : fX12_heat v1 v2 g = some r) : zCt yX12_heat cX12_heat 3 (some .boolean) 3 0 E [.ref (E.1 + 493), .int v1, .int v2] g (.inl (some (.int r.1), r.2)) := by
  refine zmet (by decide) (zl rfl) (fun X hE hX hT hR hr hn => ?_)
  subst hE
  exact fX12_heat_ok hX hT hR hr hn  hf
def fX12_copy_L53 (v1 : Int32) (v2 : Int32) (k81 : zM → Option (Int32 × zM)) : Nat → Int32 → zM → Option (Int32 × zM)
  | 0, _, _ => none
  | n + 1, v3, g => if 53 ≤ v3 then k81 g else zb (fX12_at v2 v3 g) (fun r_12 => zb (fX12_of v1 v3 g) (fun r_13 => zchk r_12 2158 (zput g 494 r_12.toNatClampNeg r_13 (fun g15 => fX12_copy_L53 v1 v2 k81 n (v3 + 1) g15))))
def fX12_copy (v1 : Int32) (g : zM) : Option (Int32 × zM) := zput g 493 0 0 (fun g1 => zb (fX12_noLetter v1 g1) (fun r_2 => zb2 (fX12_throwsIf r_2 1 g1) (fun r_3 g3 => if r_3 = 0 then zb (fX12_letters g3) (fun r_5 => zjoin (fun t0_6 => zb2 (fX12_throwsIf t0_6 2 g3) (fun r_7 g7 => if r_7 = 0 then zb (fX12_remembers g7) (fun g9 => zb (fX12_letters g9) (fun r_10 => fX12_copy_L53 v1 r_10 (fun g16 => zb (fX12_at r_10 3 g16) (fun r_17 => zchk r_17 2158 (zput g16 494 r_17.toNatClampNeg 0 (fun g19 => zchk 0 2158 (zchk 0 2158 (zput g19 494 (0 : Int32).toNatClampNeg ((g19 494 (0 : Int32).toNatClampNeg) + 1) (fun g22 => some (r_10, g22)))))))) zFU 0 g9)) else some (0, g7)) : Int32 → Option (Int32 × zM)) (fun k33 => if r_5 = 8 then k33 1 else k33 0)) else some (0, g3))))
set_option maxHeartbeats 4000000 in
set_option maxRecDepth 100000 in
theorem fX12_copy_L53_ok {X : zX} (hX : zCX X cX12_copy RX12) (hT : zNT X) (hR : X.2.2.2.1 = zrm 2 0) (hr : X.2.2.2.2.2.2.2.2.1.sig.returnType = (some .int)) (hn : X.2.2.2.2.2.2.2.2.2.1.maxLocals = 4) {v1 : Int32} {v2 : Int32} {k81 : zM → Option (Int32 × zM)} {r : Int32 × zM} (hk81 : ∀ (g : zM), k81 g = some r → zW X (zQ X (.inl (some (.int r.1), r.2)) 0) 0 0 81 [(0, .ref (zB X + 493)), (2, .int v2)] [] g) : ∀ (n : Nat) (v3 : Int32) (g : zM), fX12_copy_L53 v1 v2 k81 n v3 g = some r → zW X (zQ X (.inl (some (.int r.1), r.2)) 0) 0 0 53 [(0, .ref (zB X + 493)), (1, .int v1), (2, .int v2), (3, .int v3)] [] g := by
  intro n
  induction n with
  | zero => intro v3 g hf; exact zno hf
  | succ n ih =>
    intro v3 g hf
    rw [fX12_copy_L53] at hf
    refine z_iload_n hX dX12_copy_53 3 rfl ?_
    refine z_bipush hX dX12_copy_54 cb_53 ?_
    refine z_icmp_ge hX 81 dX12_copy_56 (by decide) (fun h11 => ?_) (fun h11 => ?_)
    · replace hf := zif_pos h11 hf
      refine zW.sub [0, 2] rfl ?_
      exact hk81 g hf
    · replace hf := zif_neg h11 hf
      refine z_aload_n hX dX12_copy_59 0 rfl ?_
      refine gf_Model_world hX zq_493 q1495 dX12_copy_60 ?_
      refine z_iload_n hX dX12_copy_63 2 rfl ?_
      refine z_iload_n hX dX12_copy_64 3 rfl ?_
      replace hf := zb_some hf
      obtain ⟨r_12, h12, hf⟩ := hf
      refine z_callS1 hX ok_X12_at rfl q1673 q1674 (zrm_ok hR (by decide)) (ct_X12_at  h12) dX12_copy_65 rfl rfl ?_
      refine z_aload_n hX dX12_copy_68 0 rfl ?_
      refine z_iload_n hX dX12_copy_69 1 rfl ?_
      refine z_iload_n hX dX12_copy_70 3 rfl ?_
      replace hf := zb_some hf
      obtain ⟨r_13, h13, hf⟩ := hf
      refine z_callV1 hX ok_X12_of q1687 q1689 q49 (zrm_ok hR (by decide)) (ct_X12_of  h13) (zrec_Model hX zq_493) dX12_copy_71 rfl rfl ?_
      replace hf := zchk_some hf
      obtain ⟨h14, hf⟩ := hf
      replace hf := zput_some hf
      obtain ⟨g15, eg15, hf⟩ := hf
      refine z_iast hX zq_494 (by decide) (zc_3158 _ _) h14 dX12_copy_74 (zW.eqg eg15 ?_)
      refine z_iincc (lv' := [(3, .int (v3 + 1)), (0, .ref (zB X + 493)), (1, .int v1), (2, .int v2)]) hX dX12_copy_75 hn (by decide) 3 rfl ci_1 rfl ?_
      refine z_goto hX 53 dX12_copy_78 (by decide) ?_
      refine zW.sub [1, 2, 3, 0] rfl ?_
      exact ih (v3 + 1) g15 hf
set_option maxHeartbeats 4000000 in
set_option maxRecDepth 100000 in
theorem fX12_copy_ok {X : zX} (hX : zCX X cX12_copy RX12) (hT : zNT X) (hR : X.2.2.2.1 = zrm 2 0) (hr : X.2.2.2.2.2.2.2.2.1.sig.returnType = (some .int)) (hn : X.2.2.2.2.2.2.2.2.2.1.maxLocals = 4) {v1 : Int32} {g : zM} {r : Int32 × zM} (hf : fX12_copy v1 g = some r) : zW X (zQ X (.inl (some (.int r.1), r.2)) 0) 0 0 0 [(0, .ref (zB X + 493)), (1, .int v1)] [] g := by
  unfold fX12_copy at hf
  refine z_aload_n hX dX12_copy_0 0 rfl ?_
  refine z_iconst hX dX12_copy_1 ci_0 ?_
  replace hf := zput_some hf
  obtain ⟨g1, eg1, hf⟩ := hf
  refine gp_Model_thrown hX zq_493 q1494 dX12_copy_2 (zW.eqg eg1 ?_)
  refine z_aload_n hX dX12_copy_5 0 rfl ?_
  refine z_aload_n hX dX12_copy_6 0 rfl ?_
  refine z_iload_n hX dX12_copy_7 1 rfl ?_
  replace hf := zb_some hf
  obtain ⟨r_2, h2, hf⟩ := hf
  refine z_callV1 hX ok_X12_noLetter q1787 q1789 q68 (zrm_ok hR (by decide)) (ct_X12_noLetter  h2) (zrec_Model hX zq_493) dX12_copy_8 rfl rfl ?_
  refine z_iconst hX dX12_copy_11 ci_1 ?_
  replace hf := zb2_some hf
  obtain ⟨r_3, g3, h3, hf⟩ := hf
  refine z_callV1 hX ok_X12_throwsIf q1775 q1777 q67 (zrm_ok hR (by decide)) (ct_X12_throwsIf  h3) (zrec_Model hX zq_493) dX12_copy_12 rfl rfl ?_
  refine z_if_ne hX 40 dX12_copy_15 (by decide) (fun h4 => ?_) (fun h4 => ?_)
  · replace hf := zif_neg h4 hf
    refine z_iconst hX dX12_copy_40 ci_0 ?_
    obtain rfl := Option.some.inj hf
    exact z_iret hX hr rfl (zl rfl) (zl rfl) dX12_copy_41
  · replace hf := zif_pos h4 hf
    refine z_aload_n hX dX12_copy_18 0 rfl ?_
    refine z_aload_n hX dX12_copy_19 0 rfl ?_
    replace hf := zb_some hf
    obtain ⟨r_5, h5, hf⟩ := hf
    refine z_callV1 hX ok_X12_letters q1652 q1654 q43 (zrm_ok hR (by decide)) (ct_X12_letters  h5) (zrec_Model hX zq_493) dX12_copy_20 rfl rfl ?_
    refine z_bipush hX dX12_copy_23 cb_8 ?_
    refine zjoin_ok (P := fun (k : Int32 → Option (Int32 × zM)) => ∀ (t0_6 : Int32), k t0_6 = some r → zW X (zQ X (.inl (some (.int r.1), r.2)) 0) 0 0 33 [(0, .ref (zB X + 493)), (1, .int v1)] [.int t0_6, .ref (zB X + 493)] g3) hf (fun t0_6 hf => ?_) (fun k33 hk33 hf => ?_)
    · refine z_iconst hX dX12_copy_33 ci_2 ?_
      replace hf := zb2_some hf
      obtain ⟨r_7, g7, h7, hf⟩ := hf
      refine z_callV1 hX ok_X12_throwsIf q1775 q1777 q67 (zrm_ok hR (by decide)) (ct_X12_throwsIf  h7) (zrec_Model hX zq_493) dX12_copy_34 rfl rfl ?_
      refine z_if_eq hX 42 dX12_copy_37 (by decide) (fun h8 => ?_) (fun h8 => ?_)
      · replace hf := zif_pos h8 hf
        refine z_aload_n hX dX12_copy_42 0 rfl ?_
        replace hf := zb_some hf
        obtain ⟨g9, h9, hf⟩ := hf
        refine z_callV0 hX ok_X12_remembers q1880 q1882 q84 (zrm_ok hR (by decide)) (ct_X12_remembers  h9) (zrec_Model hX zq_493) dX12_copy_43 rfl rfl ?_
        refine z_aload_n hX dX12_copy_46 0 rfl ?_
        replace hf := zb_some hf
        obtain ⟨r_10, h10, hf⟩ := hf
        refine z_callV1 hX ok_X12_letters q1652 q1654 q43 (zrm_ok hR (by decide)) (ct_X12_letters  h10) (zrec_Model hX zq_493) dX12_copy_47 rfl rfl ?_
        refine z_istore_n (lv' := [(2, .int r_10), (0, .ref (zB X + 493)), (1, .int v1)]) hX dX12_copy_50 hn (by decide) rfl ?_
        refine z_iconst hX dX12_copy_51 ci_0 ?_
        refine z_istore_n (lv' := [(3, .int 0), (2, .int r_10), (0, .ref (zB X + 493)), (1, .int v1)]) hX dX12_copy_52 hn (by decide) rfl ?_
        refine zW.sub [2, 3, 1, 0] rfl ?_
        refine fX12_copy_L53_ok hX hT hR hr hn (fun g16 hf => ?_) zFU 0 g9 hf
        · refine z_aload_n hX dX12_copy_81 0 rfl ?_
          refine gf_Model_world hX zq_493 q1495 dX12_copy_82 ?_
          refine z_iload_n hX dX12_copy_85 1 rfl ?_
          refine z_iconst hX dX12_copy_86 ci_3 ?_
          replace hf := zb_some hf
          obtain ⟨r_17, h17, hf⟩ := hf
          refine z_callS1 hX ok_X12_at rfl q1673 q1674 (zrm_ok hR (by decide)) (ct_X12_at  h17) dX12_copy_87 rfl rfl ?_
          refine z_iconst hX dX12_copy_90 ci_0 ?_
          replace hf := zchk_some hf
          obtain ⟨h18, hf⟩ := hf
          replace hf := zput_some hf
          obtain ⟨g19, eg19, hf⟩ := hf
          refine z_iast hX zq_494 (by decide) (zc_3158 _ _) h18 dX12_copy_91 (zW.eqg eg19 ?_)
          refine z_aload_n hX dX12_copy_92 0 rfl ?_
          refine gf_Model_world hX zq_493 q1495 dX12_copy_93 ?_
          refine z_iconst hX dX12_copy_96 ci_0 ?_
          refine z_dup2 hX dX12_copy_97 rfl rfl ?_
          replace hf := zchk_some hf
          obtain ⟨h20, hf⟩ := hf
          refine z_iald hX zq_494 (by decide) (zc_3158 _ _ _) h20 dX12_copy_98 ?_
          refine z_iconst hX dX12_copy_99 ci_1 ?_
          refine z_iadd hX dX12_copy_100 ?_
          replace hf := zchk_some hf
          obtain ⟨h21, hf⟩ := hf
          replace hf := zput_some hf
          obtain ⟨g22, eg22, hf⟩ := hf
          refine z_iast hX zq_494 (by decide) (zc_3158 _ _) h21 dX12_copy_101 (zW.eqg eg22 ?_)
          refine z_iload_n hX dX12_copy_102 1 rfl ?_
          obtain rfl := Option.some.inj hf
          exact z_iret hX hr rfl (zl rfl) (zl rfl) dX12_copy_103
      · replace hf := zif_neg h8 hf
        refine z_iconst hX dX12_copy_40 ci_0 ?_
        obtain rfl := Option.some.inj hf
        exact z_iret hX hr rfl (zl rfl) (zl rfl) dX12_copy_41
    · refine z_icmp_ne hX 32 dX12_copy_25 (by decide) (fun h23 => ?_) (fun h23 => ?_)
      · replace hf := zif_neg h23 hf
        refine z_iconst hX dX12_copy_32 ci_0 ?_
        exact hk33 0 hf
      · replace hf := zif_pos h23 hf
        refine z_iconst hX dX12_copy_28 ci_1 ?_
        refine z_goto hX 33 dX12_copy_29 (by decide) ?_
        exact hk33 1 hf
set_option maxHeartbeats 4000000 in
set_option maxRecDepth 100000 in
theorem ct_X12_copy {E : zE} {v1 : Int32} {g : zM} {r : Int32 × zM} (hf : fX12_copy v1 g = some r) : zCt yX12_copy cX12_copy 4 (some .int) 2 0 E [.ref (E.1 + 493), .int v1] g (.inl (some (.int r.1), r.2)) := by
  refine zmet (by decide) (zl rfl) (fun X hE hX hT hR hr hn => ?_)
  subst hE
  exact fX12_copy_ok hX hT hR hr hn  hf
def fX12_prune (v1 : Int32) (v2 : Int32) (g : zM) : Option (Int32 × zM) := zput g 493 0 0 (fun g1 => zb (fX12_noLetter v1 g1) (fun r_2 => zb2 (fX12_throwsIf r_2 1 g1) (fun r_3 g3 => if r_3 = 0 then zjoin (fun t0_5 => zb2 (fX12_throwsIf t0_5 2 g3) (fun r_6 g6 => if r_6 = 0 then zb (fX12_remembers g6) (fun g8 => zb (fX12_at v1 0 g8) (fun r_9 => zchk r_9 2158 (zchk r_9 2158 (zput g8 494 r_9.toNatClampNeg ((g8 494 r_9.toNatClampNeg) - v2) (fun g12 => zb (fX12_lines v1 g12) (fun r_13 => some (r_13, g12))))))) else some (0, g6)) : Int32 → Option (Int32 × zM)) (fun k38 => if v2 < 1 then k38 1 else zb (fX12_lines v1 g3) (fun r_15 => if v2 < r_15 then k38 0 else k38 1)) else some (0, g3))))
set_option maxHeartbeats 4000000 in
set_option maxRecDepth 100000 in
theorem fX12_prune_ok {X : zX} (hX : zCX X cX12_prune RX12) (hT : zNT X) (hR : X.2.2.2.1 = zrm 3 0) (hr : X.2.2.2.2.2.2.2.2.1.sig.returnType = (some .int)) (hn : X.2.2.2.2.2.2.2.2.2.1.maxLocals = 3) {v1 : Int32} {v2 : Int32} {g : zM} {r : Int32 × zM} (hf : fX12_prune v1 v2 g = some r) : zW X (zQ X (.inl (some (.int r.1), r.2)) 0) 0 0 0 [(0, .ref (zB X + 493)), (1, .int v1), (2, .int v2)] [] g := by
  unfold fX12_prune at hf
  refine z_aload_n hX dX12_prune_0 0 rfl ?_
  refine z_iconst hX dX12_prune_1 ci_0 ?_
  replace hf := zput_some hf
  obtain ⟨g1, eg1, hf⟩ := hf
  refine gp_Model_thrown hX zq_493 q1494 dX12_prune_2 (zW.eqg eg1 ?_)
  refine z_aload_n hX dX12_prune_5 0 rfl ?_
  refine z_aload_n hX dX12_prune_6 0 rfl ?_
  refine z_iload_n hX dX12_prune_7 1 rfl ?_
  replace hf := zb_some hf
  obtain ⟨r_2, h2, hf⟩ := hf
  refine z_callV1 hX ok_X12_noLetter q1787 q1789 q68 (zrm_ok hR (by decide)) (ct_X12_noLetter  h2) (zrec_Model hX zq_493) dX12_prune_8 rfl rfl ?_
  refine z_iconst hX dX12_prune_11 ci_1 ?_
  replace hf := zb2_some hf
  obtain ⟨r_3, g3, h3, hf⟩ := hf
  refine z_callV1 hX ok_X12_throwsIf q1775 q1777 q67 (zrm_ok hR (by decide)) (ct_X12_throwsIf  h3) (zrec_Model hX zq_493) dX12_prune_12 rfl rfl ?_
  refine z_if_ne hX 45 dX12_prune_15 (by decide) (fun h4 => ?_) (fun h4 => ?_)
  · replace hf := zif_neg h4 hf
    refine z_iconst hX dX12_prune_45 ci_0 ?_
    obtain rfl := Option.some.inj hf
    exact z_iret hX hr rfl (zl rfl) (zl rfl) dX12_prune_46
  · replace hf := zif_pos h4 hf
    refine z_aload_n hX dX12_prune_18 0 rfl ?_
    refine z_iload_n hX dX12_prune_19 2 rfl ?_
    refine z_iconst hX dX12_prune_20 ci_1 ?_
    refine zjoin_ok (P := fun (k : Int32 → Option (Int32 × zM)) => ∀ (t0_5 : Int32), k t0_5 = some r → zW X (zQ X (.inl (some (.int r.1), r.2)) 0) 0 0 38 [(0, .ref (zB X + 493)), (1, .int v1), (2, .int v2)] [.int t0_5, .ref (zB X + 493)] g3) hf (fun t0_5 hf => ?_) (fun k38 hk38 hf => ?_)
    · refine z_iconst hX dX12_prune_38 ci_2 ?_
      replace hf := zb2_some hf
      obtain ⟨r_6, g6, h6, hf⟩ := hf
      refine z_callV1 hX ok_X12_throwsIf q1775 q1777 q67 (zrm_ok hR (by decide)) (ct_X12_throwsIf  h6) (zrec_Model hX zq_493) dX12_prune_39 rfl rfl ?_
      refine z_if_eq hX 47 dX12_prune_42 (by decide) (fun h7 => ?_) (fun h7 => ?_)
      · replace hf := zif_pos h7 hf
        refine z_aload_n hX dX12_prune_47 0 rfl ?_
        replace hf := zb_some hf
        obtain ⟨g8, h8, hf⟩ := hf
        refine z_callV0 hX ok_X12_remembers q1880 q1882 q84 (zrm_ok hR (by decide)) (ct_X12_remembers  h8) (zrec_Model hX zq_493) dX12_prune_48 rfl rfl ?_
        refine z_aload_n hX dX12_prune_51 0 rfl ?_
        refine gf_Model_world hX zq_493 q1495 dX12_prune_52 ?_
        refine z_iload_n hX dX12_prune_55 1 rfl ?_
        refine z_iconst hX dX12_prune_56 ci_0 ?_
        replace hf := zb_some hf
        obtain ⟨r_9, h9, hf⟩ := hf
        refine z_callS1 hX ok_X12_at rfl q1673 q1674 (zrm_ok hR (by decide)) (ct_X12_at  h9) dX12_prune_57 rfl rfl ?_
        refine z_dup2 hX dX12_prune_60 rfl rfl ?_
        replace hf := zchk_some hf
        obtain ⟨h10, hf⟩ := hf
        refine z_iald hX zq_494 (by decide) (zc_3158 _ _ _) h10 dX12_prune_61 ?_
        refine z_iload_n hX dX12_prune_62 2 rfl ?_
        refine z_isub hX dX12_prune_63 ?_
        replace hf := zchk_some hf
        obtain ⟨h11, hf⟩ := hf
        replace hf := zput_some hf
        obtain ⟨g12, eg12, hf⟩ := hf
        refine z_iast hX zq_494 (by decide) (zc_3158 _ _) h11 dX12_prune_64 (zW.eqg eg12 ?_)
        refine z_aload_n hX dX12_prune_65 0 rfl ?_
        refine z_iload_n hX dX12_prune_66 1 rfl ?_
        replace hf := zb_some hf
        obtain ⟨r_13, h13, hf⟩ := hf
        refine z_callV1 hX ok_X12_lines q1683 q1685 q48 (zrm_ok hR (by decide)) (ct_X12_lines  h13) (zrec_Model hX zq_493) dX12_prune_67 rfl rfl ?_
        obtain rfl := Option.some.inj hf
        exact z_iret hX hr rfl (zl rfl) (zl rfl) dX12_prune_70
      · replace hf := zif_neg h7 hf
        refine z_iconst hX dX12_prune_45 ci_0 ?_
        obtain rfl := Option.some.inj hf
        exact z_iret hX hr rfl (zl rfl) (zl rfl) dX12_prune_46
    · refine z_icmp_lt hX 33 dX12_prune_21 (by decide) (fun h14 => ?_) (fun h14 => ?_)
      · replace hf := zif_pos h14 hf
        refine z_iconst hX dX12_prune_33 ci_1 ?_
        refine z_goto hX 38 dX12_prune_34 (by decide) ?_
        exact hk38 1 hf
      · replace hf := zif_neg h14 hf
        refine z_iload_n hX dX12_prune_24 2 rfl ?_
        refine z_aload_n hX dX12_prune_25 0 rfl ?_
        refine z_iload_n hX dX12_prune_26 1 rfl ?_
        replace hf := zb_some hf
        obtain ⟨r_15, h15, hf⟩ := hf
        refine z_callV1 hX ok_X12_lines q1683 q1685 q48 (zrm_ok hR (by decide)) (ct_X12_lines  h15) (zrec_Model hX zq_493) dX12_prune_27 rfl rfl ?_
        refine z_icmp_lt hX 37 dX12_prune_30 (by decide) (fun h16 => ?_) (fun h16 => ?_)
        · replace hf := zif_pos h16 hf
          refine z_iconst hX dX12_prune_37 ci_0 ?_
          exact hk38 0 hf
        · replace hf := zif_neg h16 hf
          refine z_iconst hX dX12_prune_33 ci_1 ?_
          refine z_goto hX 38 dX12_prune_34 (by decide) ?_
          exact hk38 1 hf
set_option maxHeartbeats 4000000 in
set_option maxRecDepth 100000 in
theorem ct_X12_prune {E : zE} {v1 : Int32} {v2 : Int32} {g : zM} {r : Int32 × zM} (hf : fX12_prune v1 v2 g = some r) : zCt yX12_prune cX12_prune 3 (some .int) 3 0 E [.ref (E.1 + 493), .int v1, .int v2] g (.inl (some (.int r.1), r.2)) := by
  refine zmet (by decide) (zl rfl) (fun X hE hX hT hR hr hn => ?_)
  subst hE
  exact fX12_prune_ok hX hT hR hr hn  hf
def fX12_cut_L57 (v1 : Int32) (v3 : Int32) (k123 : zM → Option (Int32 × zM)) : Nat → Int32 → zM → Option (Int32 × zM)
  | 0, _, _ => none
  | n + 1, v4, g => zb (fX12_lines v1 g) (fun r_11 => if r_11 ≤ (v4 + 1) then k123 g else zb (fX12_at v1 (5 + v4) g) (fun r_13 => zb (fX12_kindOf v1 (v4 + 1) g) (fun r_14 => zchk r_13 2158 (zput g 494 r_13.toNatClampNeg r_14 (fun g16 => zb (fX12_at v1 (29 + v4) g16) (fun r_17 => zb (fX12_of v1 ((29 + v4) + 1) g16) (fun r_18 => zchk r_17 2158 (zput g16 494 r_17.toNatClampNeg r_18 (fun g20 => fX12_cut_L57 v1 v3 k123 n (v4 + 1) g20)))))))))
def fX12_cut (v1 : Int32) (v2 : Int32) (g : zM) : Option (Int32 × zM) := zput g 493 0 0 (fun g1 => zb (fX12_noLine v1 v2 g1) (fun r_2 => zb2 (fX12_throwsIf r_2 1 g1) (fun r_3 g3 => if r_3 = 0 then zb (fX12_lines v1 g3) (fun r_5 => zjoin (fun t0_6 => zb2 (fX12_throwsIf t0_6 2 g3) (fun r_7 g7 => if r_7 = 0 then zb (fX12_remembers g7) (fun g9 => zb (fX12_kindOf v1 v2 g9) (fun r_10 => fX12_cut_L57 v1 r_10 (fun g21 => zb (fX12_at v1 0 g21) (fun r_22 => zchk r_22 2158 (zchk r_22 2158 (zput g21 494 r_22.toNatClampNeg ((g21 494 r_22.toNatClampNeg) - 1) (fun g25 => some (r_10, g25)))))) zFU v2 g9)) else some (0, g7)) : Int32 → Option (Int32 × zM)) (fun k34 => if r_5 = 1 then k34 1 else k34 0)) else some (0, g3))))
set_option maxHeartbeats 4000000 in
set_option maxRecDepth 100000 in
theorem fX12_cut_L57_ok {X : zX} (hX : zCX X cX12_cut RX12) (hT : zNT X) (hR : X.2.2.2.1 = zrm 4 0) (hr : X.2.2.2.2.2.2.2.2.1.sig.returnType = (some .int)) (hn : X.2.2.2.2.2.2.2.2.2.1.maxLocals = 5) {v1 : Int32} {v3 : Int32} {k123 : zM → Option (Int32 × zM)} {r : Int32 × zM} (hk123 : ∀ (g : zM), k123 g = some r → zW X (zQ X (.inl (some (.int r.1), r.2)) 0) 0 0 123 [(0, .ref (zB X + 493)), (1, .int v1), (3, .int v3)] [] g) : ∀ (n : Nat) (v4 : Int32) (g : zM), fX12_cut_L57 v1 v3 k123 n v4 g = some r → zW X (zQ X (.inl (some (.int r.1), r.2)) 0) 0 0 57 [(0, .ref (zB X + 493)), (1, .int v1), (3, .int v3), (4, .int v4)] [] g := by
  intro n
  induction n with
  | zero => intro v4 g hf; exact zno hf
  | succ n ih =>
    intro v4 g hf
    rw [fX12_cut_L57] at hf
    refine z_iload hX dX12_cut_57 3 rfl ?_
    refine z_iconst hX dX12_cut_59 ci_1 ?_
    refine z_iadd hX dX12_cut_60 ?_
    refine z_aload_n hX dX12_cut_61 0 rfl ?_
    refine z_iload_n hX dX12_cut_62 1 rfl ?_
    replace hf := zb_some hf
    obtain ⟨r_11, h11, hf⟩ := hf
    refine z_callV1 hX ok_X12_lines q1683 q1685 q48 (zrm_ok hR (by decide)) (ct_X12_lines  h11) (zrec_Model hX zq_493) dX12_cut_63 rfl rfl ?_
    refine z_icmp_ge hX 123 dX12_cut_66 (by decide) (fun h12 => ?_) (fun h12 => ?_)
    · replace hf := zif_pos h12 hf
      refine zW.sub [0, 1, 2] rfl ?_
      exact hk123 g hf
    · replace hf := zif_neg h12 hf
      refine z_aload_n hX dX12_cut_69 0 rfl ?_
      refine gf_Model_world hX zq_493 q1495 dX12_cut_70 ?_
      refine z_iload_n hX dX12_cut_73 1 rfl ?_
      refine z_iconst hX dX12_cut_74 ci_5 ?_
      refine z_iload hX dX12_cut_75 3 rfl ?_
      refine z_iadd hX dX12_cut_77 ?_
      replace hf := zb_some hf
      obtain ⟨r_13, h13, hf⟩ := hf
      refine z_callS1 hX ok_X12_at rfl q1673 q1674 (zrm_ok hR (by decide)) (ct_X12_at  h13) dX12_cut_78 rfl rfl ?_
      refine z_aload_n hX dX12_cut_81 0 rfl ?_
      refine z_iload_n hX dX12_cut_82 1 rfl ?_
      refine z_iload hX dX12_cut_83 3 rfl ?_
      refine z_iconst hX dX12_cut_85 ci_1 ?_
      refine z_iadd hX dX12_cut_86 ?_
      replace hf := zb_some hf
      obtain ⟨r_14, h14, hf⟩ := hf
      refine z_callV1 hX ok_X12_kindOf q1795 q1797 q70 (zrm_ok hR (by decide)) (ct_X12_kindOf  h14) (zrec_Model hX zq_493) dX12_cut_87 rfl rfl ?_
      replace hf := zchk_some hf
      obtain ⟨h15, hf⟩ := hf
      replace hf := zput_some hf
      obtain ⟨g16, eg16, hf⟩ := hf
      refine z_iast hX zq_494 (by decide) (zc_3158 _ _) h15 dX12_cut_90 (zW.eqg eg16 ?_)
      refine z_aload_n hX dX12_cut_91 0 rfl ?_
      refine gf_Model_world hX zq_493 q1495 dX12_cut_92 ?_
      refine z_iload_n hX dX12_cut_95 1 rfl ?_
      refine z_bipush hX dX12_cut_96 cb_29 ?_
      refine z_iload hX dX12_cut_98 3 rfl ?_
      refine z_iadd hX dX12_cut_100 ?_
      replace hf := zb_some hf
      obtain ⟨r_17, h17, hf⟩ := hf
      refine z_callS1 hX ok_X12_at rfl q1673 q1674 (zrm_ok hR (by decide)) (ct_X12_at  h17) dX12_cut_101 rfl rfl ?_
      refine z_aload_n hX dX12_cut_104 0 rfl ?_
      refine z_iload_n hX dX12_cut_105 1 rfl ?_
      refine z_bipush hX dX12_cut_106 cb_29 ?_
      refine z_iload hX dX12_cut_108 3 rfl ?_
      refine z_iadd hX dX12_cut_110 ?_
      refine z_iconst hX dX12_cut_111 ci_1 ?_
      refine z_iadd hX dX12_cut_112 ?_
      replace hf := zb_some hf
      obtain ⟨r_18, h18, hf⟩ := hf
      refine z_callV1 hX ok_X12_of q1687 q1689 q49 (zrm_ok hR (by decide)) (ct_X12_of  h18) (zrec_Model hX zq_493) dX12_cut_113 rfl rfl ?_
      replace hf := zchk_some hf
      obtain ⟨h19, hf⟩ := hf
      replace hf := zput_some hf
      obtain ⟨g20, eg20, hf⟩ := hf
      refine z_iast hX zq_494 (by decide) (zc_3158 _ _) h19 dX12_cut_116 (zW.eqg eg20 ?_)
      refine z_iincc (lv' := [(4, .int (v4 + 1)), (0, .ref (zB X + 493)), (1, .int v1), (3, .int v3)]) hX dX12_cut_117 hn (by decide) 3 rfl ci_1 rfl ?_
      refine z_goto hX 57 dX12_cut_120 (by decide) ?_
      refine zW.sub [1, 2, 3, 0] rfl ?_
      exact ih (v4 + 1) g20 hf
set_option maxHeartbeats 4000000 in
set_option maxRecDepth 100000 in
theorem fX12_cut_ok {X : zX} (hX : zCX X cX12_cut RX12) (hT : zNT X) (hR : X.2.2.2.1 = zrm 4 0) (hr : X.2.2.2.2.2.2.2.2.1.sig.returnType = (some .int)) (hn : X.2.2.2.2.2.2.2.2.2.1.maxLocals = 5) {v1 : Int32} {v2 : Int32} {g : zM} {r : Int32 × zM} (hf : fX12_cut v1 v2 g = some r) : zW X (zQ X (.inl (some (.int r.1), r.2)) 0) 0 0 0 [(0, .ref (zB X + 493)), (1, .int v1), (2, .int v2)] [] g := by
  unfold fX12_cut at hf
  refine z_aload_n hX dX12_cut_0 0 rfl ?_
  refine z_iconst hX dX12_cut_1 ci_0 ?_
  replace hf := zput_some hf
  obtain ⟨g1, eg1, hf⟩ := hf
  refine gp_Model_thrown hX zq_493 q1494 dX12_cut_2 (zW.eqg eg1 ?_)
  refine z_aload_n hX dX12_cut_5 0 rfl ?_
  refine z_aload_n hX dX12_cut_6 0 rfl ?_
  refine z_iload_n hX dX12_cut_7 1 rfl ?_
  refine z_iload_n hX dX12_cut_8 2 rfl ?_
  replace hf := zb_some hf
  obtain ⟨r_2, h2, hf⟩ := hf
  refine z_callV1 hX ok_X12_noLine q1846 q1848 q81 (zrm_ok hR (by decide)) (ct_X12_noLine  h2) (zrec_Model hX zq_493) dX12_cut_9 rfl rfl ?_
  refine z_iconst hX dX12_cut_12 ci_1 ?_
  replace hf := zb2_some hf
  obtain ⟨r_3, g3, h3, hf⟩ := hf
  refine z_callV1 hX ok_X12_throwsIf q1775 q1777 q67 (zrm_ok hR (by decide)) (ct_X12_throwsIf  h3) (zrec_Model hX zq_493) dX12_cut_13 rfl rfl ?_
  refine z_if_ne hX 41 dX12_cut_16 (by decide) (fun h4 => ?_) (fun h4 => ?_)
  · replace hf := zif_neg h4 hf
    refine z_iconst hX dX12_cut_41 ci_0 ?_
    obtain rfl := Option.some.inj hf
    exact z_iret hX hr rfl (zl rfl) (zl rfl) dX12_cut_42
  · replace hf := zif_pos h4 hf
    refine z_aload_n hX dX12_cut_19 0 rfl ?_
    refine z_aload_n hX dX12_cut_20 0 rfl ?_
    refine z_iload_n hX dX12_cut_21 1 rfl ?_
    replace hf := zb_some hf
    obtain ⟨r_5, h5, hf⟩ := hf
    refine z_callV1 hX ok_X12_lines q1683 q1685 q48 (zrm_ok hR (by decide)) (ct_X12_lines  h5) (zrec_Model hX zq_493) dX12_cut_22 rfl rfl ?_
    refine z_iconst hX dX12_cut_25 ci_1 ?_
    refine zjoin_ok (P := fun (k : Int32 → Option (Int32 × zM)) => ∀ (t0_6 : Int32), k t0_6 = some r → zW X (zQ X (.inl (some (.int r.1), r.2)) 0) 0 0 34 [(0, .ref (zB X + 493)), (1, .int v1), (2, .int v2)] [.int t0_6, .ref (zB X + 493)] g3) hf (fun t0_6 hf => ?_) (fun k34 hk34 hf => ?_)
    · refine z_iconst hX dX12_cut_34 ci_2 ?_
      replace hf := zb2_some hf
      obtain ⟨r_7, g7, h7, hf⟩ := hf
      refine z_callV1 hX ok_X12_throwsIf q1775 q1777 q67 (zrm_ok hR (by decide)) (ct_X12_throwsIf  h7) (zrec_Model hX zq_493) dX12_cut_35 rfl rfl ?_
      refine z_if_eq hX 43 dX12_cut_38 (by decide) (fun h8 => ?_) (fun h8 => ?_)
      · replace hf := zif_pos h8 hf
        refine z_aload_n hX dX12_cut_43 0 rfl ?_
        replace hf := zb_some hf
        obtain ⟨g9, h9, hf⟩ := hf
        refine z_callV0 hX ok_X12_remembers q1880 q1882 q84 (zrm_ok hR (by decide)) (ct_X12_remembers  h9) (zrec_Model hX zq_493) dX12_cut_44 rfl rfl ?_
        refine z_aload_n hX dX12_cut_47 0 rfl ?_
        refine z_iload_n hX dX12_cut_48 1 rfl ?_
        refine z_iload_n hX dX12_cut_49 2 rfl ?_
        replace hf := zb_some hf
        obtain ⟨r_10, h10, hf⟩ := hf
        refine z_callV1 hX ok_X12_kindOf q1795 q1797 q70 (zrm_ok hR (by decide)) (ct_X12_kindOf  h10) (zrec_Model hX zq_493) dX12_cut_50 rfl rfl ?_
        refine z_istore_n (lv' := [(3, .int r_10), (0, .ref (zB X + 493)), (1, .int v1), (2, .int v2)]) hX dX12_cut_53 hn (by decide) rfl ?_
        refine z_iload_n hX dX12_cut_54 3 rfl ?_
        refine z_istore (lv' := [(4, .int v2), (3, .int r_10), (0, .ref (zB X + 493)), (1, .int v1), (2, .int v2)]) hX dX12_cut_55 hn (by decide) rfl ?_
        refine zW.sub [2, 3, 1, 0] rfl ?_
        refine fX12_cut_L57_ok hX hT hR hr hn (fun g21 hf => ?_) zFU v2 g9 hf
        · refine z_aload_n hX dX12_cut_123 0 rfl ?_
          refine gf_Model_world hX zq_493 q1495 dX12_cut_124 ?_
          refine z_iload_n hX dX12_cut_127 1 rfl ?_
          refine z_iconst hX dX12_cut_128 ci_0 ?_
          replace hf := zb_some hf
          obtain ⟨r_22, h22, hf⟩ := hf
          refine z_callS1 hX ok_X12_at rfl q1673 q1674 (zrm_ok hR (by decide)) (ct_X12_at  h22) dX12_cut_129 rfl rfl ?_
          refine z_dup2 hX dX12_cut_132 rfl rfl ?_
          replace hf := zchk_some hf
          obtain ⟨h23, hf⟩ := hf
          refine z_iald hX zq_494 (by decide) (zc_3158 _ _ _) h23 dX12_cut_133 ?_
          refine z_iconst hX dX12_cut_134 ci_1 ?_
          refine z_isub hX dX12_cut_135 ?_
          replace hf := zchk_some hf
          obtain ⟨h24, hf⟩ := hf
          replace hf := zput_some hf
          obtain ⟨g25, eg25, hf⟩ := hf
          refine z_iast hX zq_494 (by decide) (zc_3158 _ _) h24 dX12_cut_136 (zW.eqg eg25 ?_)
          refine z_iload_n hX dX12_cut_137 2 rfl ?_
          obtain rfl := Option.some.inj hf
          exact z_iret hX hr rfl (zl rfl) (zl rfl) dX12_cut_138
      · replace hf := zif_neg h8 hf
        refine z_iconst hX dX12_cut_41 ci_0 ?_
        obtain rfl := Option.some.inj hf
        exact z_iret hX hr rfl (zl rfl) (zl rfl) dX12_cut_42
    · refine z_icmp_ne hX 33 dX12_cut_26 (by decide) (fun h26 => ?_) (fun h26 => ?_)
      · replace hf := zif_neg h26 hf
        refine z_iconst hX dX12_cut_33 ci_0 ?_
        exact hk34 0 hf
      · replace hf := zif_pos h26 hf
        refine z_iconst hX dX12_cut_29 ci_1 ?_
        refine z_goto hX 34 dX12_cut_30 (by decide) ?_
        exact hk34 1 hf
set_option maxHeartbeats 4000000 in
set_option maxRecDepth 100000 in
theorem ct_X12_cut {E : zE} {v1 : Int32} {v2 : Int32} {g : zM} {r : Int32 × zM} (hf : fX12_cut v1 v2 g = some r) : zCt yX12_cut cX12_cut 5 (some .int) 4 0 E [.ref (E.1 + 493), .int v1, .int v2] g (.inl (some (.int r.1), r.2)) := by
  refine zmet (by decide) (zl rfl) (fun X hE hX hT hR hr hn => ?_)
  subst hE
  exact fX12_cut_ok hX hT hR hr hn  hf
def fX12_burn_L30 (k61 : zM → Option (Int32 × zM)) : Nat → Int32 → zM → Option (Int32 × zM)
  | 0, _, _ => none
  | n + 1, v2, g => if 460 ≤ (v2 + 53) then k61 g else zchk (v2 + 53) 2158 (zchk v2 2158 (zput g 494 v2.toNatClampNeg (g 494 (v2 + 53).toNatClampNeg) (fun g10 => fX12_burn_L30 k61 n (v2 + 1) g10)))
def fX12_burn (v1 : Int32) (g : zM) : Option (Int32 × zM) := zput g 493 0 0 (fun g1 => zb (fX12_noLetter v1 g1) (fun r_2 => zb2 (fX12_throwsIf r_2 1 g1) (fun r_3 g3 => if r_3 = 0 then zb (fX12_remembers g3) (fun g5 => zb (fX12_at v1 0 g5) (fun r_6 => fX12_burn_L30 (fun g11 => zchk 0 2158 (zchk 0 2158 (zput g11 494 (0 : Int32).toNatClampNeg ((g11 494 (0 : Int32).toNatClampNeg) - 1) (fun g14 => zb (fX12_letters g14) (fun r_15 => some (r_15, g14)))))) zFU r_6 g5)) else some (0, g3))))
set_option maxHeartbeats 4000000 in
set_option maxRecDepth 100000 in
theorem fX12_burn_L30_ok {X : zX} (hX : zCX X cX12_burn RX12) (hT : zNT X) (hR : X.2.2.2.1 = zrm 2 0) (hr : X.2.2.2.2.2.2.2.2.1.sig.returnType = (some .int)) (hn : X.2.2.2.2.2.2.2.2.2.1.maxLocals = 3) {k61 : zM → Option (Int32 × zM)} {r : Int32 × zM} (hk61 : ∀ (g : zM), k61 g = some r → zW X (zQ X (.inl (some (.int r.1), r.2)) 0) 0 0 61 [(0, .ref (zB X + 493))] [] g) : ∀ (n : Nat) (v2 : Int32) (g : zM), fX12_burn_L30 k61 n v2 g = some r → zW X (zQ X (.inl (some (.int r.1), r.2)) 0) 0 0 30 [(0, .ref (zB X + 493)), (2, .int v2)] [] g := by
  intro n
  induction n with
  | zero => intro v2 g hf; exact zno hf
  | succ n ih =>
    intro v2 g hf
    rw [fX12_burn_L30] at hf
    refine z_iload_n hX dX12_burn_30 1 rfl ?_
    refine z_bipush hX dX12_burn_31 cb_53 ?_
    refine z_iadd hX dX12_burn_33 ?_
    refine z_sipush hX dX12_burn_34 cs_460 ?_
    refine z_icmp_ge hX 61 dX12_burn_37 (by decide) (fun h7 => ?_) (fun h7 => ?_)
    · replace hf := zif_pos h7 hf
      refine zW.sub [0] rfl ?_
      exact hk61 g hf
    · replace hf := zif_neg h7 hf
      refine z_aload_n hX dX12_burn_40 0 rfl ?_
      refine gf_Model_world hX zq_493 q1495 dX12_burn_41 ?_
      refine z_iload_n hX dX12_burn_44 1 rfl ?_
      refine z_aload_n hX dX12_burn_45 0 rfl ?_
      refine gf_Model_world hX zq_493 q1495 dX12_burn_46 ?_
      refine z_iload_n hX dX12_burn_49 1 rfl ?_
      refine z_bipush hX dX12_burn_50 cb_53 ?_
      refine z_iadd hX dX12_burn_52 ?_
      replace hf := zchk_some hf
      obtain ⟨h8, hf⟩ := hf
      refine z_iald hX zq_494 (by decide) (zc_3158 _ _ _) h8 dX12_burn_53 ?_
      replace hf := zchk_some hf
      obtain ⟨h9, hf⟩ := hf
      replace hf := zput_some hf
      obtain ⟨g10, eg10, hf⟩ := hf
      refine z_iast hX zq_494 (by decide) (zc_3158 _ _) h9 dX12_burn_54 (zW.eqg eg10 ?_)
      refine z_iincc (lv' := [(2, .int (v2 + 1)), (0, .ref (zB X + 493))]) hX dX12_burn_55 hn (by decide) 1 rfl ci_1 rfl ?_
      refine z_goto hX 30 dX12_burn_58 (by decide) ?_
      refine zW.sub [1, 0] rfl ?_
      exact ih (v2 + 1) g10 hf
set_option maxHeartbeats 4000000 in
set_option maxRecDepth 100000 in
theorem fX12_burn_ok {X : zX} (hX : zCX X cX12_burn RX12) (hT : zNT X) (hR : X.2.2.2.1 = zrm 2 0) (hr : X.2.2.2.2.2.2.2.2.1.sig.returnType = (some .int)) (hn : X.2.2.2.2.2.2.2.2.2.1.maxLocals = 3) {v1 : Int32} {g : zM} {r : Int32 × zM} (hf : fX12_burn v1 g = some r) : zW X (zQ X (.inl (some (.int r.1), r.2)) 0) 0 0 0 [(0, .ref (zB X + 493)), (1, .int v1)] [] g := by
  unfold fX12_burn at hf
  refine z_aload_n hX dX12_burn_0 0 rfl ?_
  refine z_iconst hX dX12_burn_1 ci_0 ?_
  replace hf := zput_some hf
  obtain ⟨g1, eg1, hf⟩ := hf
  refine gp_Model_thrown hX zq_493 q1494 dX12_burn_2 (zW.eqg eg1 ?_)
  refine z_aload_n hX dX12_burn_5 0 rfl ?_
  refine z_aload_n hX dX12_burn_6 0 rfl ?_
  refine z_iload_n hX dX12_burn_7 1 rfl ?_
  replace hf := zb_some hf
  obtain ⟨r_2, h2, hf⟩ := hf
  refine z_callV1 hX ok_X12_noLetter q1787 q1789 q68 (zrm_ok hR (by decide)) (ct_X12_noLetter  h2) (zrec_Model hX zq_493) dX12_burn_8 rfl rfl ?_
  refine z_iconst hX dX12_burn_11 ci_1 ?_
  replace hf := zb2_some hf
  obtain ⟨r_3, g3, h3, hf⟩ := hf
  refine z_callV1 hX ok_X12_throwsIf q1775 q1777 q67 (zrm_ok hR (by decide)) (ct_X12_throwsIf  h3) (zrec_Model hX zq_493) dX12_burn_12 rfl rfl ?_
  refine z_if_eq hX 20 dX12_burn_15 (by decide) (fun h4 => ?_) (fun h4 => ?_)
  · replace hf := zif_pos h4 hf
    refine z_aload_n hX dX12_burn_20 0 rfl ?_
    replace hf := zb_some hf
    obtain ⟨g5, h5, hf⟩ := hf
    refine z_callV0 hX ok_X12_remembers q1880 q1882 q84 (zrm_ok hR (by decide)) (ct_X12_remembers  h5) (zrec_Model hX zq_493) dX12_burn_21 rfl rfl ?_
    refine z_iload_n hX dX12_burn_24 1 rfl ?_
    refine z_iconst hX dX12_burn_25 ci_0 ?_
    replace hf := zb_some hf
    obtain ⟨r_6, h6, hf⟩ := hf
    refine z_callS1 hX ok_X12_at rfl q1673 q1674 (zrm_ok hR (by decide)) (ct_X12_at  h6) dX12_burn_26 rfl rfl ?_
    refine z_istore_n (lv' := [(2, .int r_6), (0, .ref (zB X + 493)), (1, .int v1)]) hX dX12_burn_29 hn (by decide) rfl ?_
    refine zW.sub [1, 0] rfl ?_
    refine fX12_burn_L30_ok hX hT hR hr hn (fun g11 hf => ?_) zFU r_6 g5 hf
    · refine z_aload_n hX dX12_burn_61 0 rfl ?_
      refine gf_Model_world hX zq_493 q1495 dX12_burn_62 ?_
      refine z_iconst hX dX12_burn_65 ci_0 ?_
      refine z_dup2 hX dX12_burn_66 rfl rfl ?_
      replace hf := zchk_some hf
      obtain ⟨h12, hf⟩ := hf
      refine z_iald hX zq_494 (by decide) (zc_3158 _ _ _) h12 dX12_burn_67 ?_
      refine z_iconst hX dX12_burn_68 ci_1 ?_
      refine z_isub hX dX12_burn_69 ?_
      replace hf := zchk_some hf
      obtain ⟨h13, hf⟩ := hf
      replace hf := zput_some hf
      obtain ⟨g14, eg14, hf⟩ := hf
      refine z_iast hX zq_494 (by decide) (zc_3158 _ _) h13 dX12_burn_70 (zW.eqg eg14 ?_)
      refine z_aload_n hX dX12_burn_71 0 rfl ?_
      replace hf := zb_some hf
      obtain ⟨r_15, h15, hf⟩ := hf
      refine z_callV1 hX ok_X12_letters q1652 q1654 q43 (zrm_ok hR (by decide)) (ct_X12_letters  h15) (zrec_Model hX zq_493) dX12_burn_72 rfl rfl ?_
      obtain rfl := Option.some.inj hf
      exact z_iret hX hr rfl (zl rfl) (zl rfl) dX12_burn_75
  · replace hf := zif_neg h4 hf
    refine z_iconst hX dX12_burn_18 ci_0 ?_
    obtain rfl := Option.some.inj hf
    exact z_iret hX hr rfl (zl rfl) (zl rfl) dX12_burn_19
set_option maxHeartbeats 4000000 in
set_option maxRecDepth 100000 in
theorem ct_X12_burn {E : zE} {v1 : Int32} {g : zM} {r : Int32 × zM} (hf : fX12_burn v1 g = some r) : zCt yX12_burn cX12_burn 3 (some .int) 2 0 E [.ref (E.1 + 493), .int v1] g (.inl (some (.int r.1), r.2)) := by
  refine zmet (by decide) (zl rfl) (fun X hE hX hT hR hr hn => ?_)
  subst hE
  exact fX12_burn_ok hX hT hR hr hn  hf
def fX12_grows (v1 : Int32) (g : zM) : Option (Int32 × zM) := zb (fX12_looksAt v1 g) (fun g1 => zb2 (fX12_canGrow g1) (fun r_2 g2 => if r_2 = 0 then some (0, g2) else zb2 (fX12_follows g2) (fun r_4 g4 => zb2 (fX12_draw 100 g4) (fun r_5 g5 => zchk 5 2158 (if (g5 494 (5 : Int32).toNatClampNeg) ≤ r_5 then zb (fX12_comes v1 r_4 g5) (fun g8 => some (1, g8)) else zb2 (fX12_draw 12 g5) (fun r_9 g9 => zb (fX12_comes v1 r_9 g9) (fun g10 => some (1, g10))))))))
set_option maxHeartbeats 4000000 in
set_option maxRecDepth 100000 in
theorem fX12_grows_ok {X : zX} (hX : zCX X cX12_grows RX12) (hT : zNT X) (hR : X.2.2.2.1 = zrm 5 0) (hr : X.2.2.2.2.2.2.2.2.1.sig.returnType = (some .int)) (hn : X.2.2.2.2.2.2.2.2.2.1.maxLocals = 3) {v1 : Int32} {g : zM} {r : Int32 × zM} (hf : fX12_grows v1 g = some r) : zW X (zQ X (.inl (some (.int r.1), r.2)) 0) 0 0 0 [(0, .ref (zB X + 493)), (1, .int v1)] [] g := by
  unfold fX12_grows at hf
  refine z_aload_n hX dX12_grows_0 0 rfl ?_
  refine z_iload_n hX dX12_grows_1 1 rfl ?_
  replace hf := zb_some hf
  obtain ⟨g1, h1, hf⟩ := hf
  refine z_callV0 hX ok_X12_looksAt q1791 q1793 q69 (zrm_ok hR (by decide)) (ct_X12_looksAt  h1) (zrec_Model hX zq_493) dX12_grows_2 rfl rfl ?_
  refine z_aload_n hX dX12_grows_5 0 rfl ?_
  replace hf := zb2_some hf
  obtain ⟨r_2, g2, h2, hf⟩ := hf
  refine z_callV1 hX ok_X12_canGrow q1811 q1813 q74 (zrm_ok hR (by decide)) (ct_X12_canGrow  h2) (zrec_Model hX zq_493) dX12_grows_6 rfl rfl ?_
  refine z_if_ne hX 14 dX12_grows_9 (by decide) (fun h3 => ?_) (fun h3 => ?_)
  · replace hf := zif_neg h3 hf
    refine z_aload_n hX dX12_grows_14 0 rfl ?_
    replace hf := zb2_some hf
    obtain ⟨r_4, g4, h4, hf⟩ := hf
    refine z_callV1 hX ok_X12_follows q1815 q1817 q75 (zrm_ok hR (by decide)) (ct_X12_follows  h4) (zrec_Model hX zq_493) dX12_grows_15 rfl rfl ?_
    refine z_istore_n (lv' := [(2, .int r_4), (0, .ref (zB X + 493)), (1, .int v1)]) hX dX12_grows_18 hn (by decide) rfl ?_
    refine z_aload_n hX dX12_grows_19 1 rfl ?_
    refine z_bipush hX dX12_grows_20 cb_100 ?_
    replace hf := zb2_some hf
    obtain ⟨r_5, g5, h5, hf⟩ := hf
    refine z_callV1 hX ok_X12_draw q1924 q1926 q88 (zrm_ok hR (by decide)) (ct_X12_draw  h5) (zrec_Model hX zq_493) dX12_grows_22 rfl rfl ?_
    refine z_aload_n hX dX12_grows_25 1 rfl ?_
    refine gf_Model_world hX zq_493 q1495 dX12_grows_26 ?_
    refine z_iconst hX dX12_grows_29 ci_5 ?_
    replace hf := zchk_some hf
    obtain ⟨h6, hf⟩ := hf
    refine z_iald hX zq_494 (by decide) (zc_3158 _ _ _) h6 dX12_grows_30 ?_
    refine z_icmp_ge hX 41 dX12_grows_31 (by decide) (fun h7 => ?_) (fun h7 => ?_)
    · replace hf := zif_pos h7 hf
      refine z_aload_n hX dX12_grows_41 1 rfl ?_
      refine z_iload_n hX dX12_grows_42 2 rfl ?_
      refine z_iload_n hX dX12_grows_43 0 rfl ?_
      replace hf := zb_some hf
      obtain ⟨g8, h8, hf⟩ := hf
      refine z_callV0 hX ok_X12_comes q1679 q1681 q47 (zrm_ok hR (by decide)) (ct_X12_comes  h8) (zrec_Model hX zq_493) dX12_grows_44 rfl rfl ?_
      refine z_iconst hX dX12_grows_47 ci_1 ?_
      obtain rfl := Option.some.inj hf
      exact z_iret hX hr rfl (zl rfl) (zl rfl) dX12_grows_48
    · replace hf := zif_neg h7 hf
      refine z_aload_n hX dX12_grows_34 1 rfl ?_
      refine z_bipush hX dX12_grows_35 cb_12 ?_
      replace hf := zb2_some hf
      obtain ⟨r_9, g9, h9, hf⟩ := hf
      refine z_callV1 hX ok_X12_draw q1924 q1926 q88 (zrm_ok hR (by decide)) (ct_X12_draw  h9) (zrec_Model hX zq_493) dX12_grows_37 rfl rfl ?_
      refine z_istore_n (lv' := [(2, .int r_9), (0, .ref (zB X + 493)), (1, .int v1)]) hX dX12_grows_40 hn (by decide) rfl ?_
      refine z_aload_n hX dX12_grows_41 1 rfl ?_
      refine z_iload_n hX dX12_grows_42 2 rfl ?_
      refine z_iload_n hX dX12_grows_43 0 rfl ?_
      replace hf := zb_some hf
      obtain ⟨g10, h10, hf⟩ := hf
      refine z_callV0 hX ok_X12_comes q1679 q1681 q47 (zrm_ok hR (by decide)) (ct_X12_comes  h10) (zrec_Model hX zq_493) dX12_grows_44 rfl rfl ?_
      refine z_iconst hX dX12_grows_47 ci_1 ?_
      obtain rfl := Option.some.inj hf
      exact z_iret hX hr rfl (zl rfl) (zl rfl) dX12_grows_48
  · replace hf := zif_pos h3 hf
    refine z_iconst hX dX12_grows_12 ci_0 ?_
    obtain rfl := Option.some.inj hf
    exact z_iret hX hr rfl (zl rfl) (zl rfl) dX12_grows_13
set_option maxHeartbeats 4000000 in
set_option maxRecDepth 100000 in
theorem ct_X12_grows {E : zE} {v1 : Int32} {g : zM} {r : Int32 × zM} (hf : fX12_grows v1 g = some r) : zCt yX12_grows cX12_grows 3 (some .int) 5 0 E [.ref (E.1 + 493), .int v1] g (.inl (some (.int r.1), r.2)) := by
  refine zmet (by decide) (zl rfl) (fun X hE hX hT hR hr hn => ?_)
  subst hE
  exact fX12_grows_ok hX hT hR hr hn  hf
def fX12_oneWeek_L4 (k48 : Int32 → zM → Option (Int32 × zM)) : Nat → Int32 → Int32 → zM → Option (Int32 × zM)
  | 0, _, _, _ => none
  | n + 1, v1, v2, g => zb (fX12_letters g) (fun r_1 => if r_1 ≤ v2 then k48 v1 g else zb2 (fX12_grows v2 g) (fun r_3 g3 => zb (fX12_of v2 4 g3) (fun r_4 => if r_4 = 1 then zb2 (fX12_grows v2 g3) (fun r_6 g6 => fX12_oneWeek_L4 k48 n ((v1 + r_3) + r_6) (v2 + 1) g6) else fX12_oneWeek_L4 k48 n ((v1 + r_3) + 0) (v2 + 1) g3)))
def fX12_oneWeek (g : zM) : Option (Int32 × zM) := fX12_oneWeek_L4 (fun v1_7 g7 => zchk 6 2158 (zchk 6 2158 (zput g7 494 (6 : Int32).toNatClampNeg ((g7 494 (6 : Int32).toNatClampNeg) + v1_7) (fun g10 => zchk 4 2158 (zchk 4 2158 (zput g10 494 (4 : Int32).toNatClampNeg (if (g10 494 (4 : Int32).toNatClampNeg) + 1 < 9999 then (g10 494 (4 : Int32).toNatClampNeg) + 1 else 9999) (fun g13 => some (v1_7, g13)))))))) zFU 0 0 g
set_option maxHeartbeats 4000000 in
set_option maxRecDepth 100000 in
theorem fX12_oneWeek_L4_ok {X : zX} (hX : zCX X cX12_oneWeek RX12) (hT : zNT X) (hR : X.2.2.2.1 = zrm 6 0) (hr : X.2.2.2.2.2.2.2.2.1.sig.returnType = (some .int)) (hn : X.2.2.2.2.2.2.2.2.2.1.maxLocals = 3) {k48 : Int32 → zM → Option (Int32 × zM)} {r : Int32 × zM} (hk48 : ∀ (v1 : Int32) (g : zM), k48 v1 g = some r → zW X (zQ X (.inl (some (.int r.1), r.2)) 0) 0 0 48 [(0, .ref (zB X + 493)), (1, .int v1)] [] g) : ∀ (n : Nat) (v1 : Int32) (v2 : Int32) (g : zM), fX12_oneWeek_L4 k48 n v1 v2 g = some r → zW X (zQ X (.inl (some (.int r.1), r.2)) 0) 0 0 4 [(0, .ref (zB X + 493)), (1, .int v1), (2, .int v2)] [] g := by
  intro n
  induction n with
  | zero => intro v1 v2 g hf; exact zno hf
  | succ n ih =>
    intro v1 v2 g hf
    rw [fX12_oneWeek_L4] at hf
    refine z_iload_n hX dX12_oneWeek_4 2 rfl ?_
    refine z_aload_n hX dX12_oneWeek_5 0 rfl ?_
    replace hf := zb_some hf
    obtain ⟨r_1, h1, hf⟩ := hf
    refine z_callV1 hX ok_X12_letters q1652 q1654 q43 (zrm_ok hR (by decide)) (ct_X12_letters  h1) (zrec_Model hX zq_493) dX12_oneWeek_6 rfl rfl ?_
    refine z_icmp_ge hX 48 dX12_oneWeek_9 (by decide) (fun h2 => ?_) (fun h2 => ?_)
    · replace hf := zif_pos h2 hf
      refine zW.sub [0, 1] rfl ?_
      exact hk48 v1 g hf
    · replace hf := zif_neg h2 hf
      refine z_iload_n hX dX12_oneWeek_12 1 rfl ?_
      refine z_aload_n hX dX12_oneWeek_13 0 rfl ?_
      refine z_iload_n hX dX12_oneWeek_14 2 rfl ?_
      replace hf := zb2_some hf
      obtain ⟨r_3, g3, h3, hf⟩ := hf
      refine z_callV1 hX ok_X12_grows q1920 q1922 q87 (zrm_ok hR (by decide)) (ct_X12_grows  h3) (zrec_Model hX zq_493) dX12_oneWeek_15 rfl rfl ?_
      refine z_iadd hX dX12_oneWeek_18 ?_
      refine z_istore_n (lv' := [(1, .int (v1 + r_3)), (0, .ref (zB X + 493)), (2, .int v2)]) hX dX12_oneWeek_19 hn (by decide) rfl ?_
      refine z_iload_n hX dX12_oneWeek_20 0 rfl ?_
      refine z_aload_n hX dX12_oneWeek_21 1 rfl ?_
      refine z_iload_n hX dX12_oneWeek_22 2 rfl ?_
      refine z_iconst hX dX12_oneWeek_23 ci_4 ?_
      replace hf := zb_some hf
      obtain ⟨r_4, h4, hf⟩ := hf
      refine z_callV1 hX ok_X12_of q1687 q1689 q49 (zrm_ok hR (by decide)) (ct_X12_of  h4) (zrec_Model hX zq_493) dX12_oneWeek_24 rfl rfl ?_
      refine z_iconst hX dX12_oneWeek_27 ci_1 ?_
      refine z_icmp_ne hX 39 dX12_oneWeek_28 (by decide) (fun h5 => ?_) (fun h5 => ?_)
      · replace hf := zif_neg h5 hf
        refine z_iconst hX dX12_oneWeek_39 ci_0 ?_
        refine z_iadd hX dX12_oneWeek_40 ?_
        refine z_istore_n (lv' := [(1, .int ((v1 + r_3) + 0)), (0, .ref (zB X + 493)), (2, .int v2)]) hX dX12_oneWeek_41 hn (by decide) rfl ?_
        refine z_iincc (lv' := [(2, .int (v2 + 1)), (1, .int ((v1 + r_3) + 0)), (0, .ref (zB X + 493))]) hX dX12_oneWeek_42 hn (by decide) 2 rfl ci_1 rfl ?_
        refine z_goto hX 4 dX12_oneWeek_45 (by decide) ?_
        refine zW.sub [2, 1, 0] rfl ?_
        exact ih ((v1 + r_3) + 0) (v2 + 1) g3 hf
      · replace hf := zif_pos h5 hf
        refine z_aload_n hX dX12_oneWeek_31 1 rfl ?_
        refine z_iload_n hX dX12_oneWeek_32 2 rfl ?_
        replace hf := zb2_some hf
        obtain ⟨r_6, g6, h6, hf⟩ := hf
        refine z_callV1 hX ok_X12_grows q1920 q1922 q87 (zrm_ok hR (by decide)) (ct_X12_grows  h6) (zrec_Model hX zq_493) dX12_oneWeek_33 rfl rfl ?_
        refine z_goto hX 40 dX12_oneWeek_36 (by decide) ?_
        refine z_iadd hX dX12_oneWeek_40 ?_
        refine z_istore_n (lv' := [(1, .int ((v1 + r_3) + r_6)), (0, .ref (zB X + 493)), (2, .int v2)]) hX dX12_oneWeek_41 hn (by decide) rfl ?_
        refine z_iincc (lv' := [(2, .int (v2 + 1)), (1, .int ((v1 + r_3) + r_6)), (0, .ref (zB X + 493))]) hX dX12_oneWeek_42 hn (by decide) 2 rfl ci_1 rfl ?_
        refine z_goto hX 4 dX12_oneWeek_45 (by decide) ?_
        refine zW.sub [2, 1, 0] rfl ?_
        exact ih ((v1 + r_3) + r_6) (v2 + 1) g6 hf
set_option maxHeartbeats 4000000 in
set_option maxRecDepth 100000 in
theorem fX12_oneWeek_ok {X : zX} (hX : zCX X cX12_oneWeek RX12) (hT : zNT X) (hR : X.2.2.2.1 = zrm 6 0) (hr : X.2.2.2.2.2.2.2.2.1.sig.returnType = (some .int)) (hn : X.2.2.2.2.2.2.2.2.2.1.maxLocals = 3)  {g : zM} {r : Int32 × zM} (hf : fX12_oneWeek g = some r) : zW X (zQ X (.inl (some (.int r.1), r.2)) 0) 0 0 0 [(0, .ref (zB X + 493))] [] g := by
  unfold fX12_oneWeek at hf
  refine z_iconst hX dX12_oneWeek_0 ci_0 ?_
  refine z_istore_n (lv' := [(1, .int 0), (0, .ref (zB X + 493))]) hX dX12_oneWeek_1 hn (by decide) rfl ?_
  refine z_iconst hX dX12_oneWeek_2 ci_0 ?_
  refine z_istore_n (lv' := [(2, .int 0), (1, .int 0), (0, .ref (zB X + 493))]) hX dX12_oneWeek_3 hn (by decide) rfl ?_
  refine zW.sub [2, 1, 0] rfl ?_
  refine fX12_oneWeek_L4_ok hX hT hR hr hn (fun v1_7 g7 hf => ?_) zFU 0 0 g hf
  · refine z_aload_n hX dX12_oneWeek_48 0 rfl ?_
    refine gf_Model_world hX zq_493 q1495 dX12_oneWeek_49 ?_
    refine z_bipush hX dX12_oneWeek_52 cb_6 ?_
    refine z_dup2 hX dX12_oneWeek_54 rfl rfl ?_
    replace hf := zchk_some hf
    obtain ⟨h8, hf⟩ := hf
    refine z_iald hX zq_494 (by decide) (zc_3158 _ _ _) h8 dX12_oneWeek_55 ?_
    refine z_iload_n hX dX12_oneWeek_56 1 rfl ?_
    refine z_iadd hX dX12_oneWeek_57 ?_
    replace hf := zchk_some hf
    obtain ⟨h9, hf⟩ := hf
    replace hf := zput_some hf
    obtain ⟨g10, eg10, hf⟩ := hf
    refine z_iast hX zq_494 (by decide) (zc_3158 _ _) h9 dX12_oneWeek_58 (zW.eqg eg10 ?_)
    refine z_aload_n hX dX12_oneWeek_59 0 rfl ?_
    refine gf_Model_world hX zq_493 q1495 dX12_oneWeek_60 ?_
    refine z_iconst hX dX12_oneWeek_63 ci_4 ?_
    refine z_sipush hX dX12_oneWeek_64 cs_9999 ?_
    refine z_aload_n hX dX12_oneWeek_67 0 rfl ?_
    refine gf_Model_world hX zq_493 q1495 dX12_oneWeek_68 ?_
    refine z_iconst hX dX12_oneWeek_71 ci_4 ?_
    replace hf := zchk_some hf
    obtain ⟨h11, hf⟩ := hf
    refine z_iald hX zq_494 (by decide) (zc_3158 _ _ _) h11 dX12_oneWeek_72 ?_
    refine z_iconst hX dX12_oneWeek_73 ci_1 ?_
    refine z_iadd hX dX12_oneWeek_74 ?_
    refine z_min hX hR ⟨zl rfl, zl rfl⟩ q1929 dX12_oneWeek_75 (zl rfl) ?_
    replace hf := zchk_some hf
    obtain ⟨h12, hf⟩ := hf
    replace hf := zput_some hf
    obtain ⟨g13, eg13, hf⟩ := hf
    refine z_iast hX zq_494 (by decide) (zc_3158 _ _) h12 dX12_oneWeek_78 (zW.eqg eg13 ?_)
    refine z_iload_n hX dX12_oneWeek_79 1 rfl ?_
    obtain rfl := Option.some.inj hf
    exact z_iret hX hr rfl (zl rfl) (zl rfl) dX12_oneWeek_80
set_option maxHeartbeats 4000000 in
set_option maxRecDepth 100000 in
theorem ct_X12_oneWeek {E : zE} {g : zM} {r : Int32 × zM} (hf : fX12_oneWeek g = some r) : zCt yX12_oneWeek cX12_oneWeek 3 (some .int) 6 0 E [.ref (E.1 + 493)] g (.inl (some (.int r.1), r.2)) := by
  refine zmet (by decide) (zl rfl) (fun X hE hX hT hR hr hn => ?_)
  subst hE
  exact fX12_oneWeek_ok hX hT hR hr hn  hf
def fX12_weeks_L38 (v1 : Int32) : Nat → Int32 → Int32 → zM → Option (Int32 × zM)
  | 0, _, _, _ => none
  | n + 1, v2, v3, g => if v1 ≤ v3 then some (v2, g) else zb2 (fX12_oneWeek g) (fun r_8 g8 => fX12_weeks_L38 v1 n (v2 + r_8) (v3 + 1) g8)
def fX12_weeks (v1 : Int32) (g : zM) : Option (Int32 × zM) := zput g 493 0 0 (fun g1 => zb (fX12_in v1 1 60 g1) (fun r_2 => zjoin (fun t0_3 => zb2 (fX12_throwsIf t0_3 1 g1) (fun r_4 g4 => if r_4 = 0 then zb (fX12_remembers g4) (fun g6 => fX12_weeks_L38 v1 zFU 0 0 g6) else some (0, g4)) : Int32 → Option (Int32 × zM)) (fun k21 => if r_2 = 0 then k21 1 else k21 0)))
set_option maxHeartbeats 4000000 in
set_option maxRecDepth 100000 in
theorem fX12_weeks_L38_ok {X : zX} (hX : zCX X cX12_weeks RX12) (hT : zNT X) (hR : X.2.2.2.1 = zrm 7 0) (hr : X.2.2.2.2.2.2.2.2.1.sig.returnType = (some .int)) (hn : X.2.2.2.2.2.2.2.2.2.1.maxLocals = 4) {v1 : Int32} {r : Int32 × zM}  : ∀ (n : Nat) (v2 : Int32) (v3 : Int32) (g : zM), fX12_weeks_L38 v1 n v2 v3 g = some r → zW X (zQ X (.inl (some (.int r.1), r.2)) 0) 0 0 38 [(0, .ref (zB X + 493)), (1, .int v1), (2, .int v2), (3, .int v3)] [] g := by
  intro n
  induction n with
  | zero => intro v2 v3 g hf; exact zno hf
  | succ n ih =>
    intro v2 v3 g hf
    rw [fX12_weeks_L38] at hf
    refine z_iload_n hX dX12_weeks_38 3 rfl ?_
    refine z_iload_n hX dX12_weeks_39 1 rfl ?_
    refine z_icmp_ge hX 56 dX12_weeks_40 (by decide) (fun h7 => ?_) (fun h7 => ?_)
    · replace hf := zif_pos h7 hf
      refine z_iload_n hX dX12_weeks_56 2 rfl ?_
      obtain rfl := Option.some.inj hf
      exact z_iret hX hr rfl (zl rfl) (zl rfl) dX12_weeks_57
    · replace hf := zif_neg h7 hf
      refine z_iload_n hX dX12_weeks_43 2 rfl ?_
      refine z_aload_n hX dX12_weeks_44 0 rfl ?_
      replace hf := zb2_some hf
      obtain ⟨r_8, g8, h8, hf⟩ := hf
      refine z_callV1 hX ok_X12_oneWeek q1916 q1918 q86 (zrm_ok hR (by decide)) (ct_X12_oneWeek  h8) (zrec_Model hX zq_493) dX12_weeks_45 rfl rfl ?_
      refine z_iadd hX dX12_weeks_48 ?_
      refine z_istore_n (lv' := [(2, .int (v2 + r_8)), (0, .ref (zB X + 493)), (1, .int v1), (3, .int v3)]) hX dX12_weeks_49 hn (by decide) rfl ?_
      refine z_iincc (lv' := [(3, .int (v3 + 1)), (2, .int (v2 + r_8)), (0, .ref (zB X + 493)), (1, .int v1)]) hX dX12_weeks_50 hn (by decide) 3 rfl ci_1 rfl ?_
      refine z_goto hX 38 dX12_weeks_53 (by decide) ?_
      refine zW.sub [2, 3, 1, 0] rfl ?_
      exact ih (v2 + r_8) (v3 + 1) g8 hf
set_option maxHeartbeats 4000000 in
set_option maxRecDepth 100000 in
theorem fX12_weeks_ok {X : zX} (hX : zCX X cX12_weeks RX12) (hT : zNT X) (hR : X.2.2.2.1 = zrm 7 0) (hr : X.2.2.2.2.2.2.2.2.1.sig.returnType = (some .int)) (hn : X.2.2.2.2.2.2.2.2.2.1.maxLocals = 4) {v1 : Int32} {g : zM} {r : Int32 × zM} (hf : fX12_weeks v1 g = some r) : zW X (zQ X (.inl (some (.int r.1), r.2)) 0) 0 0 0 [(0, .ref (zB X + 493)), (1, .int v1)] [] g := by
  unfold fX12_weeks at hf
  refine z_aload_n hX dX12_weeks_0 0 rfl ?_
  refine z_iconst hX dX12_weeks_1 ci_0 ?_
  replace hf := zput_some hf
  obtain ⟨g1, eg1, hf⟩ := hf
  refine gp_Model_thrown hX zq_493 q1494 dX12_weeks_2 (zW.eqg eg1 ?_)
  refine z_aload_n hX dX12_weeks_5 0 rfl ?_
  refine z_iload_n hX dX12_weeks_6 1 rfl ?_
  refine z_iconst hX dX12_weeks_7 ci_1 ?_
  refine z_bipush hX dX12_weeks_8 cb_60 ?_
  replace hf := zb_some hf
  obtain ⟨r_2, h2, hf⟩ := hf
  refine z_callS1 hX ok_X12_in rfl q1666 q1667 (zrm_ok hR (by decide)) (ct_X12_in  h2) dX12_weeks_10 rfl rfl ?_
  refine zjoin_ok (P := fun (k : Int32 → Option (Int32 × zM)) => ∀ (t0_3 : Int32), k t0_3 = some r → zW X (zQ X (.inl (some (.int r.1), r.2)) 0) 0 0 21 [(0, .ref (zB X + 493)), (1, .int v1)] [.int t0_3, .ref (zB X + 493)] g1) hf (fun t0_3 hf => ?_) (fun k21 hk21 hf => ?_)
  · refine z_iconst hX dX12_weeks_21 ci_1 ?_
    replace hf := zb2_some hf
    obtain ⟨r_4, g4, h4, hf⟩ := hf
    refine z_callV1 hX ok_X12_throwsIf q1775 q1777 q67 (zrm_ok hR (by decide)) (ct_X12_throwsIf  h4) (zrec_Model hX zq_493) dX12_weeks_22 rfl rfl ?_
    refine z_if_eq hX 30 dX12_weeks_25 (by decide) (fun h5 => ?_) (fun h5 => ?_)
    · replace hf := zif_pos h5 hf
      refine z_aload_n hX dX12_weeks_30 0 rfl ?_
      replace hf := zb_some hf
      obtain ⟨g6, h6, hf⟩ := hf
      refine z_callV0 hX ok_X12_remembers q1880 q1882 q84 (zrm_ok hR (by decide)) (ct_X12_remembers  h6) (zrec_Model hX zq_493) dX12_weeks_31 rfl rfl ?_
      refine z_iconst hX dX12_weeks_34 ci_0 ?_
      refine z_istore_n (lv' := [(2, .int 0), (0, .ref (zB X + 493)), (1, .int v1)]) hX dX12_weeks_35 hn (by decide) rfl ?_
      refine z_iconst hX dX12_weeks_36 ci_0 ?_
      refine z_istore_n (lv' := [(3, .int 0), (2, .int 0), (0, .ref (zB X + 493)), (1, .int v1)]) hX dX12_weeks_37 hn (by decide) rfl ?_
      refine zW.sub [2, 3, 1, 0] rfl ?_
      exact fX12_weeks_L38_ok hX hT hR hr hn  zFU 0 0 g6 hf
    · replace hf := zif_neg h5 hf
      refine z_iconst hX dX12_weeks_28 ci_0 ?_
      obtain rfl := Option.some.inj hf
      exact z_iret hX hr rfl (zl rfl) (zl rfl) dX12_weeks_29
  · refine z_if_ne hX 20 dX12_weeks_13 (by decide) (fun h9 => ?_) (fun h9 => ?_)
    · replace hf := zif_neg h9 hf
      refine z_iconst hX dX12_weeks_20 ci_0 ?_
      exact hk21 0 hf
    · replace hf := zif_pos h9 hf
      refine z_iconst hX dX12_weeks_16 ci_1 ?_
      refine z_goto hX 21 dX12_weeks_17 (by decide) ?_
      exact hk21 1 hf
set_option maxHeartbeats 4000000 in
set_option maxRecDepth 100000 in
theorem ct_X12_weeks {E : zE} {v1 : Int32} {g : zM} {r : Int32 × zM} (hf : fX12_weeks v1 g = some r) : zCt yX12_weeks cX12_weeks 4 (some .int) 7 0 E [.ref (E.1 + 493), .int v1] g (.inl (some (.int r.1), r.2)) := by
  refine zmet (by decide) (zl rfl) (fun X hE hX hT hR hr hn => ?_)
  subst hE
  exact fX12_weeks_ok hX hT hR hr hn  hf
def fX12_ahead (v1 : Int32) (v2 : Int32) (v3 : Int32) (g : zM) : Option (Int32 × zM) := zput g 493 0 0 (fun g1 => zb (fX12_noLetter v1 g1) (fun r_2 => zb2 (fX12_throwsIf r_2 1 g1) (fun r_3 g3 => if r_3 = 0 then zb (fX12_noAhead v2 g3) (fun r_5 => zb2 (fX12_throwsIf r_5 2 g3) (fun r_6 g6 => if r_6 = 0 then zb (fX12_in v3 0 2 g6) (fun r_8 => zjoin (fun t0_9 => zb2 (fX12_throwsIf t0_9 3 g6) (fun r_10 g10 => if r_10 = 0 then zb (fX12_looksAhead v1 v2 g10) (fun g12 => if v3 = 0 then zb (fX12_last g12) (fun r_16 => some (r_16, g12)) else if v3 = 1 then some (g12 493 19, g12) else zb (fX12_wordsNow g12) (fun r_15 => some (r_15, g12))) else some (0, g10)) : Int32 → Option (Int32 × zM)) (fun k45 => if r_8 = 0 then k45 1 else k45 0)) else some (0, g6))) else some (0, g3))))
set_option maxHeartbeats 4000000 in
set_option maxRecDepth 100000 in
theorem fX12_ahead_ok {X : zX} (hX : zCX X cX12_ahead RX12) (hT : zNT X) (hR : X.2.2.2.1 = zrm 9 0) (hr : X.2.2.2.2.2.2.2.2.1.sig.returnType = (some .int)) (hn : X.2.2.2.2.2.2.2.2.2.1.maxLocals = 4) {v1 : Int32} {v2 : Int32} {v3 : Int32} {g : zM} {r : Int32 × zM} (hf : fX12_ahead v1 v2 v3 g = some r) : zW X (zQ X (.inl (some (.int r.1), r.2)) 0) 0 0 0 [(0, .ref (zB X + 493)), (1, .int v1), (2, .int v2), (3, .int v3)] [] g := by
  unfold fX12_ahead at hf
  refine z_aload_n hX dX12_ahead_0 0 rfl ?_
  refine z_iconst hX dX12_ahead_1 ci_0 ?_
  replace hf := zput_some hf
  obtain ⟨g1, eg1, hf⟩ := hf
  refine gp_Model_thrown hX zq_493 q1494 dX12_ahead_2 (zW.eqg eg1 ?_)
  refine z_aload_n hX dX12_ahead_5 0 rfl ?_
  refine z_aload_n hX dX12_ahead_6 0 rfl ?_
  refine z_iload_n hX dX12_ahead_7 1 rfl ?_
  replace hf := zb_some hf
  obtain ⟨r_2, h2, hf⟩ := hf
  refine z_callV1 hX ok_X12_noLetter q1787 q1789 q68 (zrm_ok hR (by decide)) (ct_X12_noLetter  h2) (zrec_Model hX zq_493) dX12_ahead_8 rfl rfl ?_
  refine z_iconst hX dX12_ahead_11 ci_1 ?_
  replace hf := zb2_some hf
  obtain ⟨r_3, g3, h3, hf⟩ := hf
  refine z_callV1 hX ok_X12_throwsIf q1775 q1777 q67 (zrm_ok hR (by decide)) (ct_X12_throwsIf  h3) (zrec_Model hX zq_493) dX12_ahead_12 rfl rfl ?_
  refine z_if_ne hX 52 dX12_ahead_15 (by decide) (fun h4 => ?_) (fun h4 => ?_)
  · replace hf := zif_neg h4 hf
    refine z_iconst hX dX12_ahead_52 ci_0 ?_
    obtain rfl := Option.some.inj hf
    exact z_iret hX hr rfl (zl rfl) (zl rfl) dX12_ahead_53
  · replace hf := zif_pos h4 hf
    refine z_aload_n hX dX12_ahead_18 0 rfl ?_
    refine z_iload_n hX dX12_ahead_19 2 rfl ?_
    replace hf := zb_some hf
    obtain ⟨r_5, h5, hf⟩ := hf
    refine z_callS1 hX ok_X12_noAhead rfl q1934 q1935 (zrm_ok hR (by decide)) (ct_X12_noAhead  h5) dX12_ahead_20 rfl rfl ?_
    refine z_iconst hX dX12_ahead_23 ci_2 ?_
    replace hf := zb2_some hf
    obtain ⟨r_6, g6, h6, hf⟩ := hf
    refine z_callV1 hX ok_X12_throwsIf q1775 q1777 q67 (zrm_ok hR (by decide)) (ct_X12_throwsIf  h6) (zrec_Model hX zq_493) dX12_ahead_24 rfl rfl ?_
    refine z_if_ne hX 52 dX12_ahead_27 (by decide) (fun h7 => ?_) (fun h7 => ?_)
    · replace hf := zif_neg h7 hf
      refine z_iconst hX dX12_ahead_52 ci_0 ?_
      obtain rfl := Option.some.inj hf
      exact z_iret hX hr rfl (zl rfl) (zl rfl) dX12_ahead_53
    · replace hf := zif_pos h7 hf
      refine z_aload_n hX dX12_ahead_30 0 rfl ?_
      refine z_iload_n hX dX12_ahead_31 3 rfl ?_
      refine z_iconst hX dX12_ahead_32 ci_0 ?_
      refine z_iconst hX dX12_ahead_33 ci_2 ?_
      replace hf := zb_some hf
      obtain ⟨r_8, h8, hf⟩ := hf
      refine z_callS1 hX ok_X12_in rfl q1666 q1667 (zrm_ok hR (by decide)) (ct_X12_in  h8) dX12_ahead_34 rfl rfl ?_
      refine zjoin_ok (P := fun (k : Int32 → Option (Int32 × zM)) => ∀ (t0_9 : Int32), k t0_9 = some r → zW X (zQ X (.inl (some (.int r.1), r.2)) 0) 0 0 45 [(0, .ref (zB X + 493)), (1, .int v1), (2, .int v2), (3, .int v3)] [.int t0_9, .ref (zB X + 493)] g6) hf (fun t0_9 hf => ?_) (fun k45 hk45 hf => ?_)
      · refine z_iconst hX dX12_ahead_45 ci_3 ?_
        replace hf := zb2_some hf
        obtain ⟨r_10, g10, h10, hf⟩ := hf
        refine z_callV1 hX ok_X12_throwsIf q1775 q1777 q67 (zrm_ok hR (by decide)) (ct_X12_throwsIf  h10) (zrec_Model hX zq_493) dX12_ahead_46 rfl rfl ?_
        refine z_if_eq hX 54 dX12_ahead_49 (by decide) (fun h11 => ?_) (fun h11 => ?_)
        · replace hf := zif_pos h11 hf
          refine z_aload_n hX dX12_ahead_54 0 rfl ?_
          refine z_iload_n hX dX12_ahead_55 1 rfl ?_
          refine z_iload_n hX dX12_ahead_56 2 rfl ?_
          replace hf := zb_some hf
          obtain ⟨g12, h12, hf⟩ := hf
          refine z_callV0 hX ok_X12_looksAhead q1937 q1939 q89 (zrm_ok hR (by decide)) (ct_X12_looksAhead  h12) (zrec_Model hX zq_493) dX12_ahead_57 rfl rfl ?_
          refine z_iload_n hX dX12_ahead_60 3 rfl ?_
          refine z_if_ne hX 71 dX12_ahead_61 (by decide) (fun h13 => ?_) (fun h13 => ?_)
          · replace hf := zif_neg h13 hf
            refine z_iload_n hX dX12_ahead_71 3 rfl ?_
            refine z_iconst hX dX12_ahead_72 ci_1 ?_
            refine z_icmp_ne hX 83 dX12_ahead_73 (by decide) (fun h14 => ?_) (fun h14 => ?_)
            · replace hf := zif_neg h14 hf
              refine z_aload_n hX dX12_ahead_83 0 rfl ?_
              replace hf := zb_some hf
              obtain ⟨r_15, h15, hf⟩ := hf
              refine z_callV1 hX ok_X12_wordsNow q1803 q1805 q72 (zrm_ok hR (by decide)) (ct_X12_wordsNow  h15) (zrec_Model hX zq_493) dX12_ahead_84 rfl rfl ?_
              obtain rfl := Option.some.inj hf
              exact z_iret hX hr rfl (zl rfl) (zl rfl) dX12_ahead_87
            · replace hf := zif_pos h14 hf
              refine z_aload_n hX dX12_ahead_76 0 rfl ?_
              refine gf_Model_many hX zq_493 q1513 dX12_ahead_77 ?_
              refine z_goto hX 87 dX12_ahead_80 (by decide) ?_
              obtain rfl := Option.some.inj hf
              exact z_iret hX hr rfl (zl rfl) (zl rfl) dX12_ahead_87
          · replace hf := zif_pos h13 hf
            refine z_aload_n hX dX12_ahead_64 0 rfl ?_
            replace hf := zb_some hf
            obtain ⟨r_16, h16, hf⟩ := hf
            refine z_callV1 hX ok_X12_last q1807 q1809 q73 (zrm_ok hR (by decide)) (ct_X12_last  h16) (zrec_Model hX zq_493) dX12_ahead_65 rfl rfl ?_
            refine z_goto hX 87 dX12_ahead_68 (by decide) ?_
            obtain rfl := Option.some.inj hf
            exact z_iret hX hr rfl (zl rfl) (zl rfl) dX12_ahead_87
        · replace hf := zif_neg h11 hf
          refine z_iconst hX dX12_ahead_52 ci_0 ?_
          obtain rfl := Option.some.inj hf
          exact z_iret hX hr rfl (zl rfl) (zl rfl) dX12_ahead_53
      · refine z_if_ne hX 44 dX12_ahead_37 (by decide) (fun h17 => ?_) (fun h17 => ?_)
        · replace hf := zif_neg h17 hf
          refine z_iconst hX dX12_ahead_44 ci_0 ?_
          exact hk45 0 hf
        · replace hf := zif_pos h17 hf
          refine z_iconst hX dX12_ahead_40 ci_1 ?_
          refine z_goto hX 45 dX12_ahead_41 (by decide) ?_
          exact hk45 1 hf
set_option maxHeartbeats 4000000 in
set_option maxRecDepth 100000 in
theorem ct_X12_ahead {E : zE} {v1 : Int32} {v2 : Int32} {v3 : Int32} {g : zM} {r : Int32 × zM} (hf : fX12_ahead v1 v2 v3 g = some r) : zCt yX12_ahead cX12_ahead 4 (some .int) 9 0 E [.ref (E.1 + 493), .int v1, .int v2, .int v3] g (.inl (some (.int r.1), r.2)) := by
  refine zmet (by decide) (zl rfl) (fun X hE hX hT hR hr hn => ?_)
  subst hE
  exact fX12_ahead_ok hX hT hR hr hn  hf
def fX12_holdsKind_L4 (v1 : Int32) (g : zM) : Nat → Int32 → Int32 → Option Int32
  | 0, _, _ => none
  | n + 1, v2, v3 => if (g 493 19) ≤ v3 then zbo v2 (some v2) else if v2 = 0 then zchk v3 24 (if (g 502 v3.toNatClampNeg) = v1 then fX12_holdsKind_L4 v1 g n 1 (v3 + 1) else fX12_holdsKind_L4 v1 g n 0 (v3 + 1)) else fX12_holdsKind_L4 v1 g n 1 (v3 + 1)
def fX12_holdsKind (v1 : Int32) (g : zM) : Option Int32 := fX12_holdsKind_L4 v1 g zFU 0 0
set_option maxHeartbeats 4000000 in
set_option maxRecDepth 100000 in
theorem fX12_holdsKind_L4_ok {X : zX} (hX : zCX X cX12_holdsKind RX12) (hT : zNT X) (hR : X.2.2.2.1 = zrm 0 0) (hr : X.2.2.2.2.2.2.2.2.1.sig.returnType = (some .boolean)) (hn : X.2.2.2.2.2.2.2.2.2.1.maxLocals = 4) {v1 : Int32} {g : zM} {r : Int32}  : ∀ (n : Nat) (v2 : Int32) (v3 : Int32), fX12_holdsKind_L4 v1 g n v2 v3 = some r → zW X (zQ X (.inl (some (.int r), g)) 0) 0 0 4 [(0, .ref (zB X + 493)), (1, .int v1), (2, .int v2), (3, .int v3)] [] g := by
  intro n
  induction n with
  | zero => intro v2 v3 hf; exact zno hf
  | succ n ih =>
    intro v2 v3 hf
    rw [fX12_holdsKind_L4] at hf
    refine z_iload_n hX dX12_holdsKind_4 3 rfl ?_
    refine z_aload_n hX dX12_holdsKind_5 0 rfl ?_
    refine gf_Model_many hX zq_493 q1513 dX12_holdsKind_6 ?_
    refine z_icmp_ge hX 38 dX12_holdsKind_9 (by decide) (fun h1 => ?_) (fun h1 => ?_)
    · replace hf := zif_pos h1 hf
      refine z_iload_n hX dX12_holdsKind_38 2 rfl ?_
      replace hf := zbo_some hf
      obtain ⟨h2, hf⟩ := hf
      obtain rfl := Option.some.inj hf
      exact z_iret hX hr (zbn h2) (zl rfl) (zl rfl) dX12_holdsKind_39
    · replace hf := zif_neg h1 hf
      refine z_iload_n hX dX12_holdsKind_12 2 rfl ?_
      refine z_if_ne hX 26 dX12_holdsKind_13 (by decide) (fun h3 => ?_) (fun h3 => ?_)
      · replace hf := zif_neg h3 hf
        refine z_iconst hX dX12_holdsKind_26 ci_1 ?_
        refine z_goto hX 31 dX12_holdsKind_27 (by decide) ?_
        refine z_istore_n (lv' := [(2, .int 1), (0, .ref (zB X + 493)), (1, .int v1), (3, .int v3)]) hX dX12_holdsKind_31 hn (by decide) rfl ?_
        refine z_iincc (lv' := [(3, .int (v3 + 1)), (2, .int 1), (0, .ref (zB X + 493)), (1, .int v1)]) hX dX12_holdsKind_32 hn (by decide) 3 rfl ci_1 rfl ?_
        refine z_goto hX 4 dX12_holdsKind_35 (by decide) ?_
        refine zW.sub [2, 3, 1, 0] rfl ?_
        exact ih 1 (v3 + 1) hf
      · replace hf := zif_pos h3 hf
        refine z_aload_n hX dX12_holdsKind_16 0 rfl ?_
        refine gf_Model_row hX zq_493 q1512 dX12_holdsKind_17 ?_
        refine z_iload_n hX dX12_holdsKind_20 3 rfl ?_
        replace hf := zchk_some hf
        obtain ⟨h4, hf⟩ := hf
        refine z_iald hX zq_502 (by decide) (zc_1024 _ _ _) h4 dX12_holdsKind_21 ?_
        refine z_iload_n hX dX12_holdsKind_22 1 rfl ?_
        refine z_icmp_ne hX 30 dX12_holdsKind_23 (by decide) (fun h5 => ?_) (fun h5 => ?_)
        · replace hf := zif_neg h5 hf
          refine z_iconst hX dX12_holdsKind_30 ci_0 ?_
          refine z_istore_n (lv' := [(2, .int 0), (0, .ref (zB X + 493)), (1, .int v1), (3, .int v3)]) hX dX12_holdsKind_31 hn (by decide) rfl ?_
          refine z_iincc (lv' := [(3, .int (v3 + 1)), (2, .int 0), (0, .ref (zB X + 493)), (1, .int v1)]) hX dX12_holdsKind_32 hn (by decide) 3 rfl ci_1 rfl ?_
          refine z_goto hX 4 dX12_holdsKind_35 (by decide) ?_
          refine zW.sub [2, 3, 1, 0] rfl ?_
          exact ih 0 (v3 + 1) hf
        · replace hf := zif_pos h5 hf
          refine z_iconst hX dX12_holdsKind_26 ci_1 ?_
          refine z_goto hX 31 dX12_holdsKind_27 (by decide) ?_
          refine z_istore_n (lv' := [(2, .int 1), (0, .ref (zB X + 493)), (1, .int v1), (3, .int v3)]) hX dX12_holdsKind_31 hn (by decide) rfl ?_
          refine z_iincc (lv' := [(3, .int (v3 + 1)), (2, .int 1), (0, .ref (zB X + 493)), (1, .int v1)]) hX dX12_holdsKind_32 hn (by decide) 3 rfl ci_1 rfl ?_
          refine z_goto hX 4 dX12_holdsKind_35 (by decide) ?_
          refine zW.sub [2, 3, 1, 0] rfl ?_
          exact ih 1 (v3 + 1) hf
set_option maxHeartbeats 4000000 in
set_option maxRecDepth 100000 in
theorem fX12_holdsKind_ok {X : zX} (hX : zCX X cX12_holdsKind RX12) (hT : zNT X) (hR : X.2.2.2.1 = zrm 0 0) (hr : X.2.2.2.2.2.2.2.2.1.sig.returnType = (some .boolean)) (hn : X.2.2.2.2.2.2.2.2.2.1.maxLocals = 4) {v1 : Int32} {g : zM} {r : Int32} (hf : fX12_holdsKind v1 g = some r) : zW X (zQ X (.inl (some (.int r), g)) 0) 0 0 0 [(0, .ref (zB X + 493)), (1, .int v1)] [] g := by
  unfold fX12_holdsKind at hf
  refine z_iconst hX dX12_holdsKind_0 ci_0 ?_
  refine z_istore_n (lv' := [(2, .int 0), (0, .ref (zB X + 493)), (1, .int v1)]) hX dX12_holdsKind_1 hn (by decide) rfl ?_
  refine z_iconst hX dX12_holdsKind_2 ci_0 ?_
  refine z_istore_n (lv' := [(3, .int 0), (2, .int 0), (0, .ref (zB X + 493)), (1, .int v1)]) hX dX12_holdsKind_3 hn (by decide) rfl ?_
  refine zW.sub [2, 3, 1, 0] rfl ?_
  exact fX12_holdsKind_L4_ok hX hT hR hr hn  zFU 0 0 hf
set_option maxHeartbeats 4000000 in
set_option maxRecDepth 100000 in
theorem ct_X12_holdsKind {E : zE} {v1 : Int32} {g : zM} {r : Int32} (hf : fX12_holdsKind v1 g = some r) : zCt yX12_holdsKind cX12_holdsKind 4 (some .boolean) 0 0 E [.ref (E.1 + 493), .int v1] g (.inl (some (.int r), g)) := by
  refine zmet (by decide) (zl rfl) (fun X hE hX hT hR hr hn => ?_)
  subst hE
  exact fX12_holdsKind_ok hX hT hR hr hn  hf
def fX12_saysBy_L8 (v2 : Int32) (v3 : Int32) : Nat → Int32 → zM → Option (Int32 × zM)
  | 0, _, _ => none
  | n + 1, v4, g => if 40 < v4 then some ((-1), g) else if v3 = 0 then zb (fX12_last g) (fun r_4 => if r_4 = v2 then some (v4, g) else zb (fX12_goesOn g) (fun g6 => fX12_saysBy_L8 v2 v3 n (v4 + 1) g6)) else zb (fX12_holdsKind v2 g) (fun r_7 => if r_7 = 0 then zb (fX12_goesOn g) (fun g9 => fX12_saysBy_L8 v2 v3 n (v4 + 1) g9) else some (v4, g))
def fX12_saysBy (v1 : Int32) (v2 : Int32) (v3 : Int32) (g : zM) : Option (Int32 × zM) := zb (fX12_looksAt v1 g) (fun g1 => fX12_saysBy_L8 v2 v3 zFU 0 g1)
set_option maxHeartbeats 4000000 in
set_option maxRecDepth 100000 in
theorem fX12_saysBy_L8_ok {X : zX} (hX : zCX X cX12_saysBy RX12) (hT : zNT X) (hR : X.2.2.2.1 = zrm 7 0) (hr : X.2.2.2.2.2.2.2.2.1.sig.returnType = (some .int)) (hn : X.2.2.2.2.2.2.2.2.2.1.maxLocals = 5) {v2 : Int32} {v3 : Int32} {r : Int32 × zM}  : ∀ (n : Nat) (v4 : Int32) (g : zM), fX12_saysBy_L8 v2 v3 n v4 g = some r → zW X (zQ X (.inl (some (.int r.1), r.2)) 0) 0 0 8 [(0, .ref (zB X + 493)), (2, .int v2), (3, .int v3), (4, .int v4)] [] g := by
  intro n
  induction n with
  | zero => intro v4 g hf; exact zno hf
  | succ n ih =>
    intro v4 g hf
    rw [fX12_saysBy_L8] at hf
    refine z_iload hX dX12_saysBy_8 3 rfl ?_
    refine z_bipush hX dX12_saysBy_10 cb_40 ?_
    refine z_icmp_gt hX 51 dX12_saysBy_12 (by decide) (fun h2 => ?_) (fun h2 => ?_)
    · replace hf := zif_pos h2 hf
      refine z_iconst hX dX12_saysBy_51 ci_m1 ?_
      obtain rfl := Option.some.inj hf
      exact z_iret hX hr rfl (zl rfl) (zl rfl) dX12_saysBy_52
    · replace hf := zif_neg h2 hf
      refine z_iload_n hX dX12_saysBy_15 2 rfl ?_
      refine z_if_eq hX 30 dX12_saysBy_16 (by decide) (fun h3 => ?_) (fun h3 => ?_)
      · replace hf := zif_pos h3 hf
        refine z_aload_n hX dX12_saysBy_30 0 rfl ?_
        replace hf := zb_some hf
        obtain ⟨r_4, h4, hf⟩ := hf
        refine z_callV1 hX ok_X12_last q1807 q1809 q73 (zrm_ok hR (by decide)) (ct_X12_last  h4) (zrec_Model hX zq_493) dX12_saysBy_31 rfl rfl ?_
        refine z_iload_n hX dX12_saysBy_34 1 rfl ?_
        refine z_icmp_ne hX 41 dX12_saysBy_35 (by decide) (fun h5 => ?_) (fun h5 => ?_)
        · replace hf := zif_neg h5 hf
          refine z_aload_n hX dX12_saysBy_41 0 rfl ?_
          replace hf := zb_some hf
          obtain ⟨g6, h6, hf⟩ := hf
          refine z_callV0 hX ok_X12_goesOn q1945 q1947 q91 (zrm_ok hR (by decide)) (ct_X12_goesOn  h6) (zrec_Model hX zq_493) dX12_saysBy_42 rfl rfl ?_
          refine z_iincc (lv' := [(4, .int (v4 + 1)), (0, .ref (zB X + 493)), (2, .int v2), (3, .int v3)]) hX dX12_saysBy_45 hn (by decide) 3 rfl ci_1 rfl ?_
          refine z_goto hX 8 dX12_saysBy_48 (by decide) ?_
          refine zW.sub [1, 2, 3, 0] rfl ?_
          exact ih (v4 + 1) g6 hf
        · replace hf := zif_pos h5 hf
          refine z_iload hX dX12_saysBy_38 3 rfl ?_
          obtain rfl := Option.some.inj hf
          exact z_iret hX hr rfl (zl rfl) (zl rfl) dX12_saysBy_40
      · replace hf := zif_neg h3 hf
        refine z_aload_n hX dX12_saysBy_19 0 rfl ?_
        refine z_iload_n hX dX12_saysBy_20 1 rfl ?_
        replace hf := zb_some hf
        obtain ⟨r_7, h7, hf⟩ := hf
        refine z_callV1 hX ok_X12_holdsKind q1961 q1963 q94 (zrm_ok hR (by decide)) (ct_X12_holdsKind  h7) (zrec_Model hX zq_493) dX12_saysBy_21 rfl rfl ?_
        refine z_if_eq hX 41 dX12_saysBy_24 (by decide) (fun h8 => ?_) (fun h8 => ?_)
        · replace hf := zif_pos h8 hf
          refine z_aload_n hX dX12_saysBy_41 0 rfl ?_
          replace hf := zb_some hf
          obtain ⟨g9, h9, hf⟩ := hf
          refine z_callV0 hX ok_X12_goesOn q1945 q1947 q91 (zrm_ok hR (by decide)) (ct_X12_goesOn  h9) (zrec_Model hX zq_493) dX12_saysBy_42 rfl rfl ?_
          refine z_iincc (lv' := [(4, .int (v4 + 1)), (0, .ref (zB X + 493)), (2, .int v2), (3, .int v3)]) hX dX12_saysBy_45 hn (by decide) 3 rfl ci_1 rfl ?_
          refine z_goto hX 8 dX12_saysBy_48 (by decide) ?_
          refine zW.sub [1, 2, 3, 0] rfl ?_
          exact ih (v4 + 1) g9 hf
        · replace hf := zif_neg h8 hf
          refine z_goto hX 38 dX12_saysBy_27 (by decide) ?_
          refine z_iload hX dX12_saysBy_38 3 rfl ?_
          obtain rfl := Option.some.inj hf
          exact z_iret hX hr rfl (zl rfl) (zl rfl) dX12_saysBy_40
set_option maxHeartbeats 4000000 in
set_option maxRecDepth 100000 in
theorem fX12_saysBy_ok {X : zX} (hX : zCX X cX12_saysBy RX12) (hT : zNT X) (hR : X.2.2.2.1 = zrm 7 0) (hr : X.2.2.2.2.2.2.2.2.1.sig.returnType = (some .int)) (hn : X.2.2.2.2.2.2.2.2.2.1.maxLocals = 5) {v1 : Int32} {v2 : Int32} {v3 : Int32} {g : zM} {r : Int32 × zM} (hf : fX12_saysBy v1 v2 v3 g = some r) : zW X (zQ X (.inl (some (.int r.1), r.2)) 0) 0 0 0 [(0, .ref (zB X + 493)), (1, .int v1), (2, .int v2), (3, .int v3)] [] g := by
  unfold fX12_saysBy at hf
  refine z_aload_n hX dX12_saysBy_0 0 rfl ?_
  refine z_iload_n hX dX12_saysBy_1 1 rfl ?_
  replace hf := zb_some hf
  obtain ⟨g1, h1, hf⟩ := hf
  refine z_callV0 hX ok_X12_looksAt q1791 q1793 q69 (zrm_ok hR (by decide)) (ct_X12_looksAt  h1) (zrec_Model hX zq_493) dX12_saysBy_2 rfl rfl ?_
  refine z_iconst hX dX12_saysBy_5 ci_0 ?_
  refine z_istore (lv' := [(4, .int 0), (0, .ref (zB X + 493)), (1, .int v1), (2, .int v2), (3, .int v3)]) hX dX12_saysBy_6 hn (by decide) rfl ?_
  refine zW.sub [1, 3, 4, 0] rfl ?_
  exact fX12_saysBy_L8_ok hX hT hR hr hn  zFU 0 g1 hf
set_option maxHeartbeats 4000000 in
set_option maxRecDepth 100000 in
theorem ct_X12_saysBy {E : zE} {v1 : Int32} {v2 : Int32} {v3 : Int32} {g : zM} {r : Int32 × zM} (hf : fX12_saysBy v1 v2 v3 g = some r) : zCt yX12_saysBy cX12_saysBy 5 (some .int) 7 0 E [.ref (E.1 + 493), .int v1, .int v2, .int v3] g (.inl (some (.int r.1), r.2)) := by
  refine zmet (by decide) (zl rfl) (fun X hE hX hT hR hr hn => ?_)
  subst hE
  exact fX12_saysBy_ok hX hT hR hr hn  hf
def fX12_says (v1 : Int32) (v2 : Int32) (v3 : Int32) (g : zM) : Option (Int32 × zM) := zput g 493 0 0 (fun g1 => zb (fX12_noLetter v1 g1) (fun r_2 => zjoin (fun t0_3 => zb2 (fX12_throwsIf t0_3 1 g1) (fun r_4 g4 => if r_4 = 0 then zb2 (fX12_saysBy v1 v2 v3 g4) (fun r_6 g6 => some (r_6, g6)) else some (0, g4)) : Int32 → Option (Int32 × zM)) (fun k26 => if r_2 = 0 then zb (fX12_noKind v2 g1) (fun r_8 => if r_8 = 0 then k26 0 else k26 1) else k26 1)))
set_option maxHeartbeats 4000000 in
set_option maxRecDepth 100000 in
theorem fX12_says_ok {X : zX} (hX : zCX X cX12_says RX12) (hT : zNT X) (hR : X.2.2.2.1 = zrm 8 0) (hr : X.2.2.2.2.2.2.2.2.1.sig.returnType = (some .int)) (hn : X.2.2.2.2.2.2.2.2.2.1.maxLocals = 4) {v1 : Int32} {v2 : Int32} {v3 : Int32} {g : zM} {r : Int32 × zM} (hf : fX12_says v1 v2 v3 g = some r) : zW X (zQ X (.inl (some (.int r.1), r.2)) 0) 0 0 0 [(0, .ref (zB X + 493)), (1, .int v1), (2, .int v2), (3, .int v3)] [] g := by
  unfold fX12_says at hf
  refine z_aload_n hX dX12_says_0 0 rfl ?_
  refine z_iconst hX dX12_says_1 ci_0 ?_
  replace hf := zput_some hf
  obtain ⟨g1, eg1, hf⟩ := hf
  refine gp_Model_thrown hX zq_493 q1494 dX12_says_2 (zW.eqg eg1 ?_)
  refine z_aload_n hX dX12_says_5 0 rfl ?_
  refine z_aload_n hX dX12_says_6 0 rfl ?_
  refine z_iload_n hX dX12_says_7 1 rfl ?_
  replace hf := zb_some hf
  obtain ⟨r_2, h2, hf⟩ := hf
  refine z_callV1 hX ok_X12_noLetter q1787 q1789 q68 (zrm_ok hR (by decide)) (ct_X12_noLetter  h2) (zrec_Model hX zq_493) dX12_says_8 rfl rfl ?_
  refine zjoin_ok (P := fun (k : Int32 → Option (Int32 × zM)) => ∀ (t0_3 : Int32), k t0_3 = some r → zW X (zQ X (.inl (some (.int r.1), r.2)) 0) 0 0 26 [(0, .ref (zB X + 493)), (1, .int v1), (2, .int v2), (3, .int v3)] [.int t0_3, .ref (zB X + 493)] g1) hf (fun t0_3 hf => ?_) (fun k26 hk26 hf => ?_)
  · refine z_iconst hX dX12_says_26 ci_1 ?_
    replace hf := zb2_some hf
    obtain ⟨r_4, g4, h4, hf⟩ := hf
    refine z_callV1 hX ok_X12_throwsIf q1775 q1777 q67 (zrm_ok hR (by decide)) (ct_X12_throwsIf  h4) (zrec_Model hX zq_493) dX12_says_27 rfl rfl ?_
    refine z_if_eq hX 37 dX12_says_30 (by decide) (fun h5 => ?_) (fun h5 => ?_)
    · replace hf := zif_pos h5 hf
      refine z_aload_n hX dX12_says_37 0 rfl ?_
      refine z_iload_n hX dX12_says_38 1 rfl ?_
      refine z_iload_n hX dX12_says_39 2 rfl ?_
      refine z_iload_n hX dX12_says_40 3 rfl ?_
      replace hf := zb2_some hf
      obtain ⟨r_6, g6, h6, hf⟩ := hf
      refine z_callV1 hX ok_X12_saysBy q1957 q1959 q93 (zrm_ok hR (by decide)) (ct_X12_saysBy  h6) (zrec_Model hX zq_493) dX12_says_41 rfl rfl ?_
      obtain rfl := Option.some.inj hf
      exact z_iret hX hr rfl (zl rfl) (zl rfl) dX12_says_44
    · replace hf := zif_neg h5 hf
      refine z_iconst hX dX12_says_33 ci_0 ?_
      refine z_goto hX 44 dX12_says_34 (by decide) ?_
      obtain rfl := Option.some.inj hf
      exact z_iret hX hr rfl (zl rfl) (zl rfl) dX12_says_44
  · refine z_if_ne hX 21 dX12_says_11 (by decide) (fun h7 => ?_) (fun h7 => ?_)
    · replace hf := zif_neg h7 hf
      refine z_iconst hX dX12_says_21 ci_1 ?_
      refine z_goto hX 26 dX12_says_22 (by decide) ?_
      exact hk26 1 hf
    · replace hf := zif_pos h7 hf
      refine z_iload_n hX dX12_says_14 2 rfl ?_
      replace hf := zb_some hf
      obtain ⟨r_8, h8, hf⟩ := hf
      refine z_callS1 hX ok_X12_noKind rfl q1854 q1855 (zrm_ok hR (by decide)) (ct_X12_noKind  h8) dX12_says_15 rfl rfl ?_
      refine z_if_eq hX 25 dX12_says_18 (by decide) (fun h9 => ?_) (fun h9 => ?_)
      · replace hf := zif_pos h9 hf
        refine z_iconst hX dX12_says_25 ci_0 ?_
        exact hk26 0 hf
      · replace hf := zif_neg h9 hf
        refine z_iconst hX dX12_says_21 ci_1 ?_
        refine z_goto hX 26 dX12_says_22 (by decide) ?_
        exact hk26 1 hf
set_option maxHeartbeats 4000000 in
set_option maxRecDepth 100000 in
theorem ct_X12_says {E : zE} {v1 : Int32} {v2 : Int32} {v3 : Int32} {g : zM} {r : Int32 × zM} (hf : fX12_says v1 v2 v3 g = some r) : zCt yX12_says cX12_says 4 (some .int) 8 0 E [.ref (E.1 + 493), .int v1, .int v2, .int v3] g (.inl (some (.int r.1), r.2)) := by
  refine zmet (by decide) (zl rfl) (fun X hE hX hT hR hr hn => ?_)
  subst hE
  exact fX12_says_ok hX hT hR hr hn  hf
def fX12_stops_L27  : Nat → Int32 → zM → Option (Int32 × zM)
  | 0, _, _ => none
  | n + 1, v2, g => if 40 < v2 then some ((-1), g) else zb2 (fX12_canGrow g) (fun r_7 g7 => if r_7 = 0 then some (v2, g7) else zb (fX12_goesOn g7) (fun g9 => fX12_stops_L27 n (v2 + 1) g9))
def fX12_stops (v1 : Int32) (g : zM) : Option (Int32 × zM) := zput g 493 0 0 (fun g1 => zb (fX12_noLetter v1 g1) (fun r_2 => zb2 (fX12_throwsIf r_2 1 g1) (fun r_3 g3 => if r_3 = 0 then zb (fX12_looksAt v1 g3) (fun g5 => fX12_stops_L27 zFU 0 g5) else some (0, g3))))
set_option maxHeartbeats 4000000 in
set_option maxRecDepth 100000 in
theorem fX12_stops_L27_ok {X : zX} (hX : zCX X cX12_stops RX12) (hT : zNT X) (hR : X.2.2.2.1 = zrm 7 0) (hr : X.2.2.2.2.2.2.2.2.1.sig.returnType = (some .int)) (hn : X.2.2.2.2.2.2.2.2.2.1.maxLocals = 3)  {r : Int32 × zM}  : ∀ (n : Nat) (v2 : Int32) (g : zM), fX12_stops_L27 n v2 g = some r → zW X (zQ X (.inl (some (.int r.1), r.2)) 0) 0 0 27 [(0, .ref (zB X + 493)), (2, .int v2)] [] g := by
  intro n
  induction n with
  | zero => intro v2 g hf; exact zno hf
  | succ n ih =>
    intro v2 g hf
    rw [fX12_stops_L27] at hf
    refine z_iload_n hX dX12_stops_27 1 rfl ?_
    refine z_bipush hX dX12_stops_28 cb_40 ?_
    refine z_icmp_gt hX 52 dX12_stops_30 (by decide) (fun h6 => ?_) (fun h6 => ?_)
    · replace hf := zif_pos h6 hf
      refine z_iconst hX dX12_stops_52 ci_m1 ?_
      obtain rfl := Option.some.inj hf
      exact z_iret hX hr rfl (zl rfl) (zl rfl) dX12_stops_53
    · replace hf := zif_neg h6 hf
      refine z_aload_n hX dX12_stops_33 0 rfl ?_
      replace hf := zb2_some hf
      obtain ⟨r_7, g7, h7, hf⟩ := hf
      refine z_callV1 hX ok_X12_canGrow q1811 q1813 q74 (zrm_ok hR (by decide)) (ct_X12_canGrow  h7) (zrec_Model hX zq_493) dX12_stops_34 rfl rfl ?_
      refine z_if_ne hX 42 dX12_stops_37 (by decide) (fun h8 => ?_) (fun h8 => ?_)
      · replace hf := zif_neg h8 hf
        refine z_aload_n hX dX12_stops_42 0 rfl ?_
        replace hf := zb_some hf
        obtain ⟨g9, h9, hf⟩ := hf
        refine z_callV0 hX ok_X12_goesOn q1945 q1947 q91 (zrm_ok hR (by decide)) (ct_X12_goesOn  h9) (zrec_Model hX zq_493) dX12_stops_43 rfl rfl ?_
        refine z_iincc (lv' := [(2, .int (v2 + 1)), (0, .ref (zB X + 493))]) hX dX12_stops_46 hn (by decide) 1 rfl ci_1 rfl ?_
        refine z_goto hX 27 dX12_stops_49 (by decide) ?_
        refine zW.sub [1, 0] rfl ?_
        exact ih (v2 + 1) g9 hf
      · replace hf := zif_pos h8 hf
        refine z_iload_n hX dX12_stops_40 1 rfl ?_
        obtain rfl := Option.some.inj hf
        exact z_iret hX hr rfl (zl rfl) (zl rfl) dX12_stops_41
set_option maxHeartbeats 4000000 in
set_option maxRecDepth 100000 in
theorem fX12_stops_ok {X : zX} (hX : zCX X cX12_stops RX12) (hT : zNT X) (hR : X.2.2.2.1 = zrm 7 0) (hr : X.2.2.2.2.2.2.2.2.1.sig.returnType = (some .int)) (hn : X.2.2.2.2.2.2.2.2.2.1.maxLocals = 3) {v1 : Int32} {g : zM} {r : Int32 × zM} (hf : fX12_stops v1 g = some r) : zW X (zQ X (.inl (some (.int r.1), r.2)) 0) 0 0 0 [(0, .ref (zB X + 493)), (1, .int v1)] [] g := by
  unfold fX12_stops at hf
  refine z_aload_n hX dX12_stops_0 0 rfl ?_
  refine z_iconst hX dX12_stops_1 ci_0 ?_
  replace hf := zput_some hf
  obtain ⟨g1, eg1, hf⟩ := hf
  refine gp_Model_thrown hX zq_493 q1494 dX12_stops_2 (zW.eqg eg1 ?_)
  refine z_aload_n hX dX12_stops_5 0 rfl ?_
  refine z_aload_n hX dX12_stops_6 0 rfl ?_
  refine z_iload_n hX dX12_stops_7 1 rfl ?_
  replace hf := zb_some hf
  obtain ⟨r_2, h2, hf⟩ := hf
  refine z_callV1 hX ok_X12_noLetter q1787 q1789 q68 (zrm_ok hR (by decide)) (ct_X12_noLetter  h2) (zrec_Model hX zq_493) dX12_stops_8 rfl rfl ?_
  refine z_iconst hX dX12_stops_11 ci_1 ?_
  replace hf := zb2_some hf
  obtain ⟨r_3, g3, h3, hf⟩ := hf
  refine z_callV1 hX ok_X12_throwsIf q1775 q1777 q67 (zrm_ok hR (by decide)) (ct_X12_throwsIf  h3) (zrec_Model hX zq_493) dX12_stops_12 rfl rfl ?_
  refine z_if_eq hX 20 dX12_stops_15 (by decide) (fun h4 => ?_) (fun h4 => ?_)
  · replace hf := zif_pos h4 hf
    refine z_aload_n hX dX12_stops_20 0 rfl ?_
    refine z_iload_n hX dX12_stops_21 1 rfl ?_
    replace hf := zb_some hf
    obtain ⟨g5, h5, hf⟩ := hf
    refine z_callV0 hX ok_X12_looksAt q1791 q1793 q69 (zrm_ok hR (by decide)) (ct_X12_looksAt  h5) (zrec_Model hX zq_493) dX12_stops_22 rfl rfl ?_
    refine z_iconst hX dX12_stops_25 ci_0 ?_
    refine z_istore_n (lv' := [(2, .int 0), (0, .ref (zB X + 493)), (1, .int v1)]) hX dX12_stops_26 hn (by decide) rfl ?_
    refine zW.sub [1, 0] rfl ?_
    exact fX12_stops_L27_ok hX hT hR hr hn  zFU 0 g5 hf
  · replace hf := zif_neg h4 hf
    refine z_iconst hX dX12_stops_18 ci_0 ?_
    obtain rfl := Option.some.inj hf
    exact z_iret hX hr rfl (zl rfl) (zl rfl) dX12_stops_19
set_option maxHeartbeats 4000000 in
set_option maxRecDepth 100000 in
theorem ct_X12_stops {E : zE} {v1 : Int32} {g : zM} {r : Int32 × zM} (hf : fX12_stops v1 g = some r) : zCt yX12_stops cX12_stops 3 (some .int) 7 0 E [.ref (E.1 + 493), .int v1] g (.inl (some (.int r.1), r.2)) := by
  refine zmet (by decide) (zl rfl) (fun X hE hX hT hR hr hn => ?_)
  subst hE
  exact fX12_stops_ok hX hT hR hr hn  hf
def fX12_stays_L58 (v2 : Int32) (v3 : Int32) : Nat → Int32 → zM → Option (Int32 × zM)
  | 0, _, _ => none
  | n + 1, v4, g => if 40 < (v3 + v4) then some (v4, g) else zb (fX12_last g) (fun r_10 => if r_10 = v2 then zb (fX12_goesOn g) (fun g12 => fX12_stays_L58 v2 v3 n (v4 + 1) g12) else some (v4, g))
def fX12_stays (v1 : Int32) (v2 : Int32) (g : zM) : Option (Int32 × zM) := zput g 493 0 0 (fun g1 => zb (fX12_noLetter v1 g1) (fun r_2 => zjoin (fun t0_3 => zb2 (fX12_throwsIf t0_3 1 g1) (fun r_4 g4 => if r_4 = 0 then zb2 (fX12_saysBy v1 v2 0 g4) (fun r_6 g6 => if 0 ≤ r_6 then zb (fX12_looksAhead v1 r_6 g6) (fun g8 => fX12_stays_L58 v2 r_6 zFU 0 g8) else some (0, g6)) else some (0, g4)) : Int32 → Option (Int32 × zM)) (fun k26 => if r_2 = 0 then zb (fX12_noKind v2 g1) (fun r_14 => if r_14 = 0 then k26 0 else k26 1) else k26 1)))
set_option maxHeartbeats 4000000 in
set_option maxRecDepth 100000 in
theorem fX12_stays_L58_ok {X : zX} (hX : zCX X cX12_stays RX12) (hT : zNT X) (hR : X.2.2.2.1 = zrm 9 0) (hr : X.2.2.2.2.2.2.2.2.1.sig.returnType = (some .int)) (hn : X.2.2.2.2.2.2.2.2.2.1.maxLocals = 5) {v2 : Int32} {v3 : Int32} {r : Int32 × zM}  : ∀ (n : Nat) (v4 : Int32) (g : zM), fX12_stays_L58 v2 v3 n v4 g = some r → zW X (zQ X (.inl (some (.int r.1), r.2)) 0) 0 0 58 [(0, .ref (zB X + 493)), (2, .int v2), (3, .int v3), (4, .int v4)] [] g := by
  intro n
  induction n with
  | zero => intro v4 g hf; exact zno hf
  | succ n ih =>
    intro v4 g hf
    rw [fX12_stays_L58] at hf
    refine z_iload_n hX dX12_stays_58 2 rfl ?_
    refine z_iload hX dX12_stays_59 3 rfl ?_
    refine z_iadd hX dX12_stays_61 ?_
    refine z_bipush hX dX12_stays_62 cb_40 ?_
    refine z_icmp_gt hX 85 dX12_stays_64 (by decide) (fun h9 => ?_) (fun h9 => ?_)
    · replace hf := zif_pos h9 hf
      refine z_iload hX dX12_stays_85 3 rfl ?_
      obtain rfl := Option.some.inj hf
      exact z_iret hX hr rfl (zl rfl) (zl rfl) dX12_stays_87
    · replace hf := zif_neg h9 hf
      refine z_aload_n hX dX12_stays_67 0 rfl ?_
      replace hf := zb_some hf
      obtain ⟨r_10, h10, hf⟩ := hf
      refine z_callV1 hX ok_X12_last q1807 q1809 q73 (zrm_ok hR (by decide)) (ct_X12_last  h10) (zrec_Model hX zq_493) dX12_stays_68 rfl rfl ?_
      refine z_iload_n hX dX12_stays_71 1 rfl ?_
      refine z_icmp_ne hX 85 dX12_stays_72 (by decide) (fun h11 => ?_) (fun h11 => ?_)
      · replace hf := zif_neg h11 hf
        refine z_iload hX dX12_stays_85 3 rfl ?_
        obtain rfl := Option.some.inj hf
        exact z_iret hX hr rfl (zl rfl) (zl rfl) dX12_stays_87
      · replace hf := zif_pos h11 hf
        refine z_iincc (lv' := [(4, .int (v4 + 1)), (0, .ref (zB X + 493)), (2, .int v2), (3, .int v3)]) hX dX12_stays_75 hn (by decide) 3 rfl ci_1 rfl ?_
        refine z_aload_n hX dX12_stays_78 1 rfl ?_
        replace hf := zb_some hf
        obtain ⟨g12, h12, hf⟩ := hf
        refine z_callV0 hX ok_X12_goesOn q1945 q1947 q91 (zrm_ok hR (by decide)) (ct_X12_goesOn  h12) (zrec_Model hX zq_493) dX12_stays_79 rfl rfl ?_
        refine z_goto hX 58 dX12_stays_82 (by decide) ?_
        refine zW.sub [1, 2, 3, 0] rfl ?_
        exact ih (v4 + 1) g12 hf
set_option maxHeartbeats 4000000 in
set_option maxRecDepth 100000 in
theorem fX12_stays_ok {X : zX} (hX : zCX X cX12_stays RX12) (hT : zNT X) (hR : X.2.2.2.1 = zrm 9 0) (hr : X.2.2.2.2.2.2.2.2.1.sig.returnType = (some .int)) (hn : X.2.2.2.2.2.2.2.2.2.1.maxLocals = 5) {v1 : Int32} {v2 : Int32} {g : zM} {r : Int32 × zM} (hf : fX12_stays v1 v2 g = some r) : zW X (zQ X (.inl (some (.int r.1), r.2)) 0) 0 0 0 [(0, .ref (zB X + 493)), (1, .int v1), (2, .int v2)] [] g := by
  unfold fX12_stays at hf
  refine z_aload_n hX dX12_stays_0 0 rfl ?_
  refine z_iconst hX dX12_stays_1 ci_0 ?_
  replace hf := zput_some hf
  obtain ⟨g1, eg1, hf⟩ := hf
  refine gp_Model_thrown hX zq_493 q1494 dX12_stays_2 (zW.eqg eg1 ?_)
  refine z_aload_n hX dX12_stays_5 0 rfl ?_
  refine z_aload_n hX dX12_stays_6 0 rfl ?_
  refine z_iload_n hX dX12_stays_7 1 rfl ?_
  replace hf := zb_some hf
  obtain ⟨r_2, h2, hf⟩ := hf
  refine z_callV1 hX ok_X12_noLetter q1787 q1789 q68 (zrm_ok hR (by decide)) (ct_X12_noLetter  h2) (zrec_Model hX zq_493) dX12_stays_8 rfl rfl ?_
  refine zjoin_ok (P := fun (k : Int32 → Option (Int32 × zM)) => ∀ (t0_3 : Int32), k t0_3 = some r → zW X (zQ X (.inl (some (.int r.1), r.2)) 0) 0 0 26 [(0, .ref (zB X + 493)), (1, .int v1), (2, .int v2)] [.int t0_3, .ref (zB X + 493)] g1) hf (fun t0_3 hf => ?_) (fun k26 hk26 hf => ?_)
  · refine z_iconst hX dX12_stays_26 ci_1 ?_
    replace hf := zb2_some hf
    obtain ⟨r_4, g4, h4, hf⟩ := hf
    refine z_callV1 hX ok_X12_throwsIf q1775 q1777 q67 (zrm_ok hR (by decide)) (ct_X12_throwsIf  h4) (zrec_Model hX zq_493) dX12_stays_27 rfl rfl ?_
    refine z_if_eq hX 35 dX12_stays_30 (by decide) (fun h5 => ?_) (fun h5 => ?_)
    · replace hf := zif_pos h5 hf
      refine z_aload_n hX dX12_stays_35 0 rfl ?_
      refine z_iload_n hX dX12_stays_36 1 rfl ?_
      refine z_iload_n hX dX12_stays_37 2 rfl ?_
      refine z_iconst hX dX12_stays_38 ci_0 ?_
      replace hf := zb2_some hf
      obtain ⟨r_6, g6, h6, hf⟩ := hf
      refine z_callV1 hX ok_X12_saysBy q1957 q1959 q93 (zrm_ok hR (by decide)) (ct_X12_saysBy  h6) (zrec_Model hX zq_493) dX12_stays_39 rfl rfl ?_
      refine z_istore_n (lv' := [(3, .int r_6), (0, .ref (zB X + 493)), (1, .int v1), (2, .int v2)]) hX dX12_stays_42 hn (by decide) rfl ?_
      refine z_iload_n hX dX12_stays_43 0 rfl ?_
      refine z_if_ge hX 49 dX12_stays_44 (by decide) (fun h7 => ?_) (fun h7 => ?_)
      · replace hf := zif_pos h7 hf
        refine z_aload_n hX dX12_stays_49 1 rfl ?_
        refine z_iload_n hX dX12_stays_50 2 rfl ?_
        refine z_iload_n hX dX12_stays_51 0 rfl ?_
        replace hf := zb_some hf
        obtain ⟨g8, h8, hf⟩ := hf
        refine z_callV0 hX ok_X12_looksAhead q1937 q1939 q89 (zrm_ok hR (by decide)) (ct_X12_looksAhead  h8) (zrec_Model hX zq_493) dX12_stays_52 rfl rfl ?_
        refine z_iconst hX dX12_stays_55 ci_0 ?_
        refine z_istore (lv' := [(4, .int 0), (3, .int r_6), (0, .ref (zB X + 493)), (1, .int v1), (2, .int v2)]) hX dX12_stays_56 hn (by decide) rfl ?_
        refine zW.sub [2, 4, 1, 0] rfl ?_
        exact fX12_stays_L58_ok hX hT hR hr hn  zFU 0 g8 hf
      · replace hf := zif_neg h7 hf
        refine z_iconst hX dX12_stays_47 ci_0 ?_
        obtain rfl := Option.some.inj hf
        exact z_iret hX hr rfl (zl rfl) (zl rfl) dX12_stays_48
    · replace hf := zif_neg h5 hf
      refine z_iconst hX dX12_stays_33 ci_0 ?_
      obtain rfl := Option.some.inj hf
      exact z_iret hX hr rfl (zl rfl) (zl rfl) dX12_stays_34
  · refine z_if_ne hX 21 dX12_stays_11 (by decide) (fun h13 => ?_) (fun h13 => ?_)
    · replace hf := zif_neg h13 hf
      refine z_iconst hX dX12_stays_21 ci_1 ?_
      refine z_goto hX 26 dX12_stays_22 (by decide) ?_
      exact hk26 1 hf
    · replace hf := zif_pos h13 hf
      refine z_iload_n hX dX12_stays_14 2 rfl ?_
      replace hf := zb_some hf
      obtain ⟨r_14, h14, hf⟩ := hf
      refine z_callS1 hX ok_X12_noKind rfl q1854 q1855 (zrm_ok hR (by decide)) (ct_X12_noKind  h14) dX12_stays_15 rfl rfl ?_
      refine z_if_eq hX 25 dX12_stays_18 (by decide) (fun h15 => ?_) (fun h15 => ?_)
      · replace hf := zif_pos h15 hf
        refine z_iconst hX dX12_stays_25 ci_0 ?_
        exact hk26 0 hf
      · replace hf := zif_neg h15 hf
        refine z_iconst hX dX12_stays_21 ci_1 ?_
        refine z_goto hX 26 dX12_stays_22 (by decide) ?_
        exact hk26 1 hf
set_option maxHeartbeats 4000000 in
set_option maxRecDepth 100000 in
theorem ct_X12_stays {E : zE} {v1 : Int32} {v2 : Int32} {g : zM} {r : Int32 × zM} (hf : fX12_stays v1 v2 g = some r) : zCt yX12_stays cX12_stays 5 (some .int) 9 0 E [.ref (E.1 + 493), .int v1, .int v2] g (.inl (some (.int r.1), r.2)) := by
  refine zmet (by decide) (zl rfl) (fun X hE hX hT hR hr hn => ?_)
  subst hE
  exact fX12_stays_ok hX hT hR hr hn  hf
def fX12_leads (v1 : Int32) (v2 : Int32) (v3 : Int32) (v4 : Int32) (v5 : Int32) (g : zM) : Option (Int32 × zM) := zjoin (fun t0_1 => zput g 493 19 t0_1 (fun g2 => zjoin (fun t0_3 => zchk 0 24 (zput g2 502 (0 : Int32).toNatClampNeg t0_3 (fun g5 => zchk 1 24 (zput g5 502 (1 : Int32).toNatClampNeg (v1 - v1 / 12 * 12) (fun g7 => zput g7 493 20 v3 (fun g8 => zput g8 493 21 v2 (fun g9 => zput g9 493 23 0 (fun g10 => zput g10 493 24 0 (fun g11 => zchk 4 2158 (zput g11 493 22 (g11 494 (4 : Int32).toNatClampNeg) (fun g13 => zb (fX12_goesFor v5 g13) (fun g14 => zb (fX12_last g14) (fun r_15 => if r_15 = v4 then some (1, g14) else some (0, g14))))))))))))) : Int32 → Option (Int32 × zM)) (fun k37 => if 12 ≤ v1 then k37 ((v1 - 12) / 12) else k37 v1)) : Int32 → Option (Int32 × zM)) (fun k12 => if 12 ≤ v1 then k12 2 else k12 1)
set_option maxHeartbeats 4000000 in
set_option maxRecDepth 100000 in
theorem fX12_leads_ok {X : zX} (hX : zCX X cX12_leads RX12) (hT : zNT X) (hR : X.2.2.2.1 = zrm 8 0) (hr : X.2.2.2.2.2.2.2.2.1.sig.returnType = (some .boolean)) (hn : X.2.2.2.2.2.2.2.2.2.1.maxLocals = 6) {v1 : Int32} {v2 : Int32} {v3 : Int32} {v4 : Int32} {v5 : Int32} {g : zM} {r : Int32 × zM} (hf : fX12_leads v1 v2 v3 v4 v5 g = some r) : zW X (zQ X (.inl (some (.int r.1), r.2)) 0) 0 0 0 [(0, .ref (zB X + 493)), (1, .int v1), (2, .int v2), (3, .int v3), (4, .int v4), (5, .int v5)] [] g := by
  unfold fX12_leads at hf
  refine z_aload_n hX dX12_leads_0 0 rfl ?_
  refine z_iload_n hX dX12_leads_1 1 rfl ?_
  refine z_bipush hX dX12_leads_2 cb_12 ?_
  refine zjoin_ok (P := fun (k : Int32 → Option (Int32 × zM)) => ∀ (t0_1 : Int32), k t0_1 = some r → zW X (zQ X (.inl (some (.int r.1), r.2)) 0) 0 0 12 [(0, .ref (zB X + 493)), (1, .int v1), (2, .int v2), (3, .int v3), (4, .int v4), (5, .int v5)] [.int t0_1, .ref (zB X + 493)] g) hf (fun t0_1 hf => ?_) (fun k12 hk12 hf => ?_)
  · replace hf := zput_some hf
    obtain ⟨g2, eg2, hf⟩ := hf
    refine gp_Model_many hX zq_493 q1513 dX12_leads_12 (zW.eqg eg2 ?_)
    refine z_aload_n hX dX12_leads_15 0 rfl ?_
    refine gf_Model_row hX zq_493 q1512 dX12_leads_16 ?_
    refine z_iconst hX dX12_leads_19 ci_0 ?_
    refine z_iload_n hX dX12_leads_20 1 rfl ?_
    refine z_bipush hX dX12_leads_21 cb_12 ?_
    refine zjoin_ok (P := fun (k : Int32 → Option (Int32 × zM)) => ∀ (t0_3 : Int32), k t0_3 = some r → zW X (zQ X (.inl (some (.int r.1), r.2)) 0) 0 0 37 [(0, .ref (zB X + 493)), (1, .int v1), (2, .int v2), (3, .int v3), (4, .int v4), (5, .int v5)] [.int t0_3, .int 0, .ref (zB X + 502)] g2) hf (fun t0_3 hf => ?_) (fun k37 hk37 hf => ?_)
    · replace hf := zchk_some hf
      obtain ⟨h4, hf⟩ := hf
      replace hf := zput_some hf
      obtain ⟨g5, eg5, hf⟩ := hf
      refine z_iast hX zq_502 (by decide) (zc_1024 _ _) h4 dX12_leads_37 (zW.eqg eg5 ?_)
      refine z_aload_n hX dX12_leads_38 0 rfl ?_
      refine gf_Model_row hX zq_493 q1512 dX12_leads_39 ?_
      refine z_iconst hX dX12_leads_42 ci_1 ?_
      refine z_iload_n hX dX12_leads_43 1 rfl ?_
      refine z_bipush hX dX12_leads_44 cb_12 ?_
      refine z_irem hX dX12_leads_46 (by decide) ?_
      replace hf := zchk_some hf
      obtain ⟨h6, hf⟩ := hf
      replace hf := zput_some hf
      obtain ⟨g7, eg7, hf⟩ := hf
      refine z_iast hX zq_502 (by decide) (zc_1024 _ _) h6 dX12_leads_47 (zW.eqg eg7 ?_)
      refine z_aload_n hX dX12_leads_48 0 rfl ?_
      refine z_iload_n hX dX12_leads_49 3 rfl ?_
      replace hf := zput_some hf
      obtain ⟨g8, eg8, hf⟩ := hf
      refine gp_Model_temper hX zq_493 q1514 dX12_leads_50 (zW.eqg eg8 ?_)
      refine z_aload_n hX dX12_leads_53 0 rfl ?_
      refine z_iload_n hX dX12_leads_54 2 rfl ?_
      replace hf := zput_some hf
      obtain ⟨g9, eg9, hf⟩ := hf
      refine gp_Model_sender hX zq_493 q1515 dX12_leads_55 (zW.eqg eg9 ?_)
      refine z_aload_n hX dX12_leads_58 0 rfl ?_
      refine z_iconst hX dX12_leads_59 ci_0 ?_
      replace hf := zput_some hf
      obtain ⟨g10, eg10, hf⟩ := hf
      refine gp_Model_open hX zq_493 q1517 (Or.inl rfl) dX12_leads_60 (zW.eqg eg10 ?_)
      refine z_aload_n hX dX12_leads_63 0 rfl ?_
      refine z_iconst hX dX12_leads_64 ci_0 ?_
      replace hf := zput_some hf
      obtain ⟨g11, eg11, hf⟩ := hf
      refine gp_Model_hot hX zq_493 q1518 (Or.inl rfl) dX12_leads_65 (zW.eqg eg11 ?_)
      refine z_aload_n hX dX12_leads_68 0 rfl ?_
      refine z_aload_n hX dX12_leads_69 0 rfl ?_
      refine gf_Model_world hX zq_493 q1495 dX12_leads_70 ?_
      refine z_iconst hX dX12_leads_73 ci_4 ?_
      replace hf := zchk_some hf
      obtain ⟨h12, hf⟩ := hf
      refine z_iald hX zq_494 (by decide) (zc_3158 _ _ _) h12 dX12_leads_74 ?_
      replace hf := zput_some hf
      obtain ⟨g13, eg13, hf⟩ := hf
      refine gp_Model_week hX zq_493 q1516 dX12_leads_75 (zW.eqg eg13 ?_)
      refine z_aload_n hX dX12_leads_78 0 rfl ?_
      refine z_iload hX dX12_leads_79 5 rfl ?_
      replace hf := zb_some hf
      obtain ⟨g14, h14, hf⟩ := hf
      refine z_callV0 hX ok_X12_goesFor q1941 q1943 q90 (zrm_ok hR (by decide)) (ct_X12_goesFor  h14) (zrec_Model hX zq_493) dX12_leads_81 rfl rfl ?_
      refine z_aload_n hX dX12_leads_84 0 rfl ?_
      replace hf := zb_some hf
      obtain ⟨r_15, h15, hf⟩ := hf
      refine z_callV1 hX ok_X12_last q1807 q1809 q73 (zrm_ok hR (by decide)) (ct_X12_last  h15) (zrec_Model hX zq_493) dX12_leads_85 rfl rfl ?_
      refine z_iload hX dX12_leads_88 4 rfl ?_
      refine z_icmp_ne hX 97 dX12_leads_90 (by decide) (fun h16 => ?_) (fun h16 => ?_)
      · replace hf := zif_neg h16 hf
        refine z_iconst hX dX12_leads_97 ci_0 ?_
        obtain rfl := Option.some.inj hf
        exact z_iret hX hr (zbn (Or.inl rfl)) (zl rfl) (zl rfl) dX12_leads_98
      · replace hf := zif_pos h16 hf
        refine z_iconst hX dX12_leads_93 ci_1 ?_
        refine z_goto hX 98 dX12_leads_94 (by decide) ?_
        obtain rfl := Option.some.inj hf
        exact z_iret hX hr (zbn (Or.inr rfl)) (zl rfl) (zl rfl) dX12_leads_98
    · refine z_icmp_ge hX 30 dX12_leads_23 (by decide) (fun h17 => ?_) (fun h17 => ?_)
      · replace hf := zif_pos h17 hf
        refine z_iload_n hX dX12_leads_30 1 rfl ?_
        refine z_bipush hX dX12_leads_31 cb_12 ?_
        refine z_isub hX dX12_leads_33 ?_
        refine z_bipush hX dX12_leads_34 cb_12 ?_
        refine z_idiv hX dX12_leads_36 (by decide) ?_
        exact hk37 ((v1 - 12) / 12) hf
      · replace hf := zif_neg h17 hf
        refine z_iload_n hX dX12_leads_26 1 rfl ?_
        refine z_goto hX 37 dX12_leads_27 (by decide) ?_
        exact hk37 v1 hf
  · refine z_icmp_ge hX 11 dX12_leads_4 (by decide) (fun h18 => ?_) (fun h18 => ?_)
    · replace hf := zif_pos h18 hf
      refine z_iconst hX dX12_leads_11 ci_2 ?_
      exact hk12 2 hf
    · replace hf := zif_neg h18 hf
      refine z_iconst hX dX12_leads_7 ci_1 ?_
      refine z_goto hX 12 dX12_leads_8 (by decide) ?_
      exact hk12 1 hf
set_option maxHeartbeats 4000000 in
set_option maxRecDepth 100000 in
theorem ct_X12_leads {E : zE} {v1 : Int32} {v2 : Int32} {v3 : Int32} {v4 : Int32} {v5 : Int32} {g : zM} {r : Int32 × zM} (hf : fX12_leads v1 v2 v3 v4 v5 g = some r) : zCt yX12_leads cX12_leads 6 (some .boolean) 8 0 E [.ref (E.1 + 493), .int v1, .int v2, .int v3, .int v4, .int v5] g (.inl (some (.int r.1), r.2)) := by
  refine zmet (by decide) (zl rfl) (fun X hE hX hT hR hr hn => ?_)
  subst hE
  exact fX12_leads_ok hX hT hR hr hn  hf
def fX12_send_L57 (v1 : Int32) (v2 : Int32) (v3 : Int32) (v4 : Int32) (v5 : Int32) (k105 : Int32 → Int32 → zM → Option (Int32 × zM)) : Nat → Int32 → Int32 → Int32 → zM → Option (Int32 × zM)
  | 0, _, _, _, _ => none
  | n + 1, v6, v7, v8, g => if 156 ≤ v8 then k105 v6 v7 g else zb2 (fX12_leads v8 v1 v2 v3 v4 g) (fun r_10 g10 => if r_10 = 0 then fX12_send_L57 v1 v2 v3 v4 v5 k105 n v6 v7 (v8 + 1) g10 else if 0 ≤ v6 then fX12_send_L57 v1 v2 v3 v4 v5 k105 n v6 (v7 + 1) (v8 + 1) g10 else fX12_send_L57 v1 v2 v3 v4 v5 k105 n v8 (v7 + 1) (v8 + 1) g10)
def fX12_send (v1 : Int32) (v2 : Int32) (v3 : Int32) (v4 : Int32) (v5 : Int32) (g : zM) : Option (Int32 × zM) := zput g 493 0 0 (fun g1 => zb (fX12_noKind v3 g1) (fun r_2 => zb2 (fX12_throwsIf r_2 1 g1) (fun r_3 g3 => if r_3 = 0 then zb (fX12_noSender v1 v2 g3) (fun r_5 => zjoin (fun t0_6 => zb2 (fX12_throwsIf t0_6 2 g3) (fun r_7 g7 => if r_7 = 0 then fX12_send_L57 v1 v2 v3 v4 v5 (fun v6_13 v7_13 g13 => if v5 = 0 then some (v6_13, g13) else some (v7_13, g13)) zFU ((-1)) 0 0 g7 else some (0, g7)) : Int32 → Option (Int32 × zM)) (fun k39 => if r_5 = 0 then zb (fX12_noAhead v4 g3) (fun r_16 => if r_16 = 0 then k39 0 else k39 1) else k39 1)) else some (0, g3))))
set_option maxHeartbeats 4000000 in
set_option maxRecDepth 100000 in
theorem fX12_send_L57_ok {X : zX} (hX : zCX X cX12_send RX12) (hT : zNT X) (hR : X.2.2.2.1 = zrm 9 0) (hr : X.2.2.2.2.2.2.2.2.1.sig.returnType = (some .int)) (hn : X.2.2.2.2.2.2.2.2.2.1.maxLocals = 9) {v1 : Int32} {v2 : Int32} {v3 : Int32} {v4 : Int32} {v5 : Int32} {k105 : Int32 → Int32 → zM → Option (Int32 × zM)} {r : Int32 × zM} (hk105 : ∀ (v6 : Int32) (v7 : Int32) (g : zM), k105 v6 v7 g = some r → zW X (zQ X (.inl (some (.int r.1), r.2)) 0) 0 0 105 [(5, .int v5), (6, .int v6), (7, .int v7)] [] g) : ∀ (n : Nat) (v6 : Int32) (v7 : Int32) (v8 : Int32) (g : zM), fX12_send_L57 v1 v2 v3 v4 v5 k105 n v6 v7 v8 g = some r → zW X (zQ X (.inl (some (.int r.1), r.2)) 0) 0 0 57 [(0, .ref (zB X + 493)), (1, .int v1), (2, .int v2), (3, .int v3), (4, .int v4), (5, .int v5), (6, .int v6), (7, .int v7), (8, .int v8)] [] g := by
  intro n
  induction n with
  | zero => intro v6 v7 v8 g hf; exact zno hf
  | succ n ih =>
    intro v6 v7 v8 g hf
    rw [fX12_send_L57] at hf
    refine z_iload hX dX12_send_57 8 rfl ?_
    refine z_sipush hX dX12_send_59 cs_156 ?_
    refine z_icmp_ge hX 105 dX12_send_62 (by decide) (fun h9 => ?_) (fun h9 => ?_)
    · replace hf := zif_pos h9 hf
      refine zW.sub [5, 6, 7] rfl ?_
      exact hk105 v6 v7 g hf
    · replace hf := zif_neg h9 hf
      refine z_aload_n hX dX12_send_65 0 rfl ?_
      refine z_iload hX dX12_send_66 8 rfl ?_
      refine z_iload_n hX dX12_send_68 1 rfl ?_
      refine z_iload_n hX dX12_send_69 2 rfl ?_
      refine z_iload_n hX dX12_send_70 3 rfl ?_
      refine z_iload hX dX12_send_71 4 rfl ?_
      replace hf := zb2_some hf
      obtain ⟨r_10, g10, h10, hf⟩ := hf
      refine z_callV1 hX ok_X12_leads q1977 q1979 q95 (zrm_ok hR (by decide)) (ct_X12_leads  h10) (zrec_Model hX zq_493) dX12_send_73 rfl rfl ?_
      refine z_if_ne hX 82 dX12_send_76 (by decide) (fun h11 => ?_) (fun h11 => ?_)
      · replace hf := zif_neg h11 hf
        refine z_iload hX dX12_send_82 6 rfl ?_
        refine z_if_ge hX 92 dX12_send_84 (by decide) (fun h12 => ?_) (fun h12 => ?_)
        · replace hf := zif_pos h12 hf
          refine z_iload hX dX12_send_92 6 rfl ?_
          refine z_istore (lv' := [(6, .int v6), (0, .ref (zB X + 493)), (1, .int v1), (2, .int v2), (3, .int v3), (4, .int v4), (5, .int v5), (7, .int v7), (8, .int v8)]) hX dX12_send_94 hn (by decide) rfl ?_
          refine z_iincc (lv' := [(7, .int (v7 + 1)), (6, .int v6), (0, .ref (zB X + 493)), (1, .int v1), (2, .int v2), (3, .int v3), (4, .int v4), (5, .int v5), (8, .int v8)]) hX dX12_send_96 hn (by decide) 7 rfl ci_1 rfl ?_
          refine z_iincc (lv' := [(8, .int (v8 + 1)), (7, .int (v7 + 1)), (6, .int v6), (0, .ref (zB X + 493)), (1, .int v1), (2, .int v2), (3, .int v3), (4, .int v4), (5, .int v5)]) hX dX12_send_99 hn (by decide) 8 rfl ci_1 rfl ?_
          refine z_goto hX 57 dX12_send_102 (by decide) ?_
          refine zW.sub [3, 4, 5, 6, 7, 8, 2, 1, 0] rfl ?_
          exact ih v6 (v7 + 1) (v8 + 1) g10 hf
        · replace hf := zif_neg h12 hf
          refine z_iload hX dX12_send_87 8 rfl ?_
          refine z_goto hX 94 dX12_send_89 (by decide) ?_
          refine z_istore (lv' := [(6, .int v8), (0, .ref (zB X + 493)), (1, .int v1), (2, .int v2), (3, .int v3), (4, .int v4), (5, .int v5), (7, .int v7), (8, .int v8)]) hX dX12_send_94 hn (by decide) rfl ?_
          refine z_iincc (lv' := [(7, .int (v7 + 1)), (6, .int v8), (0, .ref (zB X + 493)), (1, .int v1), (2, .int v2), (3, .int v3), (4, .int v4), (5, .int v5), (8, .int v8)]) hX dX12_send_96 hn (by decide) 7 rfl ci_1 rfl ?_
          refine z_iincc (lv' := [(8, .int (v8 + 1)), (7, .int (v7 + 1)), (6, .int v8), (0, .ref (zB X + 493)), (1, .int v1), (2, .int v2), (3, .int v3), (4, .int v4), (5, .int v5)]) hX dX12_send_99 hn (by decide) 8 rfl ci_1 rfl ?_
          refine z_goto hX 57 dX12_send_102 (by decide) ?_
          refine zW.sub [3, 4, 5, 6, 7, 8, 2, 1, 0] rfl ?_
          exact ih v8 (v7 + 1) (v8 + 1) g10 hf
      · replace hf := zif_pos h11 hf
        refine z_goto hX 99 dX12_send_79 (by decide) ?_
        refine z_iincc (lv' := [(8, .int (v8 + 1)), (0, .ref (zB X + 493)), (1, .int v1), (2, .int v2), (3, .int v3), (4, .int v4), (5, .int v5), (6, .int v6), (7, .int v7)]) hX dX12_send_99 hn (by decide) 8 rfl ci_1 rfl ?_
        refine z_goto hX 57 dX12_send_102 (by decide) ?_
        refine zW.sub [1, 2, 3, 4, 5, 6, 7, 8, 0] rfl ?_
        exact ih v6 v7 (v8 + 1) g10 hf
set_option maxHeartbeats 4000000 in
set_option maxRecDepth 100000 in
theorem fX12_send_ok {X : zX} (hX : zCX X cX12_send RX12) (hT : zNT X) (hR : X.2.2.2.1 = zrm 9 0) (hr : X.2.2.2.2.2.2.2.2.1.sig.returnType = (some .int)) (hn : X.2.2.2.2.2.2.2.2.2.1.maxLocals = 9) {v1 : Int32} {v2 : Int32} {v3 : Int32} {v4 : Int32} {v5 : Int32} {g : zM} {r : Int32 × zM} (hf : fX12_send v1 v2 v3 v4 v5 g = some r) : zW X (zQ X (.inl (some (.int r.1), r.2)) 0) 0 0 0 [(0, .ref (zB X + 493)), (1, .int v1), (2, .int v2), (3, .int v3), (4, .int v4), (5, .int v5)] [] g := by
  unfold fX12_send at hf
  refine z_aload_n hX dX12_send_0 0 rfl ?_
  refine z_iconst hX dX12_send_1 ci_0 ?_
  replace hf := zput_some hf
  obtain ⟨g1, eg1, hf⟩ := hf
  refine gp_Model_thrown hX zq_493 q1494 dX12_send_2 (zW.eqg eg1 ?_)
  refine z_aload_n hX dX12_send_5 0 rfl ?_
  refine z_iload_n hX dX12_send_6 3 rfl ?_
  replace hf := zb_some hf
  obtain ⟨r_2, h2, hf⟩ := hf
  refine z_callS1 hX ok_X12_noKind rfl q1854 q1855 (zrm_ok hR (by decide)) (ct_X12_noKind  h2) dX12_send_7 rfl rfl ?_
  refine z_iconst hX dX12_send_10 ci_1 ?_
  replace hf := zb2_some hf
  obtain ⟨r_3, g3, h3, hf⟩ := hf
  refine z_callV1 hX ok_X12_throwsIf q1775 q1777 q67 (zrm_ok hR (by decide)) (ct_X12_throwsIf  h3) (zrec_Model hX zq_493) dX12_send_11 rfl rfl ?_
  refine z_if_ne hX 46 dX12_send_14 (by decide) (fun h4 => ?_) (fun h4 => ?_)
  · replace hf := zif_neg h4 hf
    refine z_iconst hX dX12_send_46 ci_0 ?_
    obtain rfl := Option.some.inj hf
    exact z_iret hX hr rfl (zl rfl) (zl rfl) dX12_send_47
  · replace hf := zif_pos h4 hf
    refine z_aload_n hX dX12_send_17 0 rfl ?_
    refine z_iload_n hX dX12_send_18 1 rfl ?_
    refine z_iload_n hX dX12_send_19 2 rfl ?_
    replace hf := zb_some hf
    obtain ⟨r_5, h5, hf⟩ := hf
    refine z_callS1 hX ok_X12_noSender rfl q1877 q1878 (zrm_ok hR (by decide)) (ct_X12_noSender  h5) dX12_send_20 rfl rfl ?_
    refine zjoin_ok (P := fun (k : Int32 → Option (Int32 × zM)) => ∀ (t0_6 : Int32), k t0_6 = some r → zW X (zQ X (.inl (some (.int r.1), r.2)) 0) 0 0 39 [(0, .ref (zB X + 493)), (1, .int v1), (2, .int v2), (3, .int v3), (4, .int v4), (5, .int v5)] [.int t0_6, .ref (zB X + 493)] g3) hf (fun t0_6 hf => ?_) (fun k39 hk39 hf => ?_)
    · refine z_iconst hX dX12_send_39 ci_2 ?_
      replace hf := zb2_some hf
      obtain ⟨r_7, g7, h7, hf⟩ := hf
      refine z_callV1 hX ok_X12_throwsIf q1775 q1777 q67 (zrm_ok hR (by decide)) (ct_X12_throwsIf  h7) (zrec_Model hX zq_493) dX12_send_40 rfl rfl ?_
      refine z_if_eq hX 48 dX12_send_43 (by decide) (fun h8 => ?_) (fun h8 => ?_)
      · replace hf := zif_pos h8 hf
        refine z_iconst hX dX12_send_48 ci_m1 ?_
        refine z_istore (lv' := [(6, .int ((-1))), (0, .ref (zB X + 493)), (1, .int v1), (2, .int v2), (3, .int v3), (4, .int v4), (5, .int v5)]) hX dX12_send_49 hn (by decide) rfl ?_
        refine z_iconst hX dX12_send_51 ci_0 ?_
        refine z_istore (lv' := [(7, .int 0), (6, .int ((-1))), (0, .ref (zB X + 493)), (1, .int v1), (2, .int v2), (3, .int v3), (4, .int v4), (5, .int v5)]) hX dX12_send_52 hn (by decide) rfl ?_
        refine z_iconst hX dX12_send_54 ci_0 ?_
        refine z_istore (lv' := [(8, .int 0), (7, .int 0), (6, .int ((-1))), (0, .ref (zB X + 493)), (1, .int v1), (2, .int v2), (3, .int v3), (4, .int v4), (5, .int v5)]) hX dX12_send_55 hn (by decide) rfl ?_
        refine zW.sub [3, 4, 5, 6, 7, 8, 2, 1, 0] rfl ?_
        refine fX12_send_L57_ok hX hT hR hr hn (fun v6_13 v7_13 g13 hf => ?_) zFU ((-1)) 0 0 g7 hf
        · refine z_iload hX dX12_send_105 0 rfl ?_
          refine z_if_eq hX 115 dX12_send_107 (by decide) (fun h14 => ?_) (fun h14 => ?_)
          · replace hf := zif_pos h14 hf
            refine z_iload hX dX12_send_115 1 rfl ?_
            obtain rfl := Option.some.inj hf
            exact z_iret hX hr rfl (zl rfl) (zl rfl) dX12_send_117
          · replace hf := zif_neg h14 hf
            refine z_iload hX dX12_send_110 2 rfl ?_
            refine z_goto hX 117 dX12_send_112 (by decide) ?_
            obtain rfl := Option.some.inj hf
            exact z_iret hX hr rfl (zl rfl) (zl rfl) dX12_send_117
      · replace hf := zif_neg h8 hf
        refine z_iconst hX dX12_send_46 ci_0 ?_
        obtain rfl := Option.some.inj hf
        exact z_iret hX hr rfl (zl rfl) (zl rfl) dX12_send_47
    · refine z_if_ne hX 34 dX12_send_23 (by decide) (fun h15 => ?_) (fun h15 => ?_)
      · replace hf := zif_neg h15 hf
        refine z_iconst hX dX12_send_34 ci_1 ?_
        refine z_goto hX 39 dX12_send_35 (by decide) ?_
        exact hk39 1 hf
      · replace hf := zif_pos h15 hf
        refine z_iload hX dX12_send_26 4 rfl ?_
        replace hf := zb_some hf
        obtain ⟨r_16, h16, hf⟩ := hf
        refine z_callS1 hX ok_X12_noAhead rfl q1934 q1935 (zrm_ok hR (by decide)) (ct_X12_noAhead  h16) dX12_send_28 rfl rfl ?_
        refine z_if_eq hX 38 dX12_send_31 (by decide) (fun h17 => ?_) (fun h17 => ?_)
        · replace hf := zif_pos h17 hf
          refine z_iconst hX dX12_send_38 ci_0 ?_
          exact hk39 0 hf
        · replace hf := zif_neg h17 hf
          refine z_iconst hX dX12_send_34 ci_1 ?_
          refine z_goto hX 39 dX12_send_35 (by decide) ?_
          exact hk39 1 hf
set_option maxHeartbeats 4000000 in
set_option maxRecDepth 100000 in
theorem ct_X12_send {E : zE} {v1 : Int32} {v2 : Int32} {v3 : Int32} {v4 : Int32} {v5 : Int32} {g : zM} {r : Int32 × zM} (hf : fX12_send v1 v2 v3 v4 v5 g = some r) : zCt yX12_send cX12_send 9 (some .int) 9 0 E [.ref (E.1 + 493), .int v1, .int v2, .int v3, .int v4, .int v5] g (.inl (some (.int r.1), r.2)) := by
  refine zmet (by decide) (zl rfl) (fun X hE hX hT hR hr hn => ?_)
  subst hE
  exact fX12_send_ok hX hT hR hr hn  hf
def fX12_cuts_L50 (v1 : Int32) (v2 : Int32) (v3 : Int32) (v4 : Int32) : Nat → Int32 → zM → Option (Int32 × zM)
  | 0, _, _ => none
  | n + 1, v5, g => zb (fX12_lines v1 g) (fun r_9 => if r_9 ≤ v5 then some ((-1), g) else zb (fX12_looksAt v1 g) (fun g11 => zput g11 493 19 ((g11 493 19) - v5) (fun g12 => zb (fX12_goesFor v3 g12) (fun g13 => zb (fX12_last g13) (fun r_14 => if r_14 = v2 then if (1 : Int32) = v4 then fX12_cuts_L50 v1 v2 v3 v4 n (v5 + 1) g13 else some (v5, g13) else if (0 : Int32) = v4 then fX12_cuts_L50 v1 v2 v3 v4 n (v5 + 1) g13 else some (v5, g13))))))
def fX12_cuts (v1 : Int32) (v2 : Int32) (v3 : Int32) (v4 : Int32) (g : zM) : Option (Int32 × zM) := zput g 493 0 0 (fun g1 => zb (fX12_noLetter v1 g1) (fun r_2 => zjoin (fun t0_3 => zb2 (fX12_throwsIf t0_3 1 g1) (fun r_4 g4 => if r_4 = 0 then zb (fX12_noAhead v3 g4) (fun r_6 => zb2 (fX12_throwsIf r_6 2 g4) (fun r_7 g7 => if r_7 = 0 then fX12_cuts_L50 v1 v2 v3 v4 zFU 0 g7 else some (0, g7))) else some (0, g4)) : Int32 → Option (Int32 × zM)) (fun k26 => if r_2 = 0 then zb (fX12_noKind v2 g1) (fun r_19 => if r_19 = 0 then k26 0 else k26 1) else k26 1)))
set_option maxHeartbeats 4000000 in
set_option maxRecDepth 100000 in
theorem fX12_cuts_L50_ok {X : zX} (hX : zCX X cX12_cuts RX12) (hT : zNT X) (hR : X.2.2.2.1 = zrm 8 0) (hr : X.2.2.2.2.2.2.2.2.1.sig.returnType = (some .int)) (hn : X.2.2.2.2.2.2.2.2.2.1.maxLocals = 6) {v1 : Int32} {v2 : Int32} {v3 : Int32} {v4 : Int32} {r : Int32 × zM}  : ∀ (n : Nat) (v5 : Int32) (g : zM), fX12_cuts_L50 v1 v2 v3 v4 n v5 g = some r → zW X (zQ X (.inl (some (.int r.1), r.2)) 0) 0 0 50 [(0, .ref (zB X + 493)), (1, .int v1), (2, .int v2), (3, .int v3), (4, .int v4), (5, .int v5)] [] g := by
  intro n
  induction n with
  | zero => intro v5 g hf; exact zno hf
  | succ n ih =>
    intro v5 g hf
    rw [fX12_cuts_L50] at hf
    refine z_iload hX dX12_cuts_50 5 rfl ?_
    refine z_aload_n hX dX12_cuts_52 0 rfl ?_
    refine z_iload_n hX dX12_cuts_53 1 rfl ?_
    replace hf := zb_some hf
    obtain ⟨r_9, h9, hf⟩ := hf
    refine z_callV1 hX ok_X12_lines q1683 q1685 q48 (zrm_ok hR (by decide)) (ct_X12_lines  h9) (zrec_Model hX zq_493) dX12_cuts_54 rfl rfl ?_
    refine z_icmp_ge hX 108 dX12_cuts_57 (by decide) (fun h10 => ?_) (fun h10 => ?_)
    · replace hf := zif_pos h10 hf
      refine z_iconst hX dX12_cuts_108 ci_m1 ?_
      obtain rfl := Option.some.inj hf
      exact z_iret hX hr rfl (zl rfl) (zl rfl) dX12_cuts_109
    · replace hf := zif_neg h10 hf
      refine z_aload_n hX dX12_cuts_60 0 rfl ?_
      refine z_iload_n hX dX12_cuts_61 1 rfl ?_
      replace hf := zb_some hf
      obtain ⟨g11, h11, hf⟩ := hf
      refine z_callV0 hX ok_X12_looksAt q1791 q1793 q69 (zrm_ok hR (by decide)) (ct_X12_looksAt  h11) (zrec_Model hX zq_493) dX12_cuts_62 rfl rfl ?_
      refine z_aload_n hX dX12_cuts_65 0 rfl ?_
      refine z_dup hX dX12_cuts_66 rfl ?_
      refine gf_Model_many hX zq_493 q1513 dX12_cuts_67 ?_
      refine z_iload hX dX12_cuts_70 5 rfl ?_
      refine z_isub hX dX12_cuts_72 ?_
      replace hf := zput_some hf
      obtain ⟨g12, eg12, hf⟩ := hf
      refine gp_Model_many hX zq_493 q1513 dX12_cuts_73 (zW.eqg eg12 ?_)
      refine z_aload_n hX dX12_cuts_76 0 rfl ?_
      refine z_iload_n hX dX12_cuts_77 3 rfl ?_
      replace hf := zb_some hf
      obtain ⟨g13, h13, hf⟩ := hf
      refine z_callV0 hX ok_X12_goesFor q1941 q1943 q90 (zrm_ok hR (by decide)) (ct_X12_goesFor  h13) (zrec_Model hX zq_493) dX12_cuts_78 rfl rfl ?_
      refine z_aload_n hX dX12_cuts_81 0 rfl ?_
      replace hf := zb_some hf
      obtain ⟨r_14, h14, hf⟩ := hf
      refine z_callV1 hX ok_X12_last q1807 q1809 q73 (zrm_ok hR (by decide)) (ct_X12_last  h14) (zrec_Model hX zq_493) dX12_cuts_82 rfl rfl ?_
      refine z_iload_n hX dX12_cuts_85 2 rfl ?_
      refine z_icmp_ne hX 93 dX12_cuts_86 (by decide) (fun h15 => ?_) (fun h15 => ?_)
      · replace hf := zif_neg h15 hf
        refine z_iconst hX dX12_cuts_93 ci_0 ?_
        refine z_iload hX dX12_cuts_94 4 rfl ?_
        refine z_icmp_eq hX 102 dX12_cuts_96 (by decide) (fun h16 => ?_) (fun h16 => ?_)
        · replace hf := zif_pos h16 hf
          refine z_iincc (lv' := [(5, .int (v5 + 1)), (0, .ref (zB X + 493)), (1, .int v1), (2, .int v2), (3, .int v3), (4, .int v4)]) hX dX12_cuts_102 hn (by decide) 5 rfl ci_1 rfl ?_
          refine z_goto hX 50 dX12_cuts_105 (by decide) ?_
          refine zW.sub [1, 2, 3, 4, 5, 0] rfl ?_
          exact ih (v5 + 1) g13 hf
        · replace hf := zif_neg h16 hf
          refine z_iload hX dX12_cuts_99 5 rfl ?_
          obtain rfl := Option.some.inj hf
          exact z_iret hX hr rfl (zl rfl) (zl rfl) dX12_cuts_101
      · replace hf := zif_pos h15 hf
        refine z_iconst hX dX12_cuts_89 ci_1 ?_
        refine z_goto hX 94 dX12_cuts_90 (by decide) ?_
        refine z_iload hX dX12_cuts_94 4 rfl ?_
        refine z_icmp_eq hX 102 dX12_cuts_96 (by decide) (fun h17 => ?_) (fun h17 => ?_)
        · replace hf := zif_pos h17 hf
          refine z_iincc (lv' := [(5, .int (v5 + 1)), (0, .ref (zB X + 493)), (1, .int v1), (2, .int v2), (3, .int v3), (4, .int v4)]) hX dX12_cuts_102 hn (by decide) 5 rfl ci_1 rfl ?_
          refine z_goto hX 50 dX12_cuts_105 (by decide) ?_
          refine zW.sub [1, 2, 3, 4, 5, 0] rfl ?_
          exact ih (v5 + 1) g13 hf
        · replace hf := zif_neg h17 hf
          refine z_iload hX dX12_cuts_99 5 rfl ?_
          obtain rfl := Option.some.inj hf
          exact z_iret hX hr rfl (zl rfl) (zl rfl) dX12_cuts_101
set_option maxHeartbeats 4000000 in
set_option maxRecDepth 100000 in
theorem fX12_cuts_ok {X : zX} (hX : zCX X cX12_cuts RX12) (hT : zNT X) (hR : X.2.2.2.1 = zrm 8 0) (hr : X.2.2.2.2.2.2.2.2.1.sig.returnType = (some .int)) (hn : X.2.2.2.2.2.2.2.2.2.1.maxLocals = 6) {v1 : Int32} {v2 : Int32} {v3 : Int32} {v4 : Int32} {g : zM} {r : Int32 × zM} (hf : fX12_cuts v1 v2 v3 v4 g = some r) : zW X (zQ X (.inl (some (.int r.1), r.2)) 0) 0 0 0 [(0, .ref (zB X + 493)), (1, .int v1), (2, .int v2), (3, .int v3), (4, .int v4)] [] g := by
  unfold fX12_cuts at hf
  refine z_aload_n hX dX12_cuts_0 0 rfl ?_
  refine z_iconst hX dX12_cuts_1 ci_0 ?_
  replace hf := zput_some hf
  obtain ⟨g1, eg1, hf⟩ := hf
  refine gp_Model_thrown hX zq_493 q1494 dX12_cuts_2 (zW.eqg eg1 ?_)
  refine z_aload_n hX dX12_cuts_5 0 rfl ?_
  refine z_aload_n hX dX12_cuts_6 0 rfl ?_
  refine z_iload_n hX dX12_cuts_7 1 rfl ?_
  replace hf := zb_some hf
  obtain ⟨r_2, h2, hf⟩ := hf
  refine z_callV1 hX ok_X12_noLetter q1787 q1789 q68 (zrm_ok hR (by decide)) (ct_X12_noLetter  h2) (zrec_Model hX zq_493) dX12_cuts_8 rfl rfl ?_
  refine zjoin_ok (P := fun (k : Int32 → Option (Int32 × zM)) => ∀ (t0_3 : Int32), k t0_3 = some r → zW X (zQ X (.inl (some (.int r.1), r.2)) 0) 0 0 26 [(0, .ref (zB X + 493)), (1, .int v1), (2, .int v2), (3, .int v3), (4, .int v4)] [.int t0_3, .ref (zB X + 493)] g1) hf (fun t0_3 hf => ?_) (fun k26 hk26 hf => ?_)
  · refine z_iconst hX dX12_cuts_26 ci_1 ?_
    replace hf := zb2_some hf
    obtain ⟨r_4, g4, h4, hf⟩ := hf
    refine z_callV1 hX ok_X12_throwsIf q1775 q1777 q67 (zrm_ok hR (by decide)) (ct_X12_throwsIf  h4) (zrec_Model hX zq_493) dX12_cuts_27 rfl rfl ?_
    refine z_if_ne hX 45 dX12_cuts_30 (by decide) (fun h5 => ?_) (fun h5 => ?_)
    · replace hf := zif_neg h5 hf
      refine z_iconst hX dX12_cuts_45 ci_0 ?_
      obtain rfl := Option.some.inj hf
      exact z_iret hX hr rfl (zl rfl) (zl rfl) dX12_cuts_46
    · replace hf := zif_pos h5 hf
      refine z_aload_n hX dX12_cuts_33 0 rfl ?_
      refine z_iload_n hX dX12_cuts_34 3 rfl ?_
      replace hf := zb_some hf
      obtain ⟨r_6, h6, hf⟩ := hf
      refine z_callS1 hX ok_X12_noAhead rfl q1934 q1935 (zrm_ok hR (by decide)) (ct_X12_noAhead  h6) dX12_cuts_35 rfl rfl ?_
      refine z_iconst hX dX12_cuts_38 ci_2 ?_
      replace hf := zb2_some hf
      obtain ⟨r_7, g7, h7, hf⟩ := hf
      refine z_callV1 hX ok_X12_throwsIf q1775 q1777 q67 (zrm_ok hR (by decide)) (ct_X12_throwsIf  h7) (zrec_Model hX zq_493) dX12_cuts_39 rfl rfl ?_
      refine z_if_eq hX 47 dX12_cuts_42 (by decide) (fun h8 => ?_) (fun h8 => ?_)
      · replace hf := zif_pos h8 hf
        refine z_iconst hX dX12_cuts_47 ci_0 ?_
        refine z_istore (lv' := [(5, .int 0), (0, .ref (zB X + 493)), (1, .int v1), (2, .int v2), (3, .int v3), (4, .int v4)]) hX dX12_cuts_48 hn (by decide) rfl ?_
        refine zW.sub [1, 2, 3, 4, 5, 0] rfl ?_
        exact fX12_cuts_L50_ok hX hT hR hr hn  zFU 0 g7 hf
      · replace hf := zif_neg h8 hf
        refine z_iconst hX dX12_cuts_45 ci_0 ?_
        obtain rfl := Option.some.inj hf
        exact z_iret hX hr rfl (zl rfl) (zl rfl) dX12_cuts_46
  · refine z_if_ne hX 21 dX12_cuts_11 (by decide) (fun h18 => ?_) (fun h18 => ?_)
    · replace hf := zif_neg h18 hf
      refine z_iconst hX dX12_cuts_21 ci_1 ?_
      refine z_goto hX 26 dX12_cuts_22 (by decide) ?_
      exact hk26 1 hf
    · replace hf := zif_pos h18 hf
      refine z_iload_n hX dX12_cuts_14 2 rfl ?_
      replace hf := zb_some hf
      obtain ⟨r_19, h19, hf⟩ := hf
      refine z_callS1 hX ok_X12_noKind rfl q1854 q1855 (zrm_ok hR (by decide)) (ct_X12_noKind  h19) dX12_cuts_15 rfl rfl ?_
      refine z_if_eq hX 25 dX12_cuts_18 (by decide) (fun h20 => ?_) (fun h20 => ?_)
      · replace hf := zif_pos h20 hf
        refine z_iconst hX dX12_cuts_25 ci_0 ?_
        exact hk26 0 hf
      · replace hf := zif_neg h20 hf
        refine z_iconst hX dX12_cuts_21 ci_1 ?_
        refine z_goto hX 26 dX12_cuts_22 (by decide) ?_
        exact hk26 1 hf
set_option maxHeartbeats 4000000 in
set_option maxRecDepth 100000 in
theorem ct_X12_cuts {E : zE} {v1 : Int32} {v2 : Int32} {v3 : Int32} {v4 : Int32} {g : zM} {r : Int32 × zM} (hf : fX12_cuts v1 v2 v3 v4 g = some r) : zCt yX12_cuts cX12_cuts 6 (some .int) 8 0 E [.ref (E.1 + 493), .int v1, .int v2, .int v3, .int v4] g (.inl (some (.int r.1), r.2)) := by
  refine zmet (by decide) (zl rfl) (fun X hE hX hT hR hr hn => ?_)
  subst hE
  exact fX12_cuts_ok hX hT hR hr hn  hf
