def fX2_readInner (rec_readEither : Int32 → zM → Option (Int32 × zM)) (rec_readAtom : Int32 → zM → Option (Int32 × zM)) (v1 : Int32) (v2 : Int32) (g : zM) : Option (Int32 × zM) := zb (fX9_step 434 g) (fun g1 => if v1 = 1140 then zb2 (rec_readEither v2 g1) (fun r_6 g6 => if r_6 = 0 then some (0, g6) else zb2 (fX9_pass 434 1141 g6) (fun r_8 g8 => if r_8 = 0 then some (0, g8) else some (1, g8))) else zb2 (rec_readAtom v2 g1) (fun r_3 g3 => if r_3 = 0 then some (0, g3) else zb (fX1_addCode 439 1008 g3) (fun g5 => some (1, g5))))
set_option maxHeartbeats 4000000 in
set_option maxRecDepth 100000 in
theorem fX2_readInner_ok {d0 : Nat} (hd0 : 20 ≤ d0) {X : zX} (hX : zCX X cX2_readInner RX2) (hT : zNT X) (hR : X.2.2.2.1 = zrm (d0 + 1) 0) (hr : X.2.2.2.2.2.2.2.2.1.sig.returnType = (some .boolean)) (hn : X.2.2.2.2.2.2.2.2.2.1.maxLocals = 3) {rec_readEither : Int32 → zM → Option (Int32 × zM)} {rec_readAtom : Int32 → zM → Option (Int32 × zM)} (hrec_readEither : ∀ (E : zE) (v1 : Int32) (g : zM) (r : Int32 × zM), rec_readEither v1 g = some r → zCt yX2_readEither cX2_readEither 3 (some .boolean) d0 0 E [.ref (E.1 + 433), .int v1] g (.inl (some (.int r.1), r.2))) (hrec_readAtom : ∀ (E : zE) (v1 : Int32) (g : zM) (r : Int32 × zM), rec_readAtom v1 g = some r → zCt yX2_readAtom cX2_readAtom 4 (some .boolean) d0 0 E [.ref (E.1 + 433), .int v1] g (.inl (some (.int r.1), r.2))) {v1 : Int32} {v2 : Int32} {g : zM} {r : Int32 × zM} (hf : fX2_readInner rec_readEither rec_readAtom v1 v2 g = some r) : zW X (zQ X (.inl (some (.int r.1), r.2)) 0) 0 0 0 [(0, .ref (zB X + 433)), (1, .int v1), (2, .int v2)] [] g := by
  unfold fX2_readInner at hf
  refine z_aload_n hX dX2_readInner_0 0 rfl ?_
  refine gf_LawReader_tokens hX zq_433 q370 (z_same hX q371) dX2_readInner_1 ?_
  replace hf := zb_some hf
  obtain ⟨g1, h1, hf⟩ := hf
  refine z_callV0 hX ok_X9_step q776 q768 q769 (zrm_okd hR (by omega)) (ct_X9_step zq_434 h1) (zrec_Tokens hX zq_434) dX2_readInner_4 rfl rfl ?_
  refine z_iload_n hX dX2_readInner_7 1 rfl ?_
  refine z_sipush hX dX2_readInner_8 cs_1140 ?_
  refine z_icmp_ne hX 41 dX2_readInner_11 (by decide) (fun h2 => ?_) (fun h2 => ?_)
  · replace hf := zif_neg h2 hf
    refine z_aload_n hX dX2_readInner_41 0 rfl ?_
    refine z_iload_n hX dX2_readInner_42 2 rfl ?_
    replace hf := zb2_some hf
    obtain ⟨r_3, g3, h3, hf⟩ := hf
    refine z_callV1 hX ok_X2_readAtom q785 q787 q14 (zrm_okd hR (by omega)) (hrec_readAtom _ _ _ _ h3) (zrec_LawReader hX zq_433) dX2_readInner_43 rfl rfl ?_
    refine z_if_ne hX 51 dX2_readInner_46 (by decide) (fun h4 => ?_) (fun h4 => ?_)
    · replace hf := zif_neg h4 hf
      refine z_aload_n hX dX2_readInner_51 0 rfl ?_
      refine gf_LawReader_draft hX zq_433 q389 dX2_readInner_52 ?_
      refine z_sipush hX dX2_readInner_55 cs_1008 ?_
      replace hf := zb_some hf
      obtain ⟨g5, h5, hf⟩ := hf
      refine z_callV0 hX ok_X1_addCode q793 q794 q795 (zrm_okd hR (by omega)) (ct_X1_addCode zq_439 h5) (zrec_Law hX zq_439) dX2_readInner_58 rfl rfl ?_
      refine z_iconst hX dX2_readInner_61 ci_1 ?_
      obtain rfl := Option.some.inj hf
      exact z_iret hX hr (zbn (Or.inr rfl)) (zl rfl) (zl rfl) dX2_readInner_62
    · replace hf := zif_pos h4 hf
      refine z_iconst hX dX2_readInner_49 ci_0 ?_
      obtain rfl := Option.some.inj hf
      exact z_iret hX hr (zbn (Or.inl rfl)) (zl rfl) (zl rfl) dX2_readInner_50
  · replace hf := zif_pos h2 hf
    refine z_aload_n hX dX2_readInner_14 0 rfl ?_
    refine z_iload_n hX dX2_readInner_15 2 rfl ?_
    replace hf := zb2_some hf
    obtain ⟨r_6, g6, h6, hf⟩ := hf
    refine z_callV1 hX ok_X2_readEither q777 q779 q12 (zrm_okd hR (by omega)) (hrec_readEither _ _ _ _ h6) (zrec_LawReader hX zq_433) dX2_readInner_16 rfl rfl ?_
    refine z_if_eq hX 39 dX2_readInner_19 (by decide) (fun h7 => ?_) (fun h7 => ?_)
    · replace hf := zif_pos h7 hf
      refine z_iconst hX dX2_readInner_39 ci_0 ?_
      obtain rfl := Option.some.inj hf
      exact z_iret hX hr (zbn (Or.inl rfl)) (zl rfl) (zl rfl) dX2_readInner_40
    · replace hf := zif_neg h7 hf
      refine z_aload_n hX dX2_readInner_22 0 rfl ?_
      refine gf_LawReader_tokens hX zq_433 q370 (z_same hX q371) dX2_readInner_23 ?_
      refine z_sipush hX dX2_readInner_26 cs_1141 ?_
      replace hf := zb2_some hf
      obtain ⟨r_8, g8, h8, hf⟩ := hf
      refine z_callV1 hX ok_X9_pass q771 q772 q773 (zrm_okd hR (by omega)) (ct_X9_pass zq_434 h8) (zrec_Tokens hX zq_434) dX2_readInner_29 rfl rfl ?_
      refine z_if_eq hX 39 dX2_readInner_32 (by decide) (fun h9 => ?_) (fun h9 => ?_)
      · replace hf := zif_pos h9 hf
        refine z_iconst hX dX2_readInner_39 ci_0 ?_
        obtain rfl := Option.some.inj hf
        exact z_iret hX hr (zbn (Or.inl rfl)) (zl rfl) (zl rfl) dX2_readInner_40
      · replace hf := zif_neg h9 hf
        refine z_iconst hX dX2_readInner_35 ci_1 ?_
        refine z_goto hX 40 dX2_readInner_36 (by decide) ?_
        obtain rfl := Option.some.inj hf
        exact z_iret hX hr (zbn (Or.inr rfl)) (zl rfl) (zl rfl) dX2_readInner_40
set_option maxHeartbeats 4000000 in
set_option maxRecDepth 100000 in
theorem ct_X2_readInner {E : zE} {d0 : Nat} (hd0 : 20 ≤ d0) {rec_readEither : Int32 → zM → Option (Int32 × zM)} {rec_readAtom : Int32 → zM → Option (Int32 × zM)} (hrec_readEither : ∀ (E : zE) (v1 : Int32) (g : zM) (r : Int32 × zM), rec_readEither v1 g = some r → zCt yX2_readEither cX2_readEither 3 (some .boolean) d0 0 E [.ref (E.1 + 433), .int v1] g (.inl (some (.int r.1), r.2))) (hrec_readAtom : ∀ (E : zE) (v1 : Int32) (g : zM) (r : Int32 × zM), rec_readAtom v1 g = some r → zCt yX2_readAtom cX2_readAtom 4 (some .boolean) d0 0 E [.ref (E.1 + 433), .int v1] g (.inl (some (.int r.1), r.2))) {v1 : Int32} {v2 : Int32} {g : zM} {r : Int32 × zM} (hf : fX2_readInner rec_readEither rec_readAtom v1 v2 g = some r) : zCt yX2_readInner cX2_readInner 3 (some .boolean) (d0 + 1) 0 E [.ref (E.1 + 433), .int v1, .int v2] g (.inl (some (.int r.1), r.2)) := by
  refine zmet (by decide) (zl rfl) (fun X hE hX hT hR hr hn => ?_)
  subst hE
  exact fX2_readInner_ok hd0 hX hT hR hr hn hrec_readEither hrec_readAtom hf
def fX2_readSum_L2 (k38 : zM → Option (Int32 × zM)) (k103 : zM → Option (Int32 × zM)) : Nat → Int32 → zM → Option (Int32 × zM)
  | 0, _, _ => none
  | n + 1, v1, g => if 400 ≤ v1 then k103 g else zb (fX9_code 434 g) (fun r_2 => zjoin (if r_2 ≤ 1007 then zb (fX1_addCode 439 r_2 g) (fun g5 => zjoin (fun g6 => zb (fX9_step 434 g6) (fun g7 => zb (fX9_code 434 g7) (fun r_8 => if r_8 = 1143 then zb (fX9_step 434 g7) (fun g10 => fX2_readSum_L2 k38 k103 n (v1 + 1) g10) else some (1, g7))) : zM → Option (Int32 × zM)) (fun k68 => if v1 ≤ 0 then k68 g5 else zb (fX1_addCode 439 1143 g5) (fun g12 => k68 g12))) else k38 g : Option (Int32 × zM)) (fun k31 => if r_2 ≤ 999 then k31 else if r_2 < 1002 then k38 g else k31))
def fX2_readSum (g : zM) : Option (Int32 × zM) := fX2_readSum_L2 (fun g15 => zb2 (fX9_fail 434 g15) (fun r_16 g16 => zbo r_16 (some (r_16, g16)))) (fun g18 => zb2 (fX9_fail 434 g18) (fun r_19 g19 => zbo r_19 (some (r_19, g19)))) zFU 0 g
set_option maxHeartbeats 4000000 in
set_option maxRecDepth 100000 in
theorem fX2_readSum_L2_ok {X : zX} (hX : zCX X cX2_readSum RX2) (hT : zNT X) (hR : X.2.2.2.1 = zrm 1 0) (hr : X.2.2.2.2.2.2.2.2.1.sig.returnType = (some .boolean)) (hn : X.2.2.2.2.2.2.2.2.2.1.maxLocals = 3) {k38 : zM → Option (Int32 × zM)} {k103 : zM → Option (Int32 × zM)} {r : Int32 × zM} (hk38 : ∀ (g : zM), k38 g = some r → zW X (zQ X (.inl (some (.int r.1), r.2)) 0) 0 0 38 [(0, .ref (zB X + 433))] [] g) (hk103 : ∀ (g : zM), k103 g = some r → zW X (zQ X (.inl (some (.int r.1), r.2)) 0) 0 0 103 [(0, .ref (zB X + 433))] [] g) : ∀ (n : Nat) (v1 : Int32) (g : zM), fX2_readSum_L2 k38 k103 n v1 g = some r → zW X (zQ X (.inl (some (.int r.1), r.2)) 0) 0 0 2 [(0, .ref (zB X + 433)), (1, .int v1)] [] g := by
  intro n
  induction n with
  | zero => intro v1 g hf; exact zno hf
  | succ n ih =>
    intro v1 g hf
    rw [fX2_readSum_L2] at hf
    refine z_iload_n hX dX2_readSum_2 1 rfl ?_
    refine z_sipush hX dX2_readSum_3 cs_400 ?_
    refine z_icmp_ge hX 103 dX2_readSum_6 (by decide) (fun h1 => ?_) (fun h1 => ?_)
    · replace hf := zif_pos h1 hf
      refine zW.sub [0] rfl ?_
      exact hk103 g hf
    · replace hf := zif_neg h1 hf
      refine z_aload_n hX dX2_readSum_9 0 rfl ?_
      refine gf_LawReader_tokens hX zq_433 q370 (z_same hX q371) dX2_readSum_10 ?_
      replace hf := zb_some hf
      obtain ⟨r_2, h2, hf⟩ := hf
      refine z_callV1 hX ok_X9_code q775 q742 q743 (zrm_ok hR (by decide)) (ct_X9_code zq_434 h2) (zrec_Tokens hX zq_434) dX2_readSum_13 rfl rfl ?_
      refine z_istore_n (lv' := [(2, .int r_2), (0, .ref (zB X + 433)), (1, .int v1)]) hX dX2_readSum_16 hn (by decide) rfl ?_
      refine z_iload_n hX dX2_readSum_17 0 rfl ?_
      refine z_sipush hX dX2_readSum_18 cs_999 ?_
      refine zjoin_ok (P := fun (k : Option (Int32 × zM)) => k = some r → zW X (zQ X (.inl (some (.int r.1), r.2)) 0) 0 0 31 [(0, .ref (zB X + 433)), (1, .int v1), (2, .int r_2)] [] g) hf (fun hf => ?_) (fun k31 hk31 hf => ?_)
      · refine z_iload_n hX dX2_readSum_31 2 rfl ?_
        refine z_sipush hX dX2_readSum_32 cs_1007 ?_
        refine z_icmp_le hX 46 dX2_readSum_35 (by decide) (fun h4 => ?_) (fun h4 => ?_)
        · replace hf := zif_pos h4 hf
          refine z_aload_n hX dX2_readSum_46 0 rfl ?_
          refine gf_LawReader_draft hX zq_433 q389 dX2_readSum_47 ?_
          refine z_iload_n hX dX2_readSum_50 2 rfl ?_
          replace hf := zb_some hf
          obtain ⟨g5, h5, hf⟩ := hf
          refine z_callV0 hX ok_X1_addCode q793 q794 q795 (zrm_ok hR (by decide)) (ct_X1_addCode zq_439 h5) (zrec_Law hX zq_439) dX2_readSum_51 rfl rfl ?_
          refine z_iload_n hX dX2_readSum_54 1 rfl ?_
          refine zjoin_ok (P := fun (k : zM → Option (Int32 × zM)) => ∀ (g6 : zM), k g6 = some r → zW X (zQ X (.inl (some (.int r.1), r.2)) 0) 0 0 68 [(0, .ref (zB X + 433)), (1, .int v1)] [] g6) hf (fun g6 hf => ?_) (fun k68 hk68 hf => ?_)
          · refine z_aload_n hX dX2_readSum_68 0 rfl ?_
            refine gf_LawReader_tokens hX zq_433 q370 (z_same hX q371) dX2_readSum_69 ?_
            replace hf := zb_some hf
            obtain ⟨g7, h7, hf⟩ := hf
            refine z_callV0 hX ok_X9_step q776 q768 q769 (zrm_ok hR (by decide)) (ct_X9_step zq_434 h7) (zrec_Tokens hX zq_434) dX2_readSum_72 rfl rfl ?_
            refine z_aload_n hX dX2_readSum_75 0 rfl ?_
            refine gf_LawReader_tokens hX zq_433 q370 (z_same hX q371) dX2_readSum_76 ?_
            replace hf := zb_some hf
            obtain ⟨r_8, h8, hf⟩ := hf
            refine z_callV1 hX ok_X9_code q775 q742 q743 (zrm_ok hR (by decide)) (ct_X9_code zq_434 h8) (zrec_Tokens hX zq_434) dX2_readSum_79 rfl rfl ?_
            refine z_sipush hX dX2_readSum_82 cs_1143 ?_
            refine z_icmp_eq hX 90 dX2_readSum_85 (by decide) (fun h9 => ?_) (fun h9 => ?_)
            · replace hf := zif_pos h9 hf
              refine z_aload_n hX dX2_readSum_90 0 rfl ?_
              refine gf_LawReader_tokens hX zq_433 q370 (z_same hX q371) dX2_readSum_91 ?_
              replace hf := zb_some hf
              obtain ⟨g10, h10, hf⟩ := hf
              refine z_callV0 hX ok_X9_step q776 q768 q769 (zrm_ok hR (by decide)) (ct_X9_step zq_434 h10) (zrec_Tokens hX zq_434) dX2_readSum_94 rfl rfl ?_
              refine z_iincc (lv' := [(1, .int (v1 + 1)), (0, .ref (zB X + 433))]) hX dX2_readSum_97 hn (by decide) 1 rfl ci_1 rfl ?_
              refine z_goto hX 2 dX2_readSum_100 (by decide) ?_
              refine zW.sub [1, 0] rfl ?_
              exact ih (v1 + 1) g10 hf
            · replace hf := zif_neg h9 hf
              refine z_iconst hX dX2_readSum_88 ci_1 ?_
              obtain rfl := Option.some.inj hf
              exact z_iret hX hr (zbn (Or.inr rfl)) (zl rfl) (zl rfl) dX2_readSum_89
          · refine z_if_le hX 68 dX2_readSum_55 (by decide) (fun h11 => ?_) (fun h11 => ?_)
            · replace hf := zif_pos h11 hf
              refine zW.sub [0, 1] rfl ?_
              exact hk68 g5 hf
            · replace hf := zif_neg h11 hf
              refine z_aload_n hX dX2_readSum_58 0 rfl ?_
              refine gf_LawReader_draft hX zq_433 q389 dX2_readSum_59 ?_
              refine z_sipush hX dX2_readSum_62 cs_1143 ?_
              replace hf := zb_some hf
              obtain ⟨g12, h12, hf⟩ := hf
              refine z_callV0 hX ok_X1_addCode q793 q794 q795 (zrm_ok hR (by decide)) (ct_X1_addCode zq_439 h12) (zrec_Law hX zq_439) dX2_readSum_65 rfl rfl ?_
              refine zW.sub [0, 1] rfl ?_
              exact hk68 g12 hf
        · replace hf := zif_neg h4 hf
          refine zW.sub [0] rfl ?_
          exact hk38 g hf
      · refine z_icmp_le hX 31 dX2_readSum_21 (by decide) (fun h13 => ?_) (fun h13 => ?_)
        · replace hf := zif_pos h13 hf
          refine zW.sub [1, 2, 0] rfl ?_
          exact hk31 hf
        · replace hf := zif_neg h13 hf
          refine z_iload_n hX dX2_readSum_24 0 rfl ?_
          refine z_sipush hX dX2_readSum_25 cs_1002 ?_
          refine z_icmp_lt hX 38 dX2_readSum_28 (by decide) (fun h14 => ?_) (fun h14 => ?_)
          · replace hf := zif_pos h14 hf
            refine zW.sub [1] rfl ?_
            exact hk38 g hf
          · replace hf := zif_neg h14 hf
            refine zW.sub [1, 2, 0] rfl ?_
            exact hk31 hf
set_option maxHeartbeats 4000000 in
set_option maxRecDepth 100000 in
theorem fX2_readSum_ok {X : zX} (hX : zCX X cX2_readSum RX2) (hT : zNT X) (hR : X.2.2.2.1 = zrm 1 0) (hr : X.2.2.2.2.2.2.2.2.1.sig.returnType = (some .boolean)) (hn : X.2.2.2.2.2.2.2.2.2.1.maxLocals = 3)  {g : zM} {r : Int32 × zM} (hf : fX2_readSum g = some r) : zW X (zQ X (.inl (some (.int r.1), r.2)) 0) 0 0 0 [(0, .ref (zB X + 433))] [] g := by
  unfold fX2_readSum at hf
  refine z_iconst hX dX2_readSum_0 ci_0 ?_
  refine z_istore_n (lv' := [(1, .int 0), (0, .ref (zB X + 433))]) hX dX2_readSum_1 hn (by decide) rfl ?_
  refine zW.sub [1, 0] rfl ?_
  refine fX2_readSum_L2_ok hX hT hR hr hn (fun g15 hf => ?_) (fun g18 hf => ?_) zFU 0 g hf
  · refine z_aload_n hX dX2_readSum_38 0 rfl ?_
    refine gf_LawReader_tokens hX zq_433 q370 (z_same hX q371) dX2_readSum_39 ?_
    replace hf := zb2_some hf
    obtain ⟨r_16, g16, h16, hf⟩ := hf
    refine z_callV1 hX ok_X9_fail q797 q764 q765 (zrm_ok hR (by decide)) (ct_X9_fail zq_434 h16) (zrec_Tokens hX zq_434) dX2_readSum_42 rfl rfl ?_
    replace hf := zbo_some hf
    obtain ⟨h17, hf⟩ := hf
    obtain rfl := Option.some.inj hf
    exact z_iret hX hr (zbn h17) (zl rfl) (zl rfl) dX2_readSum_45
  · refine z_aload_n hX dX2_readSum_103 0 rfl ?_
    refine gf_LawReader_tokens hX zq_433 q370 (z_same hX q371) dX2_readSum_104 ?_
    replace hf := zb2_some hf
    obtain ⟨r_19, g19, h19, hf⟩ := hf
    refine z_callV1 hX ok_X9_fail q797 q764 q765 (zrm_ok hR (by decide)) (ct_X9_fail zq_434 h19) (zrec_Tokens hX zq_434) dX2_readSum_107 rfl rfl ?_
    replace hf := zbo_some hf
    obtain ⟨h20, hf⟩ := hf
    obtain rfl := Option.some.inj hf
    exact z_iret hX hr (zbn h20) (zl rfl) (zl rfl) dX2_readSum_110
set_option maxHeartbeats 4000000 in
set_option maxRecDepth 100000 in
theorem ct_X2_readSum {E : zE} {g : zM} {r : Int32 × zM} (hf : fX2_readSum g = some r) : zCt yX2_readSum cX2_readSum 3 (some .boolean) 1 0 E [.ref (E.1 + 433)] g (.inl (some (.int r.1), r.2)) := by
  refine zmet (by decide) (zl rfl) (fun X hE hX hT hR hr hn => ?_)
  subst hE
  exact fX2_readSum_ok hX hT hR hr hn  hf
def fX2_readAtom (rec_readEither : Int32 → zM → Option (Int32 × zM)) (rec_readAtom : Int32 → zM → Option (Int32 × zM)) (v1 : Int32) (g : zM) : Option (Int32 × zM) := zb (fX9_code 434 g) (fun r_1 => zjoin (if 6 ≤ v1 then zb2 (fX9_fail 434 g) (fun r_4 g4 => zbo r_4 (some (r_4, g4))) else zb2 (fX2_readInner rec_readEither rec_readAtom r_1 (v1 + 1) g) (fun r_6 g6 => zbo r_6 (some (r_6, g6))) : Option (Int32 × zM)) (fun k22 => if r_1 = 1008 then k22 else if r_1 = 1140 then k22 else if r_1 = 1000 then zb (fX1_addCode 439 r_1 g) (fun g11 => zb (fX9_step 434 g11) (fun g12 => some (1, g12))) else if r_1 = 1001 then zb (fX1_addCode 439 r_1 g) (fun g26 => zb (fX9_step 434 g26) (fun g27 => some (1, g27))) else zb2 (fX2_readSum g) (fun r_14 g14 => if r_14 = 0 then some (0, g14) else zb (fX9_code 434 g14) (fun r_16 => zjoin (zb (fX9_step 434 g14) (fun g18 => zb2 (fX2_readSum g18) (fun r_19 g19 => if r_19 = 0 then some (0, g19) else zb (fX1_addCode 439 r_16 g19) (fun g21 => some (1, g21)))) : Option (Int32 × zM)) (fun k117 => if r_16 = 1160 then k117 else if r_16 = 1162 then k117 else zb2 (fX9_fail 434 g14) (fun r_24 g24 => zbo r_24 (some (r_24, g24))))))))
set_option maxHeartbeats 4000000 in
set_option maxRecDepth 100000 in
theorem fX2_readAtom_ok {d0 : Nat} (hd0 : 20 ≤ d0) {X : zX} (hX : zCX X cX2_readAtom RX2) (hT : zNT X) (hR : X.2.2.2.1 = zrm (d0 + 2) 0) (hr : X.2.2.2.2.2.2.2.2.1.sig.returnType = (some .boolean)) (hn : X.2.2.2.2.2.2.2.2.2.1.maxLocals = 4) {rec_readEither : Int32 → zM → Option (Int32 × zM)} {rec_readAtom : Int32 → zM → Option (Int32 × zM)} (hrec_readEither : ∀ (E : zE) (v1 : Int32) (g : zM) (r : Int32 × zM), rec_readEither v1 g = some r → zCt yX2_readEither cX2_readEither 3 (some .boolean) d0 0 E [.ref (E.1 + 433), .int v1] g (.inl (some (.int r.1), r.2))) (hrec_readAtom : ∀ (E : zE) (v1 : Int32) (g : zM) (r : Int32 × zM), rec_readAtom v1 g = some r → zCt yX2_readAtom cX2_readAtom 4 (some .boolean) d0 0 E [.ref (E.1 + 433), .int v1] g (.inl (some (.int r.1), r.2))) {v1 : Int32} {g : zM} {r : Int32 × zM} (hf : fX2_readAtom rec_readEither rec_readAtom v1 g = some r) : zW X (zQ X (.inl (some (.int r.1), r.2)) 0) 0 0 0 [(0, .ref (zB X + 433)), (1, .int v1)] [] g := by
  unfold fX2_readAtom at hf
  refine z_aload_n hX dX2_readAtom_0 0 rfl ?_
  refine gf_LawReader_tokens hX zq_433 q370 (z_same hX q371) dX2_readAtom_1 ?_
  replace hf := zb_some hf
  obtain ⟨r_1, h1, hf⟩ := hf
  refine z_callV1 hX ok_X9_code q775 q742 q743 (zrm_okd hR (by omega)) (ct_X9_code zq_434 h1) (zrec_Tokens hX zq_434) dX2_readAtom_4 rfl rfl ?_
  refine z_istore_n (lv' := [(2, .int r_1), (0, .ref (zB X + 433)), (1, .int v1)]) hX dX2_readAtom_7 hn (by decide) rfl ?_
  refine z_iload_n hX dX2_readAtom_8 0 rfl ?_
  refine z_sipush hX dX2_readAtom_9 cs_1008 ?_
  refine zjoin_ok (P := fun (k : Option (Int32 × zM)) => k = some r → zW X (zQ X (.inl (some (.int r.1), r.2)) 0) 0 0 22 [(0, .ref (zB X + 433)), (1, .int v1), (2, .int r_1)] [] g) hf (fun hf => ?_) (fun k22 hk22 hf => ?_)
  · refine z_iload_n hX dX2_readAtom_22 1 rfl ?_
    refine z_bipush hX dX2_readAtom_23 cb_6 ?_
    refine z_icmp_ge hX 39 dX2_readAtom_25 (by decide) (fun h3 => ?_) (fun h3 => ?_)
    · replace hf := zif_pos h3 hf
      refine z_aload_n hX dX2_readAtom_39 0 rfl ?_
      refine gf_LawReader_tokens hX zq_433 q370 (z_same hX q371) dX2_readAtom_40 ?_
      replace hf := zb2_some hf
      obtain ⟨r_4, g4, h4, hf⟩ := hf
      refine z_callV1 hX ok_X9_fail q797 q764 q765 (zrm_okd hR (by omega)) (ct_X9_fail zq_434 h4) (zrec_Tokens hX zq_434) dX2_readAtom_43 rfl rfl ?_
      replace hf := zbo_some hf
      obtain ⟨h5, hf⟩ := hf
      obtain rfl := Option.some.inj hf
      exact z_iret hX hr (zbn h5) (zl rfl) (zl rfl) dX2_readAtom_46
    · replace hf := zif_neg h3 hf
      refine z_aload_n hX dX2_readAtom_28 0 rfl ?_
      refine z_iload_n hX dX2_readAtom_29 2 rfl ?_
      refine z_iload_n hX dX2_readAtom_30 1 rfl ?_
      refine z_iconst hX dX2_readAtom_31 ci_1 ?_
      refine z_iadd hX dX2_readAtom_32 ?_
      replace hf := zb2_some hf
      obtain ⟨r_6, g6, h6, hf⟩ := hf
      refine z_callV1 hX ok_X2_readInner q789 q791 q15 (zrm_okd hR (by omega)) (ct_X2_readInner hd0 hrec_readEither hrec_readAtom  h6) (zrec_LawReader hX zq_433) dX2_readAtom_33 rfl rfl ?_
      refine z_goto hX 46 dX2_readAtom_36 (by decide) ?_
      replace hf := zbo_some hf
      obtain ⟨h7, hf⟩ := hf
      obtain rfl := Option.some.inj hf
      exact z_iret hX hr (zbn h7) (zl rfl) (zl rfl) dX2_readAtom_46
  · refine z_icmp_eq hX 22 dX2_readAtom_12 (by decide) (fun h8 => ?_) (fun h8 => ?_)
    · replace hf := zif_pos h8 hf
      refine zW.sub [1, 2, 0] rfl ?_
      exact hk22 hf
    · replace hf := zif_neg h8 hf
      refine z_iload_n hX dX2_readAtom_15 0 rfl ?_
      refine z_sipush hX dX2_readAtom_16 cs_1140 ?_
      refine z_icmp_ne hX 47 dX2_readAtom_19 (by decide) (fun h9 => ?_) (fun h9 => ?_)
      · replace hf := zif_neg h9 hf
        refine z_iload_n hX dX2_readAtom_47 0 rfl ?_
        refine z_sipush hX dX2_readAtom_48 cs_1000 ?_
        refine z_icmp_eq hX 61 dX2_readAtom_51 (by decide) (fun h10 => ?_) (fun h10 => ?_)
        · replace hf := zif_pos h10 hf
          refine z_aload_n hX dX2_readAtom_61 1 rfl ?_
          refine gf_LawReader_draft hX zq_433 q389 dX2_readAtom_62 ?_
          refine z_iload_n hX dX2_readAtom_65 0 rfl ?_
          replace hf := zb_some hf
          obtain ⟨g11, h11, hf⟩ := hf
          refine z_callV0 hX ok_X1_addCode q793 q794 q795 (zrm_okd hR (by omega)) (ct_X1_addCode zq_439 h11) (zrec_Law hX zq_439) dX2_readAtom_66 rfl rfl ?_
          refine z_aload_n hX dX2_readAtom_69 1 rfl ?_
          refine gf_LawReader_tokens hX zq_433 q370 (z_same hX q371) dX2_readAtom_70 ?_
          replace hf := zb_some hf
          obtain ⟨g12, h12, hf⟩ := hf
          refine z_callV0 hX ok_X9_step q776 q768 q769 (zrm_okd hR (by omega)) (ct_X9_step zq_434 h12) (zrec_Tokens hX zq_434) dX2_readAtom_73 rfl rfl ?_
          refine z_iconst hX dX2_readAtom_76 ci_1 ?_
          obtain rfl := Option.some.inj hf
          exact z_iret hX hr (zbn (Or.inr rfl)) (zl rfl) (zl rfl) dX2_readAtom_77
        · replace hf := zif_neg h10 hf
          refine z_iload_n hX dX2_readAtom_54 0 rfl ?_
          refine z_sipush hX dX2_readAtom_55 cs_1001 ?_
          refine z_icmp_ne hX 78 dX2_readAtom_58 (by decide) (fun h13 => ?_) (fun h13 => ?_)
          · replace hf := zif_neg h13 hf
            refine z_aload_n hX dX2_readAtom_78 1 rfl ?_
            replace hf := zb2_some hf
            obtain ⟨r_14, g14, h14, hf⟩ := hf
            refine z_callV1 hX ok_X2_readSum q798 q800 q16 (zrm_okd hR (by omega)) (ct_X2_readSum  h14) (zrec_LawReader hX zq_433) dX2_readAtom_79 rfl rfl ?_
            refine z_if_ne hX 87 dX2_readAtom_82 (by decide) (fun h15 => ?_) (fun h15 => ?_)
            · replace hf := zif_neg h15 hf
              refine z_aload_n hX dX2_readAtom_87 1 rfl ?_
              refine gf_LawReader_tokens hX zq_433 q370 (z_same hX q371) dX2_readAtom_88 ?_
              replace hf := zb_some hf
              obtain ⟨r_16, h16, hf⟩ := hf
              refine z_callV1 hX ok_X9_code q775 q742 q743 (zrm_okd hR (by omega)) (ct_X9_code zq_434 h16) (zrec_Tokens hX zq_434) dX2_readAtom_91 rfl rfl ?_
              refine z_istore_n (lv' := [(3, .int r_16), (2, .int r_1), (0, .ref (zB X + 433)), (1, .int v1)]) hX dX2_readAtom_94 hn (by decide) rfl ?_
              refine z_iload_n hX dX2_readAtom_95 0 rfl ?_
              refine z_sipush hX dX2_readAtom_96 cs_1160 ?_
              refine zjoin_ok (P := fun (k : Option (Int32 × zM)) => k = some r → zW X (zQ X (.inl (some (.int r.1), r.2)) 0) 0 0 117 [(0, .ref (zB X + 433)), (3, .int r_16)] [] g14) hf (fun hf => ?_) (fun k117 hk117 hf => ?_)
              · refine z_aload_n hX dX2_readAtom_117 0 rfl ?_
                refine gf_LawReader_tokens hX zq_433 q370 (z_same hX q371) dX2_readAtom_118 ?_
                replace hf := zb_some hf
                obtain ⟨g18, h18, hf⟩ := hf
                refine z_callV0 hX ok_X9_step q776 q768 q769 (zrm_okd hR (by omega)) (ct_X9_step zq_434 h18) (zrec_Tokens hX zq_434) dX2_readAtom_121 rfl rfl ?_
                refine z_aload_n hX dX2_readAtom_124 0 rfl ?_
                replace hf := zb2_some hf
                obtain ⟨r_19, g19, h19, hf⟩ := hf
                refine z_callV1 hX ok_X2_readSum q798 q800 q16 (zrm_okd hR (by omega)) (ct_X2_readSum  h19) (zrec_LawReader hX zq_433) dX2_readAtom_125 rfl rfl ?_
                refine z_if_ne hX 133 dX2_readAtom_128 (by decide) (fun h20 => ?_) (fun h20 => ?_)
                · replace hf := zif_neg h20 hf
                  refine z_aload_n hX dX2_readAtom_133 0 rfl ?_
                  refine gf_LawReader_draft hX zq_433 q389 dX2_readAtom_134 ?_
                  refine z_iload_n hX dX2_readAtom_137 1 rfl ?_
                  replace hf := zb_some hf
                  obtain ⟨g21, h21, hf⟩ := hf
                  refine z_callV0 hX ok_X1_addCode q793 q794 q795 (zrm_okd hR (by omega)) (ct_X1_addCode zq_439 h21) (zrec_Law hX zq_439) dX2_readAtom_138 rfl rfl ?_
                  refine z_iconst hX dX2_readAtom_141 ci_1 ?_
                  obtain rfl := Option.some.inj hf
                  exact z_iret hX hr (zbn (Or.inr rfl)) (zl rfl) (zl rfl) dX2_readAtom_142
                · replace hf := zif_pos h20 hf
                  refine z_iconst hX dX2_readAtom_131 ci_0 ?_
                  obtain rfl := Option.some.inj hf
                  exact z_iret hX hr (zbn (Or.inl rfl)) (zl rfl) (zl rfl) dX2_readAtom_132
              · refine z_icmp_eq hX 117 dX2_readAtom_99 (by decide) (fun h22 => ?_) (fun h22 => ?_)
                · replace hf := zif_pos h22 hf
                  refine zW.sub [2, 0] rfl ?_
                  exact hk117 hf
                · replace hf := zif_neg h22 hf
                  refine z_iload_n hX dX2_readAtom_102 0 rfl ?_
                  refine z_sipush hX dX2_readAtom_103 cs_1162 ?_
                  refine z_icmp_eq hX 117 dX2_readAtom_106 (by decide) (fun h23 => ?_) (fun h23 => ?_)
                  · replace hf := zif_pos h23 hf
                    refine zW.sub [2, 0] rfl ?_
                    exact hk117 hf
                  · replace hf := zif_neg h23 hf
                    refine z_aload_n hX dX2_readAtom_109 2 rfl ?_
                    refine gf_LawReader_tokens hX zq_433 q370 (z_same hX q371) dX2_readAtom_110 ?_
                    replace hf := zb2_some hf
                    obtain ⟨r_24, g24, h24, hf⟩ := hf
                    refine z_callV1 hX ok_X9_fail q797 q764 q765 (zrm_okd hR (by omega)) (ct_X9_fail zq_434 h24) (zrec_Tokens hX zq_434) dX2_readAtom_113 rfl rfl ?_
                    replace hf := zbo_some hf
                    obtain ⟨h25, hf⟩ := hf
                    obtain rfl := Option.some.inj hf
                    exact z_iret hX hr (zbn h25) (zl rfl) (zl rfl) dX2_readAtom_116
            · replace hf := zif_pos h15 hf
              refine z_iconst hX dX2_readAtom_85 ci_0 ?_
              obtain rfl := Option.some.inj hf
              exact z_iret hX hr (zbn (Or.inl rfl)) (zl rfl) (zl rfl) dX2_readAtom_86
          · replace hf := zif_pos h13 hf
            refine z_aload_n hX dX2_readAtom_61 1 rfl ?_
            refine gf_LawReader_draft hX zq_433 q389 dX2_readAtom_62 ?_
            refine z_iload_n hX dX2_readAtom_65 0 rfl ?_
            replace hf := zb_some hf
            obtain ⟨g26, h26, hf⟩ := hf
            refine z_callV0 hX ok_X1_addCode q793 q794 q795 (zrm_okd hR (by omega)) (ct_X1_addCode zq_439 h26) (zrec_Law hX zq_439) dX2_readAtom_66 rfl rfl ?_
            refine z_aload_n hX dX2_readAtom_69 1 rfl ?_
            refine gf_LawReader_tokens hX zq_433 q370 (z_same hX q371) dX2_readAtom_70 ?_
            replace hf := zb_some hf
            obtain ⟨g27, h27, hf⟩ := hf
            refine z_callV0 hX ok_X9_step q776 q768 q769 (zrm_okd hR (by omega)) (ct_X9_step zq_434 h27) (zrec_Tokens hX zq_434) dX2_readAtom_73 rfl rfl ?_
            refine z_iconst hX dX2_readAtom_76 ci_1 ?_
            obtain rfl := Option.some.inj hf
            exact z_iret hX hr (zbn (Or.inr rfl)) (zl rfl) (zl rfl) dX2_readAtom_77
      · replace hf := zif_pos h9 hf
        refine zW.sub [1, 2, 0] rfl ?_
        exact hk22 hf
set_option maxHeartbeats 4000000 in
set_option maxRecDepth 100000 in
theorem ct_X2_readAtom {E : zE} {d0 : Nat} (hd0 : 20 ≤ d0) {rec_readEither : Int32 → zM → Option (Int32 × zM)} {rec_readAtom : Int32 → zM → Option (Int32 × zM)} (hrec_readEither : ∀ (E : zE) (v1 : Int32) (g : zM) (r : Int32 × zM), rec_readEither v1 g = some r → zCt yX2_readEither cX2_readEither 3 (some .boolean) d0 0 E [.ref (E.1 + 433), .int v1] g (.inl (some (.int r.1), r.2))) (hrec_readAtom : ∀ (E : zE) (v1 : Int32) (g : zM) (r : Int32 × zM), rec_readAtom v1 g = some r → zCt yX2_readAtom cX2_readAtom 4 (some .boolean) d0 0 E [.ref (E.1 + 433), .int v1] g (.inl (some (.int r.1), r.2))) {v1 : Int32} {g : zM} {r : Int32 × zM} (hf : fX2_readAtom rec_readEither rec_readAtom v1 g = some r) : zCt yX2_readAtom cX2_readAtom 4 (some .boolean) (d0 + 2) 0 E [.ref (E.1 + 433), .int v1] g (.inl (some (.int r.1), r.2)) := by
  refine zmet (by decide) (zl rfl) (fun X hE hX hT hR hr hn => ?_)
  subst hE
  exact fX2_readAtom_ok hd0 hX hT hR hr hn hrec_readEither hrec_readAtom hf
def fX2_readAll_L2 (rec_readEither : Int32 → zM → Option (Int32 × zM)) (rec_readAtom : Int32 → zM → Option (Int32 × zM)) (v1 : Int32) (k61 : zM → Option (Int32 × zM)) : Nat → Int32 → zM → Option (Int32 × zM)
  | 0, _, _ => none
  | n + 1, v2, g => if 400 ≤ v2 then k61 g else zb2 (rec_readAtom v1 g) (fun r_2 g2 => if r_2 = 0 then some (0, g2) else zjoin (fun g4 => zb (fX9_code 434 g4) (fun r_5 => if r_5 = 1009 then zb (fX9_step 434 g4) (fun g7 => fX2_readAll_L2 rec_readEither rec_readAtom v1 k61 n (v2 + 1) g7) else some (1, g4)) : zM → Option (Int32 × zM)) (fun k33 => if v2 ≤ 0 then k33 g2 else zb (fX1_addCode 439 1009 g2) (fun g9 => k33 g9)))
def fX2_readAll (rec_readEither : Int32 → zM → Option (Int32 × zM)) (rec_readAtom : Int32 → zM → Option (Int32 × zM)) (v1 : Int32) (g : zM) : Option (Int32 × zM) := fX2_readAll_L2 rec_readEither rec_readAtom v1 (fun g10 => zb2 (fX9_fail 434 g10) (fun r_11 g11 => zbo r_11 (some (r_11, g11)))) zFU 0 g
set_option maxHeartbeats 4000000 in
set_option maxRecDepth 100000 in
theorem fX2_readAll_L2_ok {d0 : Nat} (hd0 : 20 ≤ d0) {X : zX} (hX : zCX X cX2_readAll RX2) (hT : zNT X) (hR : X.2.2.2.1 = zrm (d0 + 1) 0) (hr : X.2.2.2.2.2.2.2.2.1.sig.returnType = (some .boolean)) (hn : X.2.2.2.2.2.2.2.2.2.1.maxLocals = 3) {rec_readEither : Int32 → zM → Option (Int32 × zM)} {rec_readAtom : Int32 → zM → Option (Int32 × zM)} (hrec_readEither : ∀ (E : zE) (v1 : Int32) (g : zM) (r : Int32 × zM), rec_readEither v1 g = some r → zCt yX2_readEither cX2_readEither 3 (some .boolean) d0 0 E [.ref (E.1 + 433), .int v1] g (.inl (some (.int r.1), r.2))) (hrec_readAtom : ∀ (E : zE) (v1 : Int32) (g : zM) (r : Int32 × zM), rec_readAtom v1 g = some r → zCt yX2_readAtom cX2_readAtom 4 (some .boolean) d0 0 E [.ref (E.1 + 433), .int v1] g (.inl (some (.int r.1), r.2))) {v1 : Int32} {k61 : zM → Option (Int32 × zM)} {r : Int32 × zM} (hk61 : ∀ (g : zM), k61 g = some r → zW X (zQ X (.inl (some (.int r.1), r.2)) 0) 0 0 61 [(0, .ref (zB X + 433))] [] g) : ∀ (n : Nat) (v2 : Int32) (g : zM), fX2_readAll_L2 rec_readEither rec_readAtom v1 k61 n v2 g = some r → zW X (zQ X (.inl (some (.int r.1), r.2)) 0) 0 0 2 [(0, .ref (zB X + 433)), (1, .int v1), (2, .int v2)] [] g := by
  intro n
  induction n with
  | zero => intro v2 g hf; exact zno hf
  | succ n ih =>
    intro v2 g hf
    rw [fX2_readAll_L2] at hf
    refine z_iload_n hX dX2_readAll_2 2 rfl ?_
    refine z_sipush hX dX2_readAll_3 cs_400 ?_
    refine z_icmp_ge hX 61 dX2_readAll_6 (by decide) (fun h1 => ?_) (fun h1 => ?_)
    · replace hf := zif_pos h1 hf
      refine zW.sub [0] rfl ?_
      exact hk61 g hf
    · replace hf := zif_neg h1 hf
      refine z_aload_n hX dX2_readAll_9 0 rfl ?_
      refine z_iload_n hX dX2_readAll_10 1 rfl ?_
      replace hf := zb2_some hf
      obtain ⟨r_2, g2, h2, hf⟩ := hf
      refine z_callV1 hX ok_X2_readAtom q785 q787 q14 (zrm_okd hR (by omega)) (hrec_readAtom _ _ _ _ h2) (zrec_LawReader hX zq_433) dX2_readAll_11 rfl rfl ?_
      refine z_if_ne hX 19 dX2_readAll_14 (by decide) (fun h3 => ?_) (fun h3 => ?_)
      · replace hf := zif_neg h3 hf
        refine z_iload_n hX dX2_readAll_19 2 rfl ?_
        refine zjoin_ok (P := fun (k : zM → Option (Int32 × zM)) => ∀ (g4 : zM), k g4 = some r → zW X (zQ X (.inl (some (.int r.1), r.2)) 0) 0 0 33 [(0, .ref (zB X + 433)), (1, .int v1), (2, .int v2)] [] g4) hf (fun g4 hf => ?_) (fun k33 hk33 hf => ?_)
        · refine z_aload_n hX dX2_readAll_33 0 rfl ?_
          refine gf_LawReader_tokens hX zq_433 q370 (z_same hX q371) dX2_readAll_34 ?_
          replace hf := zb_some hf
          obtain ⟨r_5, h5, hf⟩ := hf
          refine z_callV1 hX ok_X9_code q775 q742 q743 (zrm_okd hR (by omega)) (ct_X9_code zq_434 h5) (zrec_Tokens hX zq_434) dX2_readAll_37 rfl rfl ?_
          refine z_sipush hX dX2_readAll_40 cs_1009 ?_
          refine z_icmp_eq hX 48 dX2_readAll_43 (by decide) (fun h6 => ?_) (fun h6 => ?_)
          · replace hf := zif_pos h6 hf
            refine z_aload_n hX dX2_readAll_48 0 rfl ?_
            refine gf_LawReader_tokens hX zq_433 q370 (z_same hX q371) dX2_readAll_49 ?_
            replace hf := zb_some hf
            obtain ⟨g7, h7, hf⟩ := hf
            refine z_callV0 hX ok_X9_step q776 q768 q769 (zrm_okd hR (by omega)) (ct_X9_step zq_434 h7) (zrec_Tokens hX zq_434) dX2_readAll_52 rfl rfl ?_
            refine z_iincc (lv' := [(2, .int (v2 + 1)), (0, .ref (zB X + 433)), (1, .int v1)]) hX dX2_readAll_55 hn (by decide) 2 rfl ci_1 rfl ?_
            refine z_goto hX 2 dX2_readAll_58 (by decide) ?_
            refine zW.sub [1, 2, 0] rfl ?_
            exact ih (v2 + 1) g7 hf
          · replace hf := zif_neg h6 hf
            refine z_iconst hX dX2_readAll_46 ci_1 ?_
            obtain rfl := Option.some.inj hf
            exact z_iret hX hr (zbn (Or.inr rfl)) (zl rfl) (zl rfl) dX2_readAll_47
        · refine z_if_le hX 33 dX2_readAll_20 (by decide) (fun h8 => ?_) (fun h8 => ?_)
          · replace hf := zif_pos h8 hf
            exact hk33 g2 hf
          · replace hf := zif_neg h8 hf
            refine z_aload_n hX dX2_readAll_23 0 rfl ?_
            refine gf_LawReader_draft hX zq_433 q389 dX2_readAll_24 ?_
            refine z_sipush hX dX2_readAll_27 cs_1009 ?_
            replace hf := zb_some hf
            obtain ⟨g9, h9, hf⟩ := hf
            refine z_callV0 hX ok_X1_addCode q793 q794 q795 (zrm_okd hR (by omega)) (ct_X1_addCode zq_439 h9) (zrec_Law hX zq_439) dX2_readAll_30 rfl rfl ?_
            exact hk33 g9 hf
      · replace hf := zif_pos h3 hf
        refine z_iconst hX dX2_readAll_17 ci_0 ?_
        obtain rfl := Option.some.inj hf
        exact z_iret hX hr (zbn (Or.inl rfl)) (zl rfl) (zl rfl) dX2_readAll_18
set_option maxHeartbeats 4000000 in
set_option maxRecDepth 100000 in
theorem fX2_readAll_ok {d0 : Nat} (hd0 : 20 ≤ d0) {X : zX} (hX : zCX X cX2_readAll RX2) (hT : zNT X) (hR : X.2.2.2.1 = zrm (d0 + 1) 0) (hr : X.2.2.2.2.2.2.2.2.1.sig.returnType = (some .boolean)) (hn : X.2.2.2.2.2.2.2.2.2.1.maxLocals = 3) {rec_readEither : Int32 → zM → Option (Int32 × zM)} {rec_readAtom : Int32 → zM → Option (Int32 × zM)} (hrec_readEither : ∀ (E : zE) (v1 : Int32) (g : zM) (r : Int32 × zM), rec_readEither v1 g = some r → zCt yX2_readEither cX2_readEither 3 (some .boolean) d0 0 E [.ref (E.1 + 433), .int v1] g (.inl (some (.int r.1), r.2))) (hrec_readAtom : ∀ (E : zE) (v1 : Int32) (g : zM) (r : Int32 × zM), rec_readAtom v1 g = some r → zCt yX2_readAtom cX2_readAtom 4 (some .boolean) d0 0 E [.ref (E.1 + 433), .int v1] g (.inl (some (.int r.1), r.2))) {v1 : Int32} {g : zM} {r : Int32 × zM} (hf : fX2_readAll rec_readEither rec_readAtom v1 g = some r) : zW X (zQ X (.inl (some (.int r.1), r.2)) 0) 0 0 0 [(0, .ref (zB X + 433)), (1, .int v1)] [] g := by
  unfold fX2_readAll at hf
  refine z_iconst hX dX2_readAll_0 ci_0 ?_
  refine z_istore_n (lv' := [(2, .int 0), (0, .ref (zB X + 433)), (1, .int v1)]) hX dX2_readAll_1 hn (by decide) rfl ?_
  refine zW.sub [1, 2, 0] rfl ?_
  refine fX2_readAll_L2_ok hd0 hX hT hR hr hn hrec_readEither hrec_readAtom (fun g10 hf => ?_) zFU 0 g hf
  · refine z_aload_n hX dX2_readAll_61 0 rfl ?_
    refine gf_LawReader_tokens hX zq_433 q370 (z_same hX q371) dX2_readAll_62 ?_
    replace hf := zb2_some hf
    obtain ⟨r_11, g11, h11, hf⟩ := hf
    refine z_callV1 hX ok_X9_fail q797 q764 q765 (zrm_okd hR (by omega)) (ct_X9_fail zq_434 h11) (zrec_Tokens hX zq_434) dX2_readAll_65 rfl rfl ?_
    replace hf := zbo_some hf
    obtain ⟨h12, hf⟩ := hf
    obtain rfl := Option.some.inj hf
    exact z_iret hX hr (zbn h12) (zl rfl) (zl rfl) dX2_readAll_68
set_option maxHeartbeats 4000000 in
set_option maxRecDepth 100000 in
theorem ct_X2_readAll {E : zE} {d0 : Nat} (hd0 : 20 ≤ d0) {rec_readEither : Int32 → zM → Option (Int32 × zM)} {rec_readAtom : Int32 → zM → Option (Int32 × zM)} (hrec_readEither : ∀ (E : zE) (v1 : Int32) (g : zM) (r : Int32 × zM), rec_readEither v1 g = some r → zCt yX2_readEither cX2_readEither 3 (some .boolean) d0 0 E [.ref (E.1 + 433), .int v1] g (.inl (some (.int r.1), r.2))) (hrec_readAtom : ∀ (E : zE) (v1 : Int32) (g : zM) (r : Int32 × zM), rec_readAtom v1 g = some r → zCt yX2_readAtom cX2_readAtom 4 (some .boolean) d0 0 E [.ref (E.1 + 433), .int v1] g (.inl (some (.int r.1), r.2))) {v1 : Int32} {g : zM} {r : Int32 × zM} (hf : fX2_readAll rec_readEither rec_readAtom v1 g = some r) : zCt yX2_readAll cX2_readAll 3 (some .boolean) (d0 + 1) 0 E [.ref (E.1 + 433), .int v1] g (.inl (some (.int r.1), r.2)) := by
  refine zmet (by decide) (zl rfl) (fun X hE hX hT hR hr hn => ?_)
  subst hE
  exact fX2_readAll_ok hd0 hX hT hR hr hn hrec_readEither hrec_readAtom hf
def fX2_readEither_L2 (rec_readEither : Int32 → zM → Option (Int32 × zM)) (rec_readAtom : Int32 → zM → Option (Int32 × zM)) (v1 : Int32) (k61 : zM → Option (Int32 × zM)) : Nat → Int32 → zM → Option (Int32 × zM)
  | 0, _, _ => none
  | n + 1, v2, g => if 400 ≤ v2 then k61 g else zb2 (fX2_readAll rec_readEither rec_readAtom v1 g) (fun r_2 g2 => if r_2 = 0 then some (0, g2) else zjoin (fun g4 => zb (fX9_code 434 g4) (fun r_5 => if r_5 = 1010 then zb (fX9_step 434 g4) (fun g7 => fX2_readEither_L2 rec_readEither rec_readAtom v1 k61 n (v2 + 1) g7) else some (1, g4)) : zM → Option (Int32 × zM)) (fun k33 => if v2 ≤ 0 then k33 g2 else zb (fX1_addCode 439 1010 g2) (fun g9 => k33 g9)))
def fX2_readEither (rec_readEither : Int32 → zM → Option (Int32 × zM)) (rec_readAtom : Int32 → zM → Option (Int32 × zM)) (v1 : Int32) (g : zM) : Option (Int32 × zM) := fX2_readEither_L2 rec_readEither rec_readAtom v1 (fun g10 => zb2 (fX9_fail 434 g10) (fun r_11 g11 => zbo r_11 (some (r_11, g11)))) zFU 0 g
set_option maxHeartbeats 4000000 in
set_option maxRecDepth 100000 in
theorem fX2_readEither_L2_ok {d0 : Nat} (hd0 : 20 ≤ d0) {X : zX} (hX : zCX X cX2_readEither RX2) (hT : zNT X) (hR : X.2.2.2.1 = zrm (d0 + 2) 0) (hr : X.2.2.2.2.2.2.2.2.1.sig.returnType = (some .boolean)) (hn : X.2.2.2.2.2.2.2.2.2.1.maxLocals = 3) {rec_readEither : Int32 → zM → Option (Int32 × zM)} {rec_readAtom : Int32 → zM → Option (Int32 × zM)} (hrec_readEither : ∀ (E : zE) (v1 : Int32) (g : zM) (r : Int32 × zM), rec_readEither v1 g = some r → zCt yX2_readEither cX2_readEither 3 (some .boolean) d0 0 E [.ref (E.1 + 433), .int v1] g (.inl (some (.int r.1), r.2))) (hrec_readAtom : ∀ (E : zE) (v1 : Int32) (g : zM) (r : Int32 × zM), rec_readAtom v1 g = some r → zCt yX2_readAtom cX2_readAtom 4 (some .boolean) d0 0 E [.ref (E.1 + 433), .int v1] g (.inl (some (.int r.1), r.2))) {v1 : Int32} {k61 : zM → Option (Int32 × zM)} {r : Int32 × zM} (hk61 : ∀ (g : zM), k61 g = some r → zW X (zQ X (.inl (some (.int r.1), r.2)) 0) 0 0 61 [(0, .ref (zB X + 433))] [] g) : ∀ (n : Nat) (v2 : Int32) (g : zM), fX2_readEither_L2 rec_readEither rec_readAtom v1 k61 n v2 g = some r → zW X (zQ X (.inl (some (.int r.1), r.2)) 0) 0 0 2 [(0, .ref (zB X + 433)), (1, .int v1), (2, .int v2)] [] g := by
  intro n
  induction n with
  | zero => intro v2 g hf; exact zno hf
  | succ n ih =>
    intro v2 g hf
    rw [fX2_readEither_L2] at hf
    refine z_iload_n hX dX2_readEither_2 2 rfl ?_
    refine z_sipush hX dX2_readEither_3 cs_400 ?_
    refine z_icmp_ge hX 61 dX2_readEither_6 (by decide) (fun h1 => ?_) (fun h1 => ?_)
    · replace hf := zif_pos h1 hf
      refine zW.sub [0] rfl ?_
      exact hk61 g hf
    · replace hf := zif_neg h1 hf
      refine z_aload_n hX dX2_readEither_9 0 rfl ?_
      refine z_iload_n hX dX2_readEither_10 1 rfl ?_
      replace hf := zb2_some hf
      obtain ⟨r_2, g2, h2, hf⟩ := hf
      refine z_callV1 hX ok_X2_readAll q781 q783 q13 (zrm_okd hR (by omega)) (ct_X2_readAll hd0 hrec_readEither hrec_readAtom  h2) (zrec_LawReader hX zq_433) dX2_readEither_11 rfl rfl ?_
      refine z_if_ne hX 19 dX2_readEither_14 (by decide) (fun h3 => ?_) (fun h3 => ?_)
      · replace hf := zif_neg h3 hf
        refine z_iload_n hX dX2_readEither_19 2 rfl ?_
        refine zjoin_ok (P := fun (k : zM → Option (Int32 × zM)) => ∀ (g4 : zM), k g4 = some r → zW X (zQ X (.inl (some (.int r.1), r.2)) 0) 0 0 33 [(0, .ref (zB X + 433)), (1, .int v1), (2, .int v2)] [] g4) hf (fun g4 hf => ?_) (fun k33 hk33 hf => ?_)
        · refine z_aload_n hX dX2_readEither_33 0 rfl ?_
          refine gf_LawReader_tokens hX zq_433 q370 (z_same hX q371) dX2_readEither_34 ?_
          replace hf := zb_some hf
          obtain ⟨r_5, h5, hf⟩ := hf
          refine z_callV1 hX ok_X9_code q775 q742 q743 (zrm_okd hR (by omega)) (ct_X9_code zq_434 h5) (zrec_Tokens hX zq_434) dX2_readEither_37 rfl rfl ?_
          refine z_sipush hX dX2_readEither_40 cs_1010 ?_
          refine z_icmp_eq hX 48 dX2_readEither_43 (by decide) (fun h6 => ?_) (fun h6 => ?_)
          · replace hf := zif_pos h6 hf
            refine z_aload_n hX dX2_readEither_48 0 rfl ?_
            refine gf_LawReader_tokens hX zq_433 q370 (z_same hX q371) dX2_readEither_49 ?_
            replace hf := zb_some hf
            obtain ⟨g7, h7, hf⟩ := hf
            refine z_callV0 hX ok_X9_step q776 q768 q769 (zrm_okd hR (by omega)) (ct_X9_step zq_434 h7) (zrec_Tokens hX zq_434) dX2_readEither_52 rfl rfl ?_
            refine z_iincc (lv' := [(2, .int (v2 + 1)), (0, .ref (zB X + 433)), (1, .int v1)]) hX dX2_readEither_55 hn (by decide) 2 rfl ci_1 rfl ?_
            refine z_goto hX 2 dX2_readEither_58 (by decide) ?_
            refine zW.sub [1, 2, 0] rfl ?_
            exact ih (v2 + 1) g7 hf
          · replace hf := zif_neg h6 hf
            refine z_iconst hX dX2_readEither_46 ci_1 ?_
            obtain rfl := Option.some.inj hf
            exact z_iret hX hr (zbn (Or.inr rfl)) (zl rfl) (zl rfl) dX2_readEither_47
        · refine z_if_le hX 33 dX2_readEither_20 (by decide) (fun h8 => ?_) (fun h8 => ?_)
          · replace hf := zif_pos h8 hf
            exact hk33 g2 hf
          · replace hf := zif_neg h8 hf
            refine z_aload_n hX dX2_readEither_23 0 rfl ?_
            refine gf_LawReader_draft hX zq_433 q389 dX2_readEither_24 ?_
            refine z_sipush hX dX2_readEither_27 cs_1010 ?_
            replace hf := zb_some hf
            obtain ⟨g9, h9, hf⟩ := hf
            refine z_callV0 hX ok_X1_addCode q793 q794 q795 (zrm_okd hR (by omega)) (ct_X1_addCode zq_439 h9) (zrec_Law hX zq_439) dX2_readEither_30 rfl rfl ?_
            exact hk33 g9 hf
      · replace hf := zif_pos h3 hf
        refine z_iconst hX dX2_readEither_17 ci_0 ?_
        obtain rfl := Option.some.inj hf
        exact z_iret hX hr (zbn (Or.inl rfl)) (zl rfl) (zl rfl) dX2_readEither_18
set_option maxHeartbeats 4000000 in
set_option maxRecDepth 100000 in
theorem fX2_readEither_ok {d0 : Nat} (hd0 : 20 ≤ d0) {X : zX} (hX : zCX X cX2_readEither RX2) (hT : zNT X) (hR : X.2.2.2.1 = zrm (d0 + 2) 0) (hr : X.2.2.2.2.2.2.2.2.1.sig.returnType = (some .boolean)) (hn : X.2.2.2.2.2.2.2.2.2.1.maxLocals = 3) {rec_readEither : Int32 → zM → Option (Int32 × zM)} {rec_readAtom : Int32 → zM → Option (Int32 × zM)} (hrec_readEither : ∀ (E : zE) (v1 : Int32) (g : zM) (r : Int32 × zM), rec_readEither v1 g = some r → zCt yX2_readEither cX2_readEither 3 (some .boolean) d0 0 E [.ref (E.1 + 433), .int v1] g (.inl (some (.int r.1), r.2))) (hrec_readAtom : ∀ (E : zE) (v1 : Int32) (g : zM) (r : Int32 × zM), rec_readAtom v1 g = some r → zCt yX2_readAtom cX2_readAtom 4 (some .boolean) d0 0 E [.ref (E.1 + 433), .int v1] g (.inl (some (.int r.1), r.2))) {v1 : Int32} {g : zM} {r : Int32 × zM} (hf : fX2_readEither rec_readEither rec_readAtom v1 g = some r) : zW X (zQ X (.inl (some (.int r.1), r.2)) 0) 0 0 0 [(0, .ref (zB X + 433)), (1, .int v1)] [] g := by
  unfold fX2_readEither at hf
  refine z_iconst hX dX2_readEither_0 ci_0 ?_
  refine z_istore_n (lv' := [(2, .int 0), (0, .ref (zB X + 433)), (1, .int v1)]) hX dX2_readEither_1 hn (by decide) rfl ?_
  refine zW.sub [1, 2, 0] rfl ?_
  refine fX2_readEither_L2_ok hd0 hX hT hR hr hn hrec_readEither hrec_readAtom (fun g10 hf => ?_) zFU 0 g hf
  · refine z_aload_n hX dX2_readEither_61 0 rfl ?_
    refine gf_LawReader_tokens hX zq_433 q370 (z_same hX q371) dX2_readEither_62 ?_
    replace hf := zb2_some hf
    obtain ⟨r_11, g11, h11, hf⟩ := hf
    refine z_callV1 hX ok_X9_fail q797 q764 q765 (zrm_okd hR (by omega)) (ct_X9_fail zq_434 h11) (zrec_Tokens hX zq_434) dX2_readEither_65 rfl rfl ?_
    replace hf := zbo_some hf
    obtain ⟨h12, hf⟩ := hf
    obtain rfl := Option.some.inj hf
    exact z_iret hX hr (zbn h12) (zl rfl) (zl rfl) dX2_readEither_68
set_option maxHeartbeats 4000000 in
set_option maxRecDepth 100000 in
theorem ct_X2_readEither {E : zE} {d0 : Nat} (hd0 : 20 ≤ d0) {rec_readEither : Int32 → zM → Option (Int32 × zM)} {rec_readAtom : Int32 → zM → Option (Int32 × zM)} (hrec_readEither : ∀ (E : zE) (v1 : Int32) (g : zM) (r : Int32 × zM), rec_readEither v1 g = some r → zCt yX2_readEither cX2_readEither 3 (some .boolean) d0 0 E [.ref (E.1 + 433), .int v1] g (.inl (some (.int r.1), r.2))) (hrec_readAtom : ∀ (E : zE) (v1 : Int32) (g : zM) (r : Int32 × zM), rec_readAtom v1 g = some r → zCt yX2_readAtom cX2_readAtom 4 (some .boolean) d0 0 E [.ref (E.1 + 433), .int v1] g (.inl (some (.int r.1), r.2))) {v1 : Int32} {g : zM} {r : Int32 × zM} (hf : fX2_readEither rec_readEither rec_readAtom v1 g = some r) : zCt yX2_readEither cX2_readEither 3 (some .boolean) (d0 + 2) 0 E [.ref (E.1 + 433), .int v1] g (.inl (some (.int r.1), r.2)) := by
  refine zmet (by decide) (zl rfl) (fun X hE hX hT hR hr hn => ?_)
  subst hE
  exact fX2_readEither_ok hd0 hX hT hR hr hn hrec_readEither hrec_readAtom hf
def fX2_lev : Nat → (Int32 → zM → Option (Int32 × zM)) × (Int32 → zM → Option (Int32 × zM))
  | 0 => ((fun _ _ => none), (fun _ _ => none))
  | n + 1 => (fX2_readEither (fX2_lev n).1 (fX2_lev n).2, fX2_readAtom (fX2_lev n).1 (fX2_lev n).2)
def fX2_readEither_T (v1 : Int32) (g : zM) : Option (Int32 × zM) := (fX2_lev 20).1 v1 g
def fX2_readAtom_T (v1 : Int32) (g : zM) : Option (Int32 × zM) := (fX2_lev 20).2 v1 g
theorem fX2_lev_ok : ∀ n : Nat, (∀ (E : zE) (v1 : Int32) (g : zM) (r : Int32 × zM), (fX2_lev n).1 v1 g = some r → zCt yX2_readEither cX2_readEither 3 (some .boolean) (20 + 2 * n) 0 E [.ref (E.1 + 433), .int v1] g (.inl (some (.int r.1), r.2))) ∧ (∀ (E : zE) (v1 : Int32) (g : zM) (r : Int32 × zM), (fX2_lev n).2 v1 g = some r → zCt yX2_readAtom cX2_readAtom 4 (some .boolean) (20 + 2 * n) 0 E [.ref (E.1 + 433), .int v1] g (.inl (some (.int r.1), r.2))) := by
  intro n
  induction n with
  | zero => exact ⟨fun _ _ _ _ hf => zno hf, fun _ _ _ _ hf => zno hf⟩
  | succ n ih => exact ⟨fun _ _ _ _ hf => ct_X2_readEither (d0 := 20 + 2 * n) (by omega) ih.1 ih.2 hf, fun _ _ _ _ hf => ct_X2_readAtom (d0 := 20 + 2 * n) (by omega) ih.1 ih.2 hf⟩
theorem ct_X2_readEither_T {E : zE} {v1 : Int32} {g : zM} {r : Int32 × zM} (hf : fX2_readEither_T v1 g = some r) : zCt yX2_readEither cX2_readEither 3 (some .boolean) 60 0 E [.ref (E.1 + 433), .int v1] g (.inl (some (.int r.1), r.2)) := (fX2_lev_ok 20).1 _ _ _ _ hf
theorem ct_X2_readAtom_T {E : zE} {v1 : Int32} {g : zM} {r : Int32 × zM} (hf : fX2_readAtom_T v1 g = some r) : zCt yX2_readAtom cX2_readAtom 4 (some .boolean) 60 0 E [.ref (E.1 + 433), .int v1] g (.inl (some (.int r.1), r.2)) := (fX2_lev_ok 20).2 _ _ _ _ hf
def fX1_addLine (h : Nat) (v1 : Int32) (v2 : Int32) (g : zM) : Option zM := if 12 ≤ (g h 7) then some g else zchk (g h 7) 12 (zput g (h + 1) (g h 7).toNatClampNeg v1 (fun g3 => zchk (g3 h 7) 12 (zput g3 (h + 2) (g3 h 7).toNatClampNeg v2 (fun g5 => zchk (g5 h 7) 12 (zput g5 (h + 3) (g5 h 7).toNatClampNeg (g5 h 6) (fun g7 => zput g7 h 7 ((g7 h 7) + 1) (fun g8 => some g8)))))))
set_option maxHeartbeats 4000000 in
set_option maxRecDepth 100000 in
theorem fX1_addLine_ok {X : zX} (hX : zCX X cX1_addLine RX1) (hT : zNT X) (hR : X.2.2.2.1 = zrm 0 0) (hr : X.2.2.2.2.2.2.2.2.1.sig.returnType = none) (hn : X.2.2.2.2.2.2.2.2.2.1.maxLocals = 3) {h : Nat} {v1 : Int32} {v2 : Int32} (hkh : zK h = 1) {g : zM} {r : zM} (hf : fX1_addLine h v1 v2 g = some r) : zW X (zQ X (.inl (none, r)) 0) 0 0 0 [(0, .ref (zB X + h)), (1, .int v1), (2, .int v2)] [] g := by
  unfold fX1_addLine at hf
  refine z_aload_n hX dX1_addLine_0 0 rfl ?_
  refine gf_Law_size hX hkh q248 dX1_addLine_1 ?_
  refine z_bipush hX dX1_addLine_4 cb_12 ?_
  refine z_icmp_ge hX 52 dX1_addLine_6 (by decide) (fun h1 => ?_) (fun h1 => ?_)
  · replace hf := zif_pos h1 hf
    obtain rfl := Option.some.inj hf
    exact z_vret hX hr (zl rfl) (zl rfl) dX1_addLine_52
  · replace hf := zif_neg h1 hf
    refine z_aload_n hX dX1_addLine_9 0 rfl ?_
    refine gf_Law_froms hX hkh q241 dX1_addLine_10 ?_
    refine z_aload_n hX dX1_addLine_13 0 rfl ?_
    refine gf_Law_size hX hkh q248 dX1_addLine_14 ?_
    refine z_iload_n hX dX1_addLine_17 1 rfl ?_
    replace hf := zchk_some hf
    obtain ⟨h2, hf⟩ := hf
    replace hf := zput_some hf
    obtain ⟨g3, eg3, hf⟩ := hf
    refine z_iast hX (zk_Law_froms hkh) (by decide) (zc_1012 _ _) h2 dX1_addLine_18 (zW.eqg eg3 ?_)
    refine z_aload_n hX dX1_addLine_19 0 rfl ?_
    refine gf_Law_tos hX hkh q242 dX1_addLine_20 ?_
    refine z_aload_n hX dX1_addLine_23 0 rfl ?_
    refine gf_Law_size hX hkh q248 dX1_addLine_24 ?_
    refine z_iload_n hX dX1_addLine_27 2 rfl ?_
    replace hf := zchk_some hf
    obtain ⟨h4, hf⟩ := hf
    replace hf := zput_some hf
    obtain ⟨g5, eg5, hf⟩ := hf
    refine z_iast hX (zk_Law_tos hkh) (by decide) (zc_1012 _ _) h4 dX1_addLine_28 (zW.eqg eg5 ?_)
    refine z_aload_n hX dX1_addLine_29 0 rfl ?_
    refine gf_Law_ends hX hkh q243 dX1_addLine_30 ?_
    refine z_aload_n hX dX1_addLine_33 0 rfl ?_
    refine gf_Law_size hX hkh q248 dX1_addLine_34 ?_
    refine z_aload_n hX dX1_addLine_37 0 rfl ?_
    refine gf_Law_codeSize hX hkh q247 dX1_addLine_38 ?_
    replace hf := zchk_some hf
    obtain ⟨h6, hf⟩ := hf
    replace hf := zput_some hf
    obtain ⟨g7, eg7, hf⟩ := hf
    refine z_iast hX (zk_Law_ends hkh) (by decide) (zc_1012 _ _) h6 dX1_addLine_41 (zW.eqg eg7 ?_)
    refine z_aload_n hX dX1_addLine_42 0 rfl ?_
    refine z_dup hX dX1_addLine_43 rfl ?_
    refine gf_Law_size hX hkh q248 dX1_addLine_44 ?_
    refine z_iconst hX dX1_addLine_47 ci_1 ?_
    refine z_iadd hX dX1_addLine_48 ?_
    replace hf := zput_some hf
    obtain ⟨g8, eg8, hf⟩ := hf
    refine gp_Law_size hX hkh q248 dX1_addLine_49 (zW.eqg eg8 ?_)
    obtain rfl := Option.some.inj hf
    exact z_vret hX hr (zl rfl) (zl rfl) dX1_addLine_52
set_option maxHeartbeats 4000000 in
set_option maxRecDepth 100000 in
theorem ct_X1_addLine {E : zE} {h : Nat} {v1 : Int32} {v2 : Int32} (hkh : zK h = 1) {g : zM} {r : zM} (hf : fX1_addLine h v1 v2 g = some r) : zCt yX1_addLine cX1_addLine 3 none 0 0 E [.ref (E.1 + h), .int v1, .int v2] g (.inl (none, r)) := by
  refine zmet (by decide) (zl rfl) (fun X hE hX hT hR hr hn => ?_)
  subst hE
  exact fX1_addLine_ok hX hT hR hr hn hkh hf
def fX2_readLine (g : zM) : Option (Int32 × zM) := zb2 (fX9_takeKind 434 g) (fun r_1 g1 => if r_1 = ((-1)) then some (0, g1) else zb2 (fX9_pass 434 1011 g1) (fun r_3 g3 => if r_3 = 0 then some (0, g3) else zb2 (fX9_takeKind 434 g3) (fun r_5 g5 => if r_5 = ((-1)) then some (0, g5) else zb (fX9_code 434 g5) (fun r_7 => if r_7 = 1012 then zb (fX9_step 434 g5) (fun g10 => zb2 (fX2_readEither_T 0 g10) (fun r_11 g11 => if r_11 = 0 then some (0, g11) else zb (fX1_addLine 439 r_1 r_5 g11) (fun g13 => some (1, g13)))) else zb (fX1_addLine 439 r_1 r_5 g5) (fun g9 => some (1, g9))))))
set_option maxHeartbeats 4000000 in
set_option maxRecDepth 100000 in
theorem fX2_readLine_ok {X : zX} (hX : zCX X cX2_readLine RX2) (hT : zNT X) (hR : X.2.2.2.1 = zrm 61 0) (hr : X.2.2.2.2.2.2.2.2.1.sig.returnType = (some .boolean)) (hn : X.2.2.2.2.2.2.2.2.2.1.maxLocals = 3)  {g : zM} {r : Int32 × zM} (hf : fX2_readLine g = some r) : zW X (zQ X (.inl (some (.int r.1), r.2)) 0) 0 0 0 [(0, .ref (zB X + 433))] [] g := by
  unfold fX2_readLine at hf
  refine z_aload_n hX dX2_readLine_0 0 rfl ?_
  refine gf_LawReader_tokens hX zq_433 q370 (z_same hX q371) dX2_readLine_1 ?_
  replace hf := zb2_some hf
  obtain ⟨r_1, g1, h1, hf⟩ := hf
  refine z_callV1 hX ok_X9_takeKind q751 q752 q753 (zrm_ok hR (by decide)) (ct_X9_takeKind zq_434 h1) (zrec_Tokens hX zq_434) dX2_readLine_4 rfl rfl ?_
  refine z_istore_n (lv' := [(1, .int r_1), (0, .ref (zB X + 433))]) hX dX2_readLine_7 hn (by decide) rfl ?_
  refine z_iload_n hX dX2_readLine_8 0 rfl ?_
  refine z_iconst hX dX2_readLine_9 ci_m1 ?_
  refine z_icmp_eq hX 26 dX2_readLine_10 (by decide) (fun h2 => ?_) (fun h2 => ?_)
  · replace hf := zif_pos h2 hf
    refine z_iconst hX dX2_readLine_26 ci_0 ?_
    obtain rfl := Option.some.inj hf
    exact z_iret hX hr (zbn (Or.inl rfl)) (zl rfl) (zl rfl) dX2_readLine_27
  · replace hf := zif_neg h2 hf
    refine z_aload_n hX dX2_readLine_13 1 rfl ?_
    refine gf_LawReader_tokens hX zq_433 q370 (z_same hX q371) dX2_readLine_14 ?_
    refine z_sipush hX dX2_readLine_17 cs_1011 ?_
    replace hf := zb2_some hf
    obtain ⟨r_3, g3, h3, hf⟩ := hf
    refine z_callV1 hX ok_X9_pass q771 q772 q773 (zrm_ok hR (by decide)) (ct_X9_pass zq_434 h3) (zrec_Tokens hX zq_434) dX2_readLine_20 rfl rfl ?_
    refine z_if_ne hX 28 dX2_readLine_23 (by decide) (fun h4 => ?_) (fun h4 => ?_)
    · replace hf := zif_neg h4 hf
      refine z_aload_n hX dX2_readLine_28 1 rfl ?_
      refine gf_LawReader_tokens hX zq_433 q370 (z_same hX q371) dX2_readLine_29 ?_
      replace hf := zb2_some hf
      obtain ⟨r_5, g5, h5, hf⟩ := hf
      refine z_callV1 hX ok_X9_takeKind q751 q752 q753 (zrm_ok hR (by decide)) (ct_X9_takeKind zq_434 h5) (zrec_Tokens hX zq_434) dX2_readLine_32 rfl rfl ?_
      refine z_istore_n (lv' := [(2, .int r_5), (1, .int r_1), (0, .ref (zB X + 433))]) hX dX2_readLine_35 hn (by decide) rfl ?_
      refine z_iload_n hX dX2_readLine_36 0 rfl ?_
      refine z_iconst hX dX2_readLine_37 ci_m1 ?_
      refine z_icmp_ne hX 43 dX2_readLine_38 (by decide) (fun h6 => ?_) (fun h6 => ?_)
      · replace hf := zif_neg h6 hf
        refine z_aload_n hX dX2_readLine_43 2 rfl ?_
        refine gf_LawReader_tokens hX zq_433 q370 (z_same hX q371) dX2_readLine_44 ?_
        replace hf := zb_some hf
        obtain ⟨r_7, h7, hf⟩ := hf
        refine z_callV1 hX ok_X9_code q775 q742 q743 (zrm_ok hR (by decide)) (ct_X9_code zq_434 h7) (zrec_Tokens hX zq_434) dX2_readLine_47 rfl rfl ?_
        refine z_sipush hX dX2_readLine_50 cs_1012 ?_
        refine z_icmp_ne hX 73 dX2_readLine_53 (by decide) (fun h8 => ?_) (fun h8 => ?_)
        · replace hf := zif_neg h8 hf
          refine z_aload_n hX dX2_readLine_73 2 rfl ?_
          refine gf_LawReader_draft hX zq_433 q389 dX2_readLine_74 ?_
          refine z_iload_n hX dX2_readLine_77 1 rfl ?_
          refine z_iload_n hX dX2_readLine_78 0 rfl ?_
          replace hf := zb_some hf
          obtain ⟨g9, h9, hf⟩ := hf
          refine z_callV0 hX ok_X1_addLine q802 q803 q804 (zrm_ok hR (by decide)) (ct_X1_addLine zq_439 h9) (zrec_Law hX zq_439) dX2_readLine_79 rfl rfl ?_
          refine z_iconst hX dX2_readLine_82 ci_1 ?_
          obtain rfl := Option.some.inj hf
          exact z_iret hX hr (zbn (Or.inr rfl)) (zl rfl) (zl rfl) dX2_readLine_83
        · replace hf := zif_pos h8 hf
          refine z_aload_n hX dX2_readLine_56 2 rfl ?_
          refine gf_LawReader_tokens hX zq_433 q370 (z_same hX q371) dX2_readLine_57 ?_
          replace hf := zb_some hf
          obtain ⟨g10, h10, hf⟩ := hf
          refine z_callV0 hX ok_X9_step q776 q768 q769 (zrm_ok hR (by decide)) (ct_X9_step zq_434 h10) (zrec_Tokens hX zq_434) dX2_readLine_60 rfl rfl ?_
          refine z_aload_n hX dX2_readLine_63 2 rfl ?_
          refine z_iconst hX dX2_readLine_64 ci_0 ?_
          replace hf := zb2_some hf
          obtain ⟨r_11, g11, h11, hf⟩ := hf
          refine z_callV1 hX ok_X2_readEither q777 q779 q12 (zrm_ok hR (by decide)) (ct_X2_readEither_T  h11) (zrec_LawReader hX zq_433) dX2_readLine_65 rfl rfl ?_
          refine z_if_ne hX 73 dX2_readLine_68 (by decide) (fun h12 => ?_) (fun h12 => ?_)
          · replace hf := zif_neg h12 hf
            refine z_aload_n hX dX2_readLine_73 2 rfl ?_
            refine gf_LawReader_draft hX zq_433 q389 dX2_readLine_74 ?_
            refine z_iload_n hX dX2_readLine_77 1 rfl ?_
            refine z_iload_n hX dX2_readLine_78 0 rfl ?_
            replace hf := zb_some hf
            obtain ⟨g13, h13, hf⟩ := hf
            refine z_callV0 hX ok_X1_addLine q802 q803 q804 (zrm_ok hR (by decide)) (ct_X1_addLine zq_439 h13) (zrec_Law hX zq_439) dX2_readLine_79 rfl rfl ?_
            refine z_iconst hX dX2_readLine_82 ci_1 ?_
            obtain rfl := Option.some.inj hf
            exact z_iret hX hr (zbn (Or.inr rfl)) (zl rfl) (zl rfl) dX2_readLine_83
          · replace hf := zif_pos h12 hf
            refine z_iconst hX dX2_readLine_71 ci_0 ?_
            obtain rfl := Option.some.inj hf
            exact z_iret hX hr (zbn (Or.inl rfl)) (zl rfl) (zl rfl) dX2_readLine_72
      · replace hf := zif_pos h6 hf
        refine z_iconst hX dX2_readLine_41 ci_0 ?_
        obtain rfl := Option.some.inj hf
        exact z_iret hX hr (zbn (Or.inl rfl)) (zl rfl) (zl rfl) dX2_readLine_42
    · replace hf := zif_pos h4 hf
      refine z_iconst hX dX2_readLine_26 ci_0 ?_
      obtain rfl := Option.some.inj hf
      exact z_iret hX hr (zbn (Or.inl rfl)) (zl rfl) (zl rfl) dX2_readLine_27
set_option maxHeartbeats 4000000 in
set_option maxRecDepth 100000 in
theorem ct_X2_readLine {E : zE} {g : zM} {r : Int32 × zM} (hf : fX2_readLine g = some r) : zCt yX2_readLine cX2_readLine 3 (some .boolean) 61 0 E [.ref (E.1 + 433)] g (.inl (some (.int r.1), r.2)) := by
  refine zmet (by decide) (zl rfl) (fun X hE hX hT hR hr hn => ?_)
  subst hE
  exact fX2_readLine_ok hX hT hR hr hn  hf
def fX11_endReading (v1 : Int32) (g : zM) : Option zM := zput g 0 1 0 (fun g1 => zput g1 0 2 v1 (fun g2 => some g2))
set_option maxHeartbeats 4000000 in
set_option maxRecDepth 100000 in
theorem fX11_endReading_ok {X : zX} (hX : zCX X cX11_endReading RX11) (hT : zNT X) (hR : X.2.2.2.1 = zrm 0 0) (hr : X.2.2.2.2.2.2.2.2.1.sig.returnType = none) (hn : X.2.2.2.2.2.2.2.2.2.1.maxLocals = 2) {v1 : Int32} {g : zM} {r : zM} (hf : fX11_endReading v1 g = some r) : zW X (zQ X (.inl (none, r)) 0) 0 0 0 [(0, .ref (zB X + 0)), (1, .int v1)] [] g := by
  unfold fX11_endReading at hf
  refine z_aload_n hX dX11_endReading_0 0 rfl ?_
  refine z_iconst hX dX11_endReading_1 ci_0 ?_
  replace hf := zput_some hf
  obtain ⟨g1, eg1, hf⟩ := hf
  refine gp_Post_tapeSize hX zq_0 q437 dX11_endReading_2 (zW.eqg eg1 ?_)
  refine z_aload_n hX dX11_endReading_5 0 rfl ?_
  refine z_iload_n hX dX11_endReading_6 1 rfl ?_
  replace hf := zput_some hf
  obtain ⟨g2, eg2, hf⟩ := hf
  refine gp_Post_wrongByte hX zq_0 q438 dX11_endReading_7 (zW.eqg eg2 ?_)
  obtain rfl := Option.some.inj hf
  exact z_vret hX hr (zl rfl) (zl rfl) dX11_endReading_10
set_option maxHeartbeats 4000000 in
set_option maxRecDepth 100000 in
theorem ct_X11_endReading {E : zE} {v1 : Int32} {g : zM} {r : zM} (hf : fX11_endReading v1 g = some r) : zCt yX11_endReading cX11_endReading 2 none 0 0 E [.ref (E.1 + 0), .int v1] g (.inl (none, r)) := by
  refine zmet (by decide) (zl rfl) (fun X hE hX hT hR hr hn => ?_)
  subst hE
  exact fX11_endReading_ok hX hT hR hr hn  hf
def fX4_forget (g : zM) : Option zM := zput g 76 2 0 (fun g1 => some g1)
set_option maxHeartbeats 4000000 in
set_option maxRecDepth 100000 in
theorem fX4_forget_ok {X : zX} (hX : zCX X cX4_forget RX4) (hT : zNT X) (hR : X.2.2.2.1 = zrm 0 0) (hr : X.2.2.2.2.2.2.2.2.1.sig.returnType = none) (hn : X.2.2.2.2.2.2.2.2.2.1.maxLocals = 1)  {g : zM} {r : zM} (hf : fX4_forget g = some r) : zW X (zQ X (.inl (none, r)) 0) 0 0 0 [(0, .ref (zB X + 76))] [] g := by
  unfold fX4_forget at hf
  refine z_aload_n hX dX4_forget_0 0 rfl ?_
  refine z_iconst hX dX4_forget_1 ci_0 ?_
  replace hf := zput_some hf
  obtain ⟨g1, eg1, hf⟩ := hf
  refine gp_Memory_size hX zq_76 q315 dX4_forget_2 (zW.eqg eg1 ?_)
  obtain rfl := Option.some.inj hf
  exact z_vret hX hr (zl rfl) (zl rfl) dX4_forget_5
set_option maxHeartbeats 4000000 in
set_option maxRecDepth 100000 in
theorem ct_X4_forget {E : zE} {g : zM} {r : zM} (hf : fX4_forget g = some r) : zCt yX4_forget cX4_forget 1 none 0 0 E [.ref (E.1 + 76)] g (.inl (none, r)) := by
  refine zmet (by decide) (zl rfl) (fun X hE hX hT hR hr hn => ?_)
  subst hE
  exact fX4_forget_ok hX hT hR hr hn  hf
def fX8_readText_PostReader_L27 (v3 : Int32) (k78 : zM → Option (Int32 × zM)) : Nat → Int32 → zM → Option (Int32 × zM)
  | 0, _, _ => none
  | n + 1, v4, g => if v3 ≤ v4 then k78 g else zb2 (fX5_readLine g) (fun r_5 g5 => if r_5 = 0 then some (0, g5) else zb (fX9_code 391 g5) (fun r_7 => if r_7 = 1021 then some (1, g5) else zb2 (fX9_pass 391 1159 g5) (fun r_9 g9 => if r_9 = 0 then some (0, g9) else fX8_readText_PostReader_L27 v3 k78 n (v4 + 1) g9)))
def fX8_readText_PostReader (v2 : Int32) (v3 : Int32) (g : zM) : Option (Int32 × zM) := zb (fX9_scan 391 v2 g) (fun g1 => zb (fX9_code 391 g1) (fun r_2 => if r_2 = 1021 then some (1, g1) else fX8_readText_PostReader_L27 v3 (fun g11 => zb2 (fX9_fail 391 g11) (fun r_12 g12 => zbo r_12 (some (r_12, g12)))) zFU 0 g1))
set_option maxHeartbeats 4000000 in
set_option maxRecDepth 100000 in
theorem fX8_readText_PostReader_L27_ok {X : zX} (hX : zCX X cX8_readText RX8) (hT : zNT X) (hR : X.2.2.2.1 = zrm 62 0) (hr : X.2.2.2.2.2.2.2.2.1.sig.returnType = (some .boolean)) (hn : X.2.2.2.2.2.2.2.2.2.1.maxLocals = 5) {v3 : Int32} {k78 : zM → Option (Int32 × zM)} {r : Int32 × zM} (hk78 : ∀ (g : zM), k78 g = some r → zW X (zQ X (.inl (some (.int r.1), r.2)) 0) 0 0 78 [(0, .ref (zB X + 390))] [] g) : ∀ (n : Nat) (v4 : Int32) (g : zM), fX8_readText_PostReader_L27 v3 k78 n v4 g = some r → zW X (zQ X (.inl (some (.int r.1), r.2)) 0) 0 0 27 [(0, .ref (zB X + 390)), (3, .int v3), (4, .int v4)] [] g := by
  intro n
  induction n with
  | zero => intro v4 g hf; exact zno hf
  | succ n ih =>
    intro v4 g hf
    rw [fX8_readText_PostReader_L27] at hf
    refine z_iload hX dX8_readText_27 2 rfl ?_
    refine z_iload_n hX dX8_readText_29 1 rfl ?_
    refine z_icmp_ge hX 78 dX8_readText_30 (by decide) (fun h4 => ?_) (fun h4 => ?_)
    · replace hf := zif_pos h4 hf
      refine zW.sub [0] rfl ?_
      exact hk78 g hf
    · replace hf := zif_neg h4 hf
      refine z_aload_n hX dX8_readText_33 0 rfl ?_
      replace hf := zb2_some hf
      obtain ⟨r_5, g5, h5, hf⟩ := hf
      refine z_callU1 hX ok_X5_readLine rfl (np := 0) q745 q747 q806 q807 qn746 ⟨by decide, by decide, by decide +kernel⟩ (zrm_ok hR (by decide)) (ct_X5_readLine  h5) (zrec_PostReader hX zq_390) dX8_readText_34 rfl rfl ?_
      refine z_if_ne hX 42 dX8_readText_37 (by decide) (fun h6 => ?_) (fun h6 => ?_)
      · replace hf := zif_neg h6 hf
        refine z_aload_n hX dX8_readText_42 0 rfl ?_
        refine gf_PostReader_tokens hX zq_390 q369 (fun _ h => h) dX8_readText_43 ?_
        replace hf := zb_some hf
        obtain ⟨r_7, h7, hf⟩ := hf
        refine z_callV1 hX ok_X9_code q741 q742 q743 (zrm_ok hR (by decide)) (ct_X9_code zq_391 h7) (zrec_Tokens hX zq_391) dX8_readText_46 rfl rfl ?_
        refine z_sipush hX dX8_readText_49 cs_1021 ?_
        refine z_icmp_ne hX 57 dX8_readText_52 (by decide) (fun h8 => ?_) (fun h8 => ?_)
        · replace hf := zif_neg h8 hf
          refine z_aload_n hX dX8_readText_57 0 rfl ?_
          refine gf_PostReader_tokens hX zq_390 q369 (fun _ h => h) dX8_readText_58 ?_
          refine z_sipush hX dX8_readText_61 cs_1159 ?_
          replace hf := zb2_some hf
          obtain ⟨r_9, g9, h9, hf⟩ := hf
          refine z_callV1 hX ok_X9_pass q857 q772 q773 (zrm_ok hR (by decide)) (ct_X9_pass zq_391 h9) (zrec_Tokens hX zq_391) dX8_readText_64 rfl rfl ?_
          refine z_if_ne hX 72 dX8_readText_67 (by decide) (fun h10 => ?_) (fun h10 => ?_)
          · replace hf := zif_neg h10 hf
            refine z_iincc (lv' := [(4, .int (v4 + 1)), (0, .ref (zB X + 390)), (3, .int v3)]) hX dX8_readText_72 hn (by decide) 2 rfl ci_1 rfl ?_
            refine z_goto hX 27 dX8_readText_75 (by decide) ?_
            refine zW.sub [1, 2, 0] rfl ?_
            exact ih (v4 + 1) g9 hf
          · replace hf := zif_pos h10 hf
            refine z_iconst hX dX8_readText_70 ci_0 ?_
            obtain rfl := Option.some.inj hf
            exact z_iret hX hr (zbn (Or.inl rfl)) (zl rfl) (zl rfl) dX8_readText_71
        · replace hf := zif_pos h8 hf
          refine z_iconst hX dX8_readText_55 ci_1 ?_
          obtain rfl := Option.some.inj hf
          exact z_iret hX hr (zbn (Or.inr rfl)) (zl rfl) (zl rfl) dX8_readText_56
      · replace hf := zif_pos h6 hf
        refine z_iconst hX dX8_readText_40 ci_0 ?_
        obtain rfl := Option.some.inj hf
        exact z_iret hX hr (zbn (Or.inl rfl)) (zl rfl) (zl rfl) dX8_readText_41
set_option maxHeartbeats 4000000 in
set_option maxRecDepth 100000 in
theorem fX8_readText_PostReader_ok {X : zX} (hX : zCX X cX8_readText RX8) (hT : zNT X) (hR : X.2.2.2.1 = zrm 62 0) (hr : X.2.2.2.2.2.2.2.2.1.sig.returnType = (some .boolean)) (hn : X.2.2.2.2.2.2.2.2.2.1.maxLocals = 5) {v2 : Int32} {v3 : Int32} {g : zM} {r : Int32 × zM} (hf : fX8_readText_PostReader v2 v3 g = some r) : zW X (zQ X (.inl (some (.int r.1), r.2)) 0) 0 0 0 [(0, .ref (zB X + 390)), (1, .ref (zB X + 1)), (2, .int v2), (3, .int v3)] [] g := by
  unfold fX8_readText_PostReader at hf
  refine z_aload_n hX dX8_readText_0 0 rfl ?_
  refine gf_PostReader_tokens hX zq_390 q369 (fun _ h => h) dX8_readText_1 ?_
  refine z_aload_n hX dX8_readText_4 1 rfl ?_
  refine z_iload_n hX dX8_readText_5 2 rfl ?_
  replace hf := zb_some hf
  obtain ⟨g1, h1, hf⟩ := hf
  refine z_callV0 hX ok_X9_scan q659 q660 q661 (zrm_ok hR (by decide)) (ct_X9_scan zq_391 h1) (zrec_Tokens hX zq_391) dX8_readText_6 rfl rfl ?_
  refine z_aload_n hX dX8_readText_9 0 rfl ?_
  refine gf_PostReader_tokens hX zq_390 q369 (fun _ h => h) dX8_readText_10 ?_
  replace hf := zb_some hf
  obtain ⟨r_2, h2, hf⟩ := hf
  refine z_callV1 hX ok_X9_code q741 q742 q743 (zrm_ok hR (by decide)) (ct_X9_code zq_391 h2) (zrec_Tokens hX zq_391) dX8_readText_13 rfl rfl ?_
  refine z_sipush hX dX8_readText_16 cs_1021 ?_
  refine z_icmp_ne hX 24 dX8_readText_19 (by decide) (fun h3 => ?_) (fun h3 => ?_)
  · replace hf := zif_neg h3 hf
    refine z_iconst hX dX8_readText_24 ci_0 ?_
    refine z_istore (lv' := [(4, .int 0), (0, .ref (zB X + 390)), (1, .ref (zB X + 1)), (2, .int v2), (3, .int v3)]) hX dX8_readText_25 hn (by decide) rfl ?_
    refine zW.sub [1, 4, 0] rfl ?_
    refine fX8_readText_PostReader_L27_ok hX hT hR hr hn (fun g11 hf => ?_) zFU 0 g1 hf
    · refine z_aload_n hX dX8_readText_78 0 rfl ?_
      refine gf_PostReader_tokens hX zq_390 q369 (fun _ h => h) dX8_readText_79 ?_
      replace hf := zb2_some hf
      obtain ⟨r_12, g12, h12, hf⟩ := hf
      refine z_callV1 hX ok_X9_fail q858 q764 q765 (zrm_ok hR (by decide)) (ct_X9_fail zq_391 h12) (zrec_Tokens hX zq_391) dX8_readText_82 rfl rfl ?_
      replace hf := zbo_some hf
      obtain ⟨h13, hf⟩ := hf
      obtain rfl := Option.some.inj hf
      exact z_iret hX hr (zbn h13) (zl rfl) (zl rfl) dX8_readText_85
  · replace hf := zif_pos h3 hf
    refine z_iconst hX dX8_readText_22 ci_1 ?_
    obtain rfl := Option.some.inj hf
    exact z_iret hX hr (zbn (Or.inr rfl)) (zl rfl) (zl rfl) dX8_readText_23
set_option maxHeartbeats 4000000 in
set_option maxRecDepth 100000 in
theorem ct_X8_readText_PostReader {E : zE} {v2 : Int32} {v3 : Int32} {g : zM} {r : Int32 × zM} (hf : fX8_readText_PostReader v2 v3 g = some r) : zCt yX8_readText cX8_readText 5 (some .boolean) 62 0 E [.ref (E.1 + 390), .ref (E.1 + 1), .int v2, .int v3] g (.inl (some (.int r.1), r.2)) := by
  refine zmet (by decide) (zl rfl) (fun X hE hX hT hR hr hn => ?_)
  subst hE
  exact fX8_readText_PostReader_ok hX hT hR hr hn  hf
def fX11_post (g : zM) : Option (Except Nat Int32 × zM) := zb (fX10_become 396 2 g) (fun g1 => zb2 (fX8_readText_PostReader (g1 0 1) 14 g1) (fun r_2 g2 => zb (fX11_endReading (g2 391 7) g2) (fun g3 => if r_2 = 0 then some (.error 2, g3) else if (g3 2 7) < 12 then zput g3 396 7 ((g3 396 7) + 1) (fun g6 => zb (fX10_become 2 396 g6) (fun g7 => zb (fX4_forget g7) (fun g8 => some (.ok (g8 2 7), g8)))) else some (.error 4, g3))))
set_option maxHeartbeats 4000000 in
set_option maxRecDepth 100000 in
theorem fX11_post_ok {X : zX} (hX : zCX X cX11_post RX11) (hT : zNT X) (hR : X.2.2.2.1 = zrm 63 2) (hr : X.2.2.2.2.2.2.2.2.1.sig.returnType = (some .int)) (hn : X.2.2.2.2.2.2.2.2.2.1.maxLocals = 2)  {g : zM} {r : Except Nat Int32 × zM} (hf : fX11_post g = some r) : zW X (zQ X (zoI r) 2) 0 0 0 [(0, .ref (zB X + 0))] [] g := by
  unfold fX11_post at hf
  refine z_aload_n hX dX11_post_0 0 rfl ?_
  refine gf_Post_postReader hX zq_0 q443 dX11_post_1 ?_
  refine gf_PostReader_draft_N hX zq_390 qn368 dX11_post_4 ?_
  refine z_aload_n hX dX11_post_7 0 rfl ?_
  refine gf_Post_now hX zq_0 q439 dX11_post_8 ?_
  replace hf := zb_some hf
  obtain ⟨g1, h1, hf⟩ := hf
  refine z_callV0 hX ok_X10_become q612 q613 q614 (zrm_ok hR (by decide)) (ct_X10_become zq_396 zq_2 h1) (zrec_World hX zq_396) dX11_post_11 rfl rfl ?_
  refine z_aload_n hX dX11_post_14 0 rfl ?_
  refine gf_Post_postReader hX zq_0 q443 dX11_post_15 ?_
  refine z_aload_n hX dX11_post_18 0 rfl ?_
  refine gf_Post_tape hX zq_0 q436 dX11_post_19 ?_
  refine z_aload_n hX dX11_post_22 0 rfl ?_
  refine gf_Post_tapeSize hX zq_0 q437 dX11_post_23 ?_
  refine z_bipush hX dX11_post_26 cb_14 ?_
  replace hf := zb2_some hf
  obtain ⟨r_2, g2, h2, hf⟩ := hf
  refine z_callU1 hX ok_X8_readText rfl (np := 3) q653 q654 q656 q657 qn655 ⟨by decide, by decide, by decide +kernel⟩ (zrm_ok hR (by decide)) (ct_X8_readText_PostReader  h2) (zrec_PostReader hX zq_390) dX11_post_28 rfl rfl ?_
  refine z_istore_n (lv' := [(1, .int r_2), (0, .ref (zB X + 0))]) hX dX11_post_31 hn (by decide) rfl ?_
  refine z_aload_n hX dX11_post_32 1 rfl ?_
  refine z_aload_n hX dX11_post_33 1 rfl ?_
  refine gf_Post_postReader hX zq_0 q443 dX11_post_34 ?_
  refine gf_PostReader_tokens hX zq_390 q374 (z_same hX q373) dX11_post_37 ?_
  refine gf_Tokens_wrong_N hX zq_391 qn347 dX11_post_40 ?_
  replace hf := zb_some hf
  obtain ⟨g3, h3, hf⟩ := hf
  refine z_callV0 hX ok_X11_endReading q859 q861 q23 (zrm_ok hR (by decide)) (ct_X11_endReading  h3) (zrec_Post hX zq_0) dX11_post_43 rfl rfl ?_
  refine z_iload_n hX dX11_post_46 0 rfl ?_
  refine z_if_ne hX 60 dX11_post_47 (by decide) (fun h4 => ?_) (fun h4 => ?_)
  · replace hf := zif_neg h4 hf
    refine z_aload_n hX dX11_post_60 1 rfl ?_
    refine gf_Post_now hX zq_0 q439 dX11_post_61 ?_
    refine gf_World_texts_N hX zq_2 qn286 dX11_post_64 ?_
    refine z_bipush hX dX11_post_67 cb_12 ?_
    refine z_icmp_lt hX 82 dX11_post_69 (by decide) (fun h5 => ?_) (fun h5 => ?_)
    · replace hf := zif_pos h5 hf
      refine z_aload_n hX dX11_post_82 1 rfl ?_
      refine gf_Post_postReader hX zq_0 q443 dX11_post_83 ?_
      refine gf_PostReader_draft_N hX zq_390 qn368 dX11_post_86 ?_
      refine z_dup hX dX11_post_89 rfl ?_
      refine gf_World_texts_N hX zq_396 qn286 dX11_post_90 ?_
      refine z_iconst hX dX11_post_93 ci_1 ?_
      refine z_iadd hX dX11_post_94 ?_
      replace hf := zput_some hf
      obtain ⟨g6, eg6, hf⟩ := hf
      refine gp_World_texts_N hX zq_396 qn286 dX11_post_95 (zW.eqg eg6 ?_)
      refine z_aload_n hX dX11_post_98 1 rfl ?_
      refine gf_Post_now hX zq_0 q439 dX11_post_99 ?_
      refine z_aload_n hX dX11_post_102 1 rfl ?_
      refine gf_Post_postReader hX zq_0 q443 dX11_post_103 ?_
      refine gf_PostReader_draft_N hX zq_390 qn368 dX11_post_106 ?_
      replace hf := zb_some hf
      obtain ⟨g7, h7, hf⟩ := hf
      refine z_callV0 hX ok_X10_become q612 q613 q614 (zrm_ok hR (by decide)) (ct_X10_become zq_2 zq_396 h7) (zrec_World hX zq_2) dX11_post_109 rfl rfl ?_
      refine z_aload_n hX dX11_post_112 1 rfl ?_
      refine gf_Post_memory hX zq_0 q442 dX11_post_113 ?_
      replace hf := zb_some hf
      obtain ⟨g8, h8, hf⟩ := hf
      refine z_callV0 hX ok_X4_forget q627 q628 q629 (zrm_ok hR (by decide)) (ct_X4_forget  h8) (zrec_Memory hX zq_76) dX11_post_116 rfl rfl ?_
      refine z_aload_n hX dX11_post_119 1 rfl ?_
      refine gf_Post_now hX zq_0 q439 dX11_post_120 ?_
      refine gf_World_texts_N hX zq_2 qn286 dX11_post_123 ?_
      obtain rfl := Option.some.inj hf
      exact z_iret hX hr rfl (zl rfl) (zl rfl) dX11_post_126
    · replace hf := zif_neg h5 hf
      obtain rfl := Option.some.inj hf
      exact z_throw hX hT hR at_4_124 (i := 2) rfl dX11_post_72 dX11_post_75 dX11_post_76 dX11_post_78 dX11_post_81 (zl rfl) (zl rfl) (zl rfl) (zl rfl)
  · replace hf := zif_pos h4 hf
    obtain rfl := Option.some.inj hf
    exact z_throw hX hT hR at_2_114 (i := 1) rfl dX11_post_50 dX11_post_53 dX11_post_54 dX11_post_56 dX11_post_59 (zl rfl) (zl rfl) (zl rfl) (zl rfl)
set_option maxHeartbeats 4000000 in
set_option maxRecDepth 100000 in
theorem ct_X11_post {E : zE} {g : zM} {r : Except Nat Int32 × zM} (hf : fX11_post g = some r) : zCt yX11_post cX11_post 2 (some .int) 63 2 E [.ref (E.1 + 0)] g (zoI r) := by
  refine zmet (by decide) (zl rfl) (fun X hE hX hT hR hr hn => ?_)
  subst hE
  exact fX11_post_ok hX hT hR hr hn  hf
def fX1_clear (h : Nat) (g : zM) : Option zM := zput g h 6 0 (fun g1 => zput g1 h 7 0 (fun g2 => zput g2 h 8 0 (fun g3 => some g3)))
set_option maxHeartbeats 4000000 in
set_option maxRecDepth 100000 in
theorem fX1_clear_ok {X : zX} (hX : zCX X cX1_clear RX1) (hT : zNT X) (hR : X.2.2.2.1 = zrm 0 0) (hr : X.2.2.2.2.2.2.2.2.1.sig.returnType = none) (hn : X.2.2.2.2.2.2.2.2.2.1.maxLocals = 1) {h : Nat} (hkh : zK h = 1) {g : zM} {r : zM} (hf : fX1_clear h g = some r) : zW X (zQ X (.inl (none, r)) 0) 0 0 0 [(0, .ref (zB X + h))] [] g := by
  unfold fX1_clear at hf
  refine z_aload_n hX dX1_clear_0 0 rfl ?_
  refine z_iconst hX dX1_clear_1 ci_0 ?_
  replace hf := zput_some hf
  obtain ⟨g1, eg1, hf⟩ := hf
  refine gp_Law_codeSize hX hkh q247 dX1_clear_2 (zW.eqg eg1 ?_)
  refine z_aload_n hX dX1_clear_5 0 rfl ?_
  refine z_iconst hX dX1_clear_6 ci_0 ?_
  replace hf := zput_some hf
  obtain ⟨g2, eg2, hf⟩ := hf
  refine gp_Law_size hX hkh q248 dX1_clear_7 (zW.eqg eg2 ?_)
  refine z_aload_n hX dX1_clear_10 0 rfl ?_
  refine z_iconst hX dX1_clear_11 ci_0 ?_
  replace hf := zput_some hf
  obtain ⟨g3, eg3, hf⟩ := hf
  refine gp_Law_told hX hkh q250 (Or.inl rfl) dX1_clear_12 (zW.eqg eg3 ?_)
  obtain rfl := Option.some.inj hf
  exact z_vret hX hr (zl rfl) (zl rfl) dX1_clear_15
set_option maxHeartbeats 4000000 in
set_option maxRecDepth 100000 in
theorem ct_X1_clear {E : zE} {h : Nat} (hkh : zK h = 1) {g : zM} {r : zM} (hf : fX1_clear h g = some r) : zCt yX1_clear cX1_clear 1 none 0 0 E [.ref (E.1 + h)] g (.inl (none, r)) := by
  refine zmet (by decide) (zl rfl) (fun X hE hX hT hR hr hn => ?_)
  subst hE
  exact fX1_clear_ok hX hT hR hr hn hkh hf
def fX8_readText_LawReader_L27 (v3 : Int32) (k78 : zM → Option (Int32 × zM)) : Nat → Int32 → zM → Option (Int32 × zM)
  | 0, _, _ => none
  | n + 1, v4, g => if v3 ≤ v4 then k78 g else zb2 (fX2_readLine g) (fun r_5 g5 => if r_5 = 0 then some (0, g5) else zb (fX9_code 434 g5) (fun r_7 => if r_7 = 1021 then some (1, g5) else zb2 (fX9_pass 434 1159 g5) (fun r_9 g9 => if r_9 = 0 then some (0, g9) else fX8_readText_LawReader_L27 v3 k78 n (v4 + 1) g9)))
def fX8_readText_LawReader (v2 : Int32) (v3 : Int32) (g : zM) : Option (Int32 × zM) := zb (fX9_scan 434 v2 g) (fun g1 => zb (fX9_code 434 g1) (fun r_2 => if r_2 = 1021 then some (1, g1) else fX8_readText_LawReader_L27 v3 (fun g11 => zb2 (fX9_fail 434 g11) (fun r_12 g12 => zbo r_12 (some (r_12, g12)))) zFU 0 g1))
set_option maxHeartbeats 4000000 in
set_option maxRecDepth 100000 in
theorem fX8_readText_LawReader_L27_ok {X : zX} (hX : zCX X cX8_readText RX8) (hT : zNT X) (hR : X.2.2.2.1 = zrm 62 0) (hr : X.2.2.2.2.2.2.2.2.1.sig.returnType = (some .boolean)) (hn : X.2.2.2.2.2.2.2.2.2.1.maxLocals = 5) {v3 : Int32} {k78 : zM → Option (Int32 × zM)} {r : Int32 × zM} (hk78 : ∀ (g : zM), k78 g = some r → zW X (zQ X (.inl (some (.int r.1), r.2)) 0) 0 0 78 [(0, .ref (zB X + 433))] [] g) : ∀ (n : Nat) (v4 : Int32) (g : zM), fX8_readText_LawReader_L27 v3 k78 n v4 g = some r → zW X (zQ X (.inl (some (.int r.1), r.2)) 0) 0 0 27 [(0, .ref (zB X + 433)), (3, .int v3), (4, .int v4)] [] g := by
  intro n
  induction n with
  | zero => intro v4 g hf; exact zno hf
  | succ n ih =>
    intro v4 g hf
    rw [fX8_readText_LawReader_L27] at hf
    refine z_iload hX dX8_readText_27 2 rfl ?_
    refine z_iload_n hX dX8_readText_29 1 rfl ?_
    refine z_icmp_ge hX 78 dX8_readText_30 (by decide) (fun h4 => ?_) (fun h4 => ?_)
    · replace hf := zif_pos h4 hf
      refine zW.sub [0] rfl ?_
      exact hk78 g hf
    · replace hf := zif_neg h4 hf
      refine z_aload_n hX dX8_readText_33 0 rfl ?_
      replace hf := zb2_some hf
      obtain ⟨r_5, g5, h5, hf⟩ := hf
      refine z_callU1 hX ok_X2_readLine rfl (np := 0) q745 q747 q748 q749 qn746 ⟨by decide, by decide, by decide +kernel⟩ (zrm_ok hR (by decide)) (ct_X2_readLine  h5) (zrec_LawReader hX zq_433) dX8_readText_34 rfl rfl ?_
      refine z_if_ne hX 42 dX8_readText_37 (by decide) (fun h6 => ?_) (fun h6 => ?_)
      · replace hf := zif_neg h6 hf
        refine z_aload_n hX dX8_readText_42 0 rfl ?_
        refine gf_LawReader_tokens hX zq_433 q369 (fun _ h => h) dX8_readText_43 ?_
        replace hf := zb_some hf
        obtain ⟨r_7, h7, hf⟩ := hf
        refine z_callV1 hX ok_X9_code q741 q742 q743 (zrm_ok hR (by decide)) (ct_X9_code zq_434 h7) (zrec_Tokens hX zq_434) dX8_readText_46 rfl rfl ?_
        refine z_sipush hX dX8_readText_49 cs_1021 ?_
        refine z_icmp_ne hX 57 dX8_readText_52 (by decide) (fun h8 => ?_) (fun h8 => ?_)
        · replace hf := zif_neg h8 hf
          refine z_aload_n hX dX8_readText_57 0 rfl ?_
          refine gf_LawReader_tokens hX zq_433 q369 (fun _ h => h) dX8_readText_58 ?_
          refine z_sipush hX dX8_readText_61 cs_1159 ?_
          replace hf := zb2_some hf
          obtain ⟨r_9, g9, h9, hf⟩ := hf
          refine z_callV1 hX ok_X9_pass q857 q772 q773 (zrm_ok hR (by decide)) (ct_X9_pass zq_434 h9) (zrec_Tokens hX zq_434) dX8_readText_64 rfl rfl ?_
          refine z_if_ne hX 72 dX8_readText_67 (by decide) (fun h10 => ?_) (fun h10 => ?_)
          · replace hf := zif_neg h10 hf
            refine z_iincc (lv' := [(4, .int (v4 + 1)), (0, .ref (zB X + 433)), (3, .int v3)]) hX dX8_readText_72 hn (by decide) 2 rfl ci_1 rfl ?_
            refine z_goto hX 27 dX8_readText_75 (by decide) ?_
            refine zW.sub [1, 2, 0] rfl ?_
            exact ih (v4 + 1) g9 hf
          · replace hf := zif_pos h10 hf
            refine z_iconst hX dX8_readText_70 ci_0 ?_
            obtain rfl := Option.some.inj hf
            exact z_iret hX hr (zbn (Or.inl rfl)) (zl rfl) (zl rfl) dX8_readText_71
        · replace hf := zif_pos h8 hf
          refine z_iconst hX dX8_readText_55 ci_1 ?_
          obtain rfl := Option.some.inj hf
          exact z_iret hX hr (zbn (Or.inr rfl)) (zl rfl) (zl rfl) dX8_readText_56
      · replace hf := zif_pos h6 hf
        refine z_iconst hX dX8_readText_40 ci_0 ?_
        obtain rfl := Option.some.inj hf
        exact z_iret hX hr (zbn (Or.inl rfl)) (zl rfl) (zl rfl) dX8_readText_41
set_option maxHeartbeats 4000000 in
set_option maxRecDepth 100000 in
theorem fX8_readText_LawReader_ok {X : zX} (hX : zCX X cX8_readText RX8) (hT : zNT X) (hR : X.2.2.2.1 = zrm 62 0) (hr : X.2.2.2.2.2.2.2.2.1.sig.returnType = (some .boolean)) (hn : X.2.2.2.2.2.2.2.2.2.1.maxLocals = 5) {v2 : Int32} {v3 : Int32} {g : zM} {r : Int32 × zM} (hf : fX8_readText_LawReader v2 v3 g = some r) : zW X (zQ X (.inl (some (.int r.1), r.2)) 0) 0 0 0 [(0, .ref (zB X + 433)), (1, .ref (zB X + 1)), (2, .int v2), (3, .int v3)] [] g := by
  unfold fX8_readText_LawReader at hf
  refine z_aload_n hX dX8_readText_0 0 rfl ?_
  refine gf_LawReader_tokens hX zq_433 q369 (fun _ h => h) dX8_readText_1 ?_
  refine z_aload_n hX dX8_readText_4 1 rfl ?_
  refine z_iload_n hX dX8_readText_5 2 rfl ?_
  replace hf := zb_some hf
  obtain ⟨g1, h1, hf⟩ := hf
  refine z_callV0 hX ok_X9_scan q659 q660 q661 (zrm_ok hR (by decide)) (ct_X9_scan zq_434 h1) (zrec_Tokens hX zq_434) dX8_readText_6 rfl rfl ?_
  refine z_aload_n hX dX8_readText_9 0 rfl ?_
  refine gf_LawReader_tokens hX zq_433 q369 (fun _ h => h) dX8_readText_10 ?_
  replace hf := zb_some hf
  obtain ⟨r_2, h2, hf⟩ := hf
  refine z_callV1 hX ok_X9_code q741 q742 q743 (zrm_ok hR (by decide)) (ct_X9_code zq_434 h2) (zrec_Tokens hX zq_434) dX8_readText_13 rfl rfl ?_
  refine z_sipush hX dX8_readText_16 cs_1021 ?_
  refine z_icmp_ne hX 24 dX8_readText_19 (by decide) (fun h3 => ?_) (fun h3 => ?_)
  · replace hf := zif_neg h3 hf
    refine z_iconst hX dX8_readText_24 ci_0 ?_
    refine z_istore (lv' := [(4, .int 0), (0, .ref (zB X + 433)), (1, .ref (zB X + 1)), (2, .int v2), (3, .int v3)]) hX dX8_readText_25 hn (by decide) rfl ?_
    refine zW.sub [1, 4, 0] rfl ?_
    refine fX8_readText_LawReader_L27_ok hX hT hR hr hn (fun g11 hf => ?_) zFU 0 g1 hf
    · refine z_aload_n hX dX8_readText_78 0 rfl ?_
      refine gf_LawReader_tokens hX zq_433 q369 (fun _ h => h) dX8_readText_79 ?_
      replace hf := zb2_some hf
      obtain ⟨r_12, g12, h12, hf⟩ := hf
      refine z_callV1 hX ok_X9_fail q858 q764 q765 (zrm_ok hR (by decide)) (ct_X9_fail zq_434 h12) (zrec_Tokens hX zq_434) dX8_readText_82 rfl rfl ?_
      replace hf := zbo_some hf
      obtain ⟨h13, hf⟩ := hf
      obtain rfl := Option.some.inj hf
      exact z_iret hX hr (zbn h13) (zl rfl) (zl rfl) dX8_readText_85
  · replace hf := zif_pos h3 hf
    refine z_iconst hX dX8_readText_22 ci_1 ?_
    obtain rfl := Option.some.inj hf
    exact z_iret hX hr (zbn (Or.inr rfl)) (zl rfl) (zl rfl) dX8_readText_23
set_option maxHeartbeats 4000000 in
set_option maxRecDepth 100000 in
theorem ct_X8_readText_LawReader {E : zE} {v2 : Int32} {v3 : Int32} {g : zM} {r : Int32 × zM} (hf : fX8_readText_LawReader v2 v3 g = some r) : zCt yX8_readText cX8_readText 5 (some .boolean) 62 0 E [.ref (E.1 + 433), .ref (E.1 + 1), .int v2, .int v3] g (.inl (some (.int r.1), r.2)) := by
  refine zmet (by decide) (zl rfl) (fun X hE hX hT hR hr hn => ?_)
  subst hE
  exact fX8_readText_LawReader_ok hX hT hR hr hn  hf
def fX11_law (g : zM) : Option (Except Nat Int32 × zM) := zb (fX1_clear 439 g) (fun g1 => zb2 (fX8_readText_LawReader (g1 0 1) 12 g1) (fun r_2 g2 => zb (fX11_endReading (g2 434 7) g2) (fun g3 => if r_2 = 0 then some (.error 2, g3) else zput g3 439 8 1 (fun g5 => zb (fX1_become 29 439 g5) (fun g6 => zb (fX4_forget g6) (fun g7 => some (.ok (g7 29 7), g7)))))))
set_option maxHeartbeats 4000000 in
set_option maxRecDepth 100000 in
theorem fX11_law_ok {X : zX} (hX : zCX X cX11_law RX11) (hT : zNT X) (hR : X.2.2.2.1 = zrm 63 1) (hr : X.2.2.2.2.2.2.2.2.1.sig.returnType = (some .int)) (hn : X.2.2.2.2.2.2.2.2.2.1.maxLocals = 2)  {g : zM} {r : Except Nat Int32 × zM} (hf : fX11_law g = some r) : zW X (zQ X (zoI r) 1) 0 0 0 [(0, .ref (zB X + 0))] [] g := by
  unfold fX11_law at hf
  refine z_aload_n hX dX11_law_0 0 rfl ?_
  refine gf_Post_lawReader hX zq_0 q444 dX11_law_1 ?_
  refine gf_LawReader_draft_N hX zq_433 qn390 dX11_law_4 ?_
  replace hf := zb_some hf
  obtain ⟨g1, h1, hf⟩ := hf
  refine z_callV0 hX ok_X1_clear q956 q957 q958 (zrm_ok hR (by decide)) (ct_X1_clear zq_439 h1) (zrec_Law hX zq_439) dX11_law_7 rfl rfl ?_
  refine z_aload_n hX dX11_law_10 0 rfl ?_
  refine gf_Post_lawReader hX zq_0 q444 dX11_law_11 ?_
  refine z_aload_n hX dX11_law_14 0 rfl ?_
  refine gf_Post_tape hX zq_0 q436 dX11_law_15 ?_
  refine z_aload_n hX dX11_law_18 0 rfl ?_
  refine gf_Post_tapeSize hX zq_0 q437 dX11_law_19 ?_
  refine z_bipush hX dX11_law_22 cb_12 ?_
  replace hf := zb2_some hf
  obtain ⟨r_2, g2, h2, hf⟩ := hf
  refine z_callU1 hX ok_X8_readText rfl (np := 3) q960 q961 q962 q657 qn655 ⟨by decide, by decide, by decide +kernel⟩ (zrm_ok hR (by decide)) (ct_X8_readText_LawReader  h2) (zrec_LawReader hX zq_433) dX11_law_24 rfl rfl ?_
  refine z_istore_n (lv' := [(1, .int r_2), (0, .ref (zB X + 0))]) hX dX11_law_27 hn (by decide) rfl ?_
  refine z_aload_n hX dX11_law_28 1 rfl ?_
  refine z_aload_n hX dX11_law_29 1 rfl ?_
  refine gf_Post_lawReader hX zq_0 q444 dX11_law_30 ?_
  refine gf_LawReader_tokens hX zq_433 q375 (z_same hX q371) dX11_law_33 ?_
  refine gf_Tokens_wrong_N hX zq_434 qn347 dX11_law_36 ?_
  replace hf := zb_some hf
  obtain ⟨g3, h3, hf⟩ := hf
  refine z_callV0 hX ok_X11_endReading q859 q861 q23 (zrm_ok hR (by decide)) (ct_X11_endReading  h3) (zrec_Post hX zq_0) dX11_law_39 rfl rfl ?_
  refine z_iload_n hX dX11_law_42 0 rfl ?_
  refine z_if_ne hX 56 dX11_law_43 (by decide) (fun h4 => ?_) (fun h4 => ?_)
  · replace hf := zif_neg h4 hf
    refine z_aload_n hX dX11_law_56 1 rfl ?_
    refine gf_Post_lawReader hX zq_0 q444 dX11_law_57 ?_
    refine gf_LawReader_draft_N hX zq_433 qn390 dX11_law_60 ?_
    refine z_iconst hX dX11_law_63 ci_1 ?_
    replace hf := zput_some hf
    obtain ⟨g5, eg5, hf⟩ := hf
    refine gp_Law_told_N hX zq_439 qn251 (Or.inr rfl) dX11_law_64 (zW.eqg eg5 ?_)
    refine z_aload_n hX dX11_law_67 1 rfl ?_
    refine gf_Post_now hX zq_0 q439 dX11_law_68 ?_
    refine gf_World_law_N hX zq_2 qn275 dX11_law_71 ?_
    refine z_aload_n hX dX11_law_74 1 rfl ?_
    refine gf_Post_lawReader hX zq_0 q444 dX11_law_75 ?_
    refine gf_LawReader_draft_N hX zq_433 qn390 dX11_law_78 ?_
    replace hf := zb_some hf
    obtain ⟨g6, h6, hf⟩ := hf
    refine z_callV0 hX ok_X1_become q964 q618 q619 (zrm_ok hR (by decide)) (ct_X1_become zq_29 zq_439 h6) (zrec_Law hX zq_29) dX11_law_81 rfl rfl ?_
    refine z_aload_n hX dX11_law_84 1 rfl ?_
    refine gf_Post_memory hX zq_0 q442 dX11_law_85 ?_
    replace hf := zb_some hf
    obtain ⟨g7, h7, hf⟩ := hf
    refine z_callV0 hX ok_X4_forget q627 q628 q629 (zrm_ok hR (by decide)) (ct_X4_forget  h7) (zrec_Memory hX zq_76) dX11_law_88 rfl rfl ?_
    refine z_aload_n hX dX11_law_91 1 rfl ?_
    refine gf_Post_now hX zq_0 q439 dX11_law_92 ?_
    refine gf_World_law_N hX zq_2 qn275 dX11_law_95 ?_
    refine gf_Law_size_N hX zq_29 qn249 dX11_law_98 ?_
    obtain rfl := Option.some.inj hf
    exact z_iret hX hr rfl (zl rfl) (zl rfl) dX11_law_101
  · replace hf := zif_pos h4 hf
    obtain rfl := Option.some.inj hf
    exact z_throw hX hT hR at_2_114 (i := 3) rfl dX11_law_46 dX11_law_49 dX11_law_50 dX11_law_52 dX11_law_55 (zl rfl) (zl rfl) (zl rfl) (zl rfl)
set_option maxHeartbeats 4000000 in
set_option maxRecDepth 100000 in
theorem ct_X11_law {E : zE} {g : zM} {r : Except Nat Int32 × zM} (hf : fX11_law g = some r) : zCt yX11_law cX11_law 2 (some .int) 63 1 E [.ref (E.1 + 0)] g (zoI r) := by
  refine zmet (by decide) (zl rfl) (fun X hE hX hT hR hr hn => ?_)
  subst hE
  exact fX11_law_ok hX hT hR hr hn  hf
def fX11_fault (g : zM) : Option Int32 := some (g 0 2)
set_option maxHeartbeats 4000000 in
set_option maxRecDepth 100000 in
theorem fX11_fault_ok {X : zX} (hX : zCX X cX11_fault RX11) (hT : zNT X) (hR : X.2.2.2.1 = zrm 0 0) (hr : X.2.2.2.2.2.2.2.2.1.sig.returnType = (some .int)) (hn : X.2.2.2.2.2.2.2.2.2.1.maxLocals = 1)  {g : zM} {r : Int32} (hf : fX11_fault g = some r) : zW X (zQ X (.inl (some (.int r), g)) 0) 0 0 0 [(0, .ref (zB X + 0))] [] g := by
  unfold fX11_fault at hf
  refine z_aload_n hX dX11_fault_0 0 rfl ?_
  refine gf_Post_wrongByte hX zq_0 q438 dX11_fault_1 ?_
  obtain rfl := Option.some.inj hf
  exact z_iret hX hr rfl (zl rfl) (zl rfl) dX11_fault_4
set_option maxHeartbeats 4000000 in
set_option maxRecDepth 100000 in
theorem ct_X11_fault {E : zE} {g : zM} {r : Int32} (hf : fX11_fault g = some r) : zCt yX11_fault cX11_fault 1 (some .int) 0 0 E [.ref (E.1 + 0)] g (.inl (some (.int r), g)) := by
  refine zmet (by decide) (zl rfl) (fun X hE hX hT hR hr hn => ?_)
  subst hE
  exact fX11_fault_ok hX hT hR hr hn  hf
def fX11_needLetter (v1 : Int32) (g : zM) : Option (Except Nat Unit × zM) := if v1 < 0 then some (.error 1, g) else if v1 < (g 3 1) then some (.ok (()), g) else some (.error 1, g)
set_option maxHeartbeats 4000000 in
set_option maxRecDepth 100000 in
theorem fX11_needLetter_ok {X : zX} (hX : zCX X cX11_needLetter RX11) (hT : zNT X) (hR : X.2.2.2.1 = zrm 0 1) (hr : X.2.2.2.2.2.2.2.2.1.sig.returnType = none) (hn : X.2.2.2.2.2.2.2.2.2.1.maxLocals = 2) {v1 : Int32} {g : zM} {r : Except Nat Unit × zM} (hf : fX11_needLetter v1 g = some r) : zW X (zQ X (zoU r) 1) 0 0 0 [(0, .ref (zB X + 0)), (1, .int v1)] [] g := by
  unfold fX11_needLetter at hf
  refine z_iload_n hX dX11_needLetter_0 1 rfl ?_
  refine z_if_lt hX 18 dX11_needLetter_1 (by decide) (fun h1 => ?_) (fun h1 => ?_)
  · replace hf := zif_pos h1 hf
    obtain rfl := Option.some.inj hf
    exact z_throwW hX hT hR at_1_417 (i := 4) rfl dX11_needLetter_18 dX11_needLetter_21 dX11_needLetter_22 dX11_needLetter_25 dX11_needLetter_28 (zl rfl) (zl rfl) (zl rfl) (zl rfl)
  · replace hf := zif_neg h1 hf
    refine z_iload_n hX dX11_needLetter_4 1 rfl ?_
    refine z_aload_n hX dX11_needLetter_5 0 rfl ?_
    refine gf_Post_now hX zq_0 q439 dX11_needLetter_6 ?_
    refine gf_World_bag_N hX zq_2 qn273 dX11_needLetter_9 ?_
    refine gf_Bag_size_N hX zq_3 qn216 dX11_needLetter_12 ?_
    refine z_icmp_lt hX 29 dX11_needLetter_15 (by decide) (fun h2 => ?_) (fun h2 => ?_)
    · replace hf := zif_pos h2 hf
      obtain rfl := Option.some.inj hf
      exact z_vret hX hr (zl rfl) (zl rfl) dX11_needLetter_29
    · replace hf := zif_neg h2 hf
      obtain rfl := Option.some.inj hf
      exact z_throwW hX hT hR at_1_417 (i := 4) rfl dX11_needLetter_18 dX11_needLetter_21 dX11_needLetter_22 dX11_needLetter_25 dX11_needLetter_28 (zl rfl) (zl rfl) (zl rfl) (zl rfl)
set_option maxHeartbeats 4000000 in
set_option maxRecDepth 100000 in
theorem ct_X11_needLetter {E : zE} {v1 : Int32} {g : zM} {r : Except Nat Unit × zM} (hf : fX11_needLetter v1 g = some r) : zCt yX11_needLetter cX11_needLetter 2 none 0 1 E [.ref (E.1 + 0), .int v1] g (zoU r) := by
  refine zmet (by decide) (zl rfl) (fun X hE hX hT hR hr hn => ?_)
  subst hE
  exact fX11_needLetter_ok hX hT hR hr hn  hf
def fX11_mailOf (v1 : Int32) (g : zM) : Option (Except Nat Nat × zM) := zb3 (fX11_needLetter v1 g) (fun _ g1 => zchk v1 8 (some (.ok (4 + 1 + 3 * v1.toNatClampNeg), g1)))
set_option maxHeartbeats 4000000 in
set_option maxRecDepth 100000 in
theorem fX11_mailOf_ok {X : zX} (hX : zCX X cX11_mailOf RX11) (hT : zNT X) (hR : X.2.2.2.1 = zrm 1 1) (hr : X.2.2.2.2.2.2.2.2.1.sig.returnType = (some (.object "GrownPost$Mail"))) (hn : X.2.2.2.2.2.2.2.2.2.1.maxLocals = 2) {v1 : Int32} {g : zM} {r : Except Nat Nat × zM} (hf : fX11_mailOf v1 g = some r) : zW X (zQ X (zoR (zEE X) r) 1) 0 0 0 [(0, .ref (zB X + 0)), (1, .int v1)] [] g := by
  unfold fX11_mailOf at hf
  refine z_aload_n hX dX11_mailOf_0 0 rfl ?_
  refine z_iload_n hX dX11_mailOf_1 1 rfl ?_
  replace hf := zb3_some hf
  rcases hf with ⟨c1, g1, h1, rfl⟩ | ⟨r_1, g1, h1, hf⟩
  · exact z_callV_x hX hT ok_X11_needLetter q978 q980 q26 (zrm_ok hR (by decide)) (ct_X11_needLetter  h1) (zrec_Post hX zq_0) dX11_mailOf_2 rfl rfl (zl rfl) (zl rfl)
  refine z_callV0 hX ok_X11_needLetter q978 q980 q26 (zrm_ok hR (by decide)) (ct_X11_needLetter  h1) (zrec_Post hX zq_0) dX11_mailOf_2 rfl rfl ?_
  refine z_aload_n hX dX11_mailOf_5 0 rfl ?_
  refine gf_Post_now hX zq_0 q439 dX11_mailOf_6 ?_
  refine gf_World_bag_N hX zq_2 qn273 dX11_mailOf_9 ?_
  refine gf_Bag_mails_N hX zq_3 qn213 dX11_mailOf_12 ?_
  refine z_iload_n hX dX11_mailOf_15 1 rfl ?_
  replace hf := zchk_some hf
  obtain ⟨h2, hf⟩ := hf
  refine z_aald_mail hX zq_4 h2 dX11_mailOf_16 ?_
  obtain rfl := Option.some.inj hf
  exact z_aret hX hr (zl rfl) (zl rfl) dX11_mailOf_17
set_option maxHeartbeats 4000000 in
set_option maxRecDepth 100000 in
theorem ct_X11_mailOf {E : zE} {v1 : Int32} {g : zM} {r : Except Nat Nat × zM} (hf : fX11_mailOf v1 g = some r) : zCt yX11_mailOf cX11_mailOf 2 (some (.object "GrownPost$Mail")) 1 1 E [.ref (E.1 + 0), .int v1] g (zoR E r) := by
  refine zmet (by decide) (zl rfl) (fun X hE hX hT hR hr hn => ?_)
  subst hE
  exact fX11_mailOf_ok hX hT hR hr hn  hf
theorem fk_X11_mailOf {v1 : Int32} {g g1 : zM} {r : Nat} (h : fX11_mailOf v1 g = some (.ok r, g1)) : zK r = 3 := by
  unfold fX11_mailOf at h
  rcases zb3_some h with ⟨c, g2, h1, e⟩ | ⟨u, g2, h1, h2⟩
  · exact absurd (congrArg Prod.fst e) (fun q => nomatch q)
  · obtain ⟨hv, h3⟩ := zchk_some h2
    have h4 := Option.some.inj h3
    have h5 : Except.ok (ε := Nat) _ = Except.ok r := congrArg Prod.fst h4
    injection h5 with h6
    rw [← h6]
    exact zk_el22 zq_4 hv
def fX10_wordsFor (h : Nat) (v1 : Int32) (g : zM) : Option Int32 := if v1 < 0 then some 0 else if 12 ≤ v1 then some 0 else zchk v1 12 (some (g (h + 34) v1.toNatClampNeg))
set_option maxHeartbeats 4000000 in
set_option maxRecDepth 100000 in
theorem fX10_wordsFor_ok {X : zX} (hX : zCX X cX10_wordsFor RX10) (hT : zNT X) (hR : X.2.2.2.1 = zrm 0 0) (hr : X.2.2.2.2.2.2.2.2.1.sig.returnType = (some .int)) (hn : X.2.2.2.2.2.2.2.2.2.1.maxLocals = 2) {h : Nat} {v1 : Int32} (hkh : zK h = 9) {g : zM} {r : Int32} (hf : fX10_wordsFor h v1 g = some r) : zW X (zQ X (.inl (some (.int r), g)) 0) 0 0 0 [(0, .ref (zB X + h)), (1, .int v1)] [] g := by
  unfold fX10_wordsFor at hf
  refine z_iload_n hX dX10_wordsFor_0 1 rfl ?_
  refine z_if_lt hX 19 dX10_wordsFor_1 (by decide) (fun h1 => ?_) (fun h1 => ?_)
  · replace hf := zif_pos h1 hf
    refine z_iconst hX dX10_wordsFor_19 ci_0 ?_
    obtain rfl := Option.some.inj hf
    exact z_iret hX hr rfl (zl rfl) (zl rfl) dX10_wordsFor_20
  · replace hf := zif_neg h1 hf
    refine z_iload_n hX dX10_wordsFor_4 1 rfl ?_
    refine z_bipush hX dX10_wordsFor_5 cb_12 ?_
    refine z_icmp_ge hX 19 dX10_wordsFor_7 (by decide) (fun h2 => ?_) (fun h2 => ?_)
    · replace hf := zif_pos h2 hf
      refine z_iconst hX dX10_wordsFor_19 ci_0 ?_
      obtain rfl := Option.some.inj hf
      exact z_iret hX hr rfl (zl rfl) (zl rfl) dX10_wordsFor_20
    · replace hf := zif_neg h2 hf
      refine z_aload_n hX dX10_wordsFor_10 0 rfl ?_
      refine gf_World_words hX hkh q276 dX10_wordsFor_11 ?_
      refine z_iload_n hX dX10_wordsFor_14 1 rfl ?_
      replace hf := zchk_some hf
      obtain ⟨h3, hf⟩ := hf
      refine z_iald hX (zk_World_words hkh) (by decide) (zc_1012 _ _ _) h3 dX10_wordsFor_15 ?_
      refine z_goto hX 20 dX10_wordsFor_16 (by decide) ?_
      obtain rfl := Option.some.inj hf
      exact z_iret hX hr rfl (zl rfl) (zl rfl) dX10_wordsFor_20
set_option maxHeartbeats 4000000 in
set_option maxRecDepth 100000 in
theorem ct_X10_wordsFor {E : zE} {h : Nat} {v1 : Int32} (hkh : zK h = 9) {g : zM} {r : Int32} (hf : fX10_wordsFor h v1 g = some r) : zCt yX10_wordsFor cX10_wordsFor 2 (some .int) 0 0 E [.ref (E.1 + h), .int v1] g (.inl (some (.int r), g)) := by
  refine zmet (by decide) (zl rfl) (fun X hE hX hT hR hr hn => ?_)
  subst hE
  exact fX10_wordsFor_ok hX hT hR hr hn hkh hf
def fX10_wordsIn_L4 (h : Nat) (r1 : Nat) (g : zM) : Nat → Int32 → Int32 → Option Int32
  | 0, _, _ => none
  | n + 1, v2, v3 => if (g r1 2) ≤ v3 then some v2 else zchk v3 24 (zb (fX10_wordsFor h (g (r1 + 1) v3.toNatClampNeg) g) (fun r_3 => fX10_wordsIn_L4 h r1 g n (v2 + r_3) (v3 + 1)))
def fX10_wordsIn (h : Nat) (r1 : Nat) (g : zM) : Option Int32 := fX10_wordsIn_L4 h r1 g zFU 0 0
set_option maxHeartbeats 4000000 in
set_option maxRecDepth 100000 in
theorem fX10_wordsIn_L4_ok {X : zX} (hX : zCX X cX10_wordsIn RX10) (hT : zNT X) (hR : X.2.2.2.1 = zrm 1 0) (hr : X.2.2.2.2.2.2.2.2.1.sig.returnType = (some .int)) (hn : X.2.2.2.2.2.2.2.2.2.1.maxLocals = 4) {h : Nat} {r1 : Nat} (hkh : zK h = 9) (hkr1 : zK r1 = 3) {g : zM} {r : Int32}  : ∀ (n : Nat) (v2 : Int32) (v3 : Int32), fX10_wordsIn_L4 h r1 g n v2 v3 = some r → zW X (zQ X (.inl (some (.int r), g)) 0) 0 0 4 [(0, .ref (zB X + h)), (1, .ref (zB X + r1)), (2, .int v2), (3, .int v3)] [] g := by
  intro n
  induction n with
  | zero => intro v2 v3 hf; exact zno hf
  | succ n ih =>
    intro v2 v3 hf
    rw [fX10_wordsIn_L4] at hf
    refine z_iload_n hX dX10_wordsIn_4 3 rfl ?_
    refine z_aload_n hX dX10_wordsIn_5 1 rfl ?_
    refine gf_Mail_lines_N hX hkr1 qn174 dX10_wordsIn_6 ?_
    refine z_icmp_ge hX 31 dX10_wordsIn_9 (by decide) (fun h1 => ?_) (fun h1 => ?_)
    · replace hf := zif_pos h1 hf
      refine z_iload_n hX dX10_wordsIn_31 2 rfl ?_
      obtain rfl := Option.some.inj hf
      exact z_iret hX hr rfl (zl rfl) (zl rfl) dX10_wordsIn_32
    · replace hf := zif_neg h1 hf
      refine z_iload_n hX dX10_wordsIn_12 2 rfl ?_
      refine z_aload_n hX dX10_wordsIn_13 0 rfl ?_
      refine z_aload_n hX dX10_wordsIn_14 1 rfl ?_
      refine gf_Mail_kinds_N hX hkr1 qn171 dX10_wordsIn_15 ?_
      refine z_iload_n hX dX10_wordsIn_18 3 rfl ?_
      replace hf := zchk_some hf
      obtain ⟨h2, hf⟩ := hf
      refine z_iald hX (zk_Mail_kinds hkr1) (by decide) (zc_1024 _ _ _) h2 dX10_wordsIn_19 ?_
      replace hf := zb_some hf
      obtain ⟨r_3, h3, hf⟩ := hf
      refine z_callV1 hX ok_X10_wordsFor q579 q580 q581 (zrm_ok hR (by decide)) (ct_X10_wordsFor hkh h3) (zrec_World hX hkh) dX10_wordsIn_20 rfl rfl ?_
      refine z_iadd hX dX10_wordsIn_23 ?_
      refine z_istore_n (lv' := [(2, .int (v2 + r_3)), (0, .ref (zB X + h)), (1, .ref (zB X + r1)), (3, .int v3)]) hX dX10_wordsIn_24 hn (by decide) rfl ?_
      refine z_iincc (lv' := [(3, .int (v3 + 1)), (2, .int (v2 + r_3)), (0, .ref (zB X + h)), (1, .ref (zB X + r1))]) hX dX10_wordsIn_25 hn (by decide) 3 rfl ci_1 rfl ?_
      refine z_goto hX 4 dX10_wordsIn_28 (by decide) ?_
      refine zW.sub [2, 3, 1, 0] rfl ?_
      exact ih (v2 + r_3) (v3 + 1) hf
set_option maxHeartbeats 4000000 in
set_option maxRecDepth 100000 in
theorem fX10_wordsIn_ok {X : zX} (hX : zCX X cX10_wordsIn RX10) (hT : zNT X) (hR : X.2.2.2.1 = zrm 1 0) (hr : X.2.2.2.2.2.2.2.2.1.sig.returnType = (some .int)) (hn : X.2.2.2.2.2.2.2.2.2.1.maxLocals = 4) {h : Nat} {r1 : Nat} (hkh : zK h = 9) (hk1 : zK r1 = 3) {g : zM} {r : Int32} (hf : fX10_wordsIn h r1 g = some r) : zW X (zQ X (.inl (some (.int r), g)) 0) 0 0 0 [(0, .ref (zB X + h)), (1, .ref (zB X + r1))] [] g := by
  unfold fX10_wordsIn at hf
  refine z_iconst hX dX10_wordsIn_0 ci_0 ?_
  refine z_istore_n (lv' := [(2, .int 0), (0, .ref (zB X + h)), (1, .ref (zB X + r1))]) hX dX10_wordsIn_1 hn (by decide) rfl ?_
  refine z_iconst hX dX10_wordsIn_2 ci_0 ?_
  refine z_istore_n (lv' := [(3, .int 0), (2, .int 0), (0, .ref (zB X + h)), (1, .ref (zB X + r1))]) hX dX10_wordsIn_3 hn (by decide) rfl ?_
  refine zW.sub [2, 3, 1, 0] rfl ?_
  exact fX10_wordsIn_L4_ok hX hT hR hr hn hkh hk1 zFU 0 0 hf
set_option maxHeartbeats 4000000 in
set_option maxRecDepth 100000 in
theorem ct_X10_wordsIn {E : zE} {h : Nat} {r1 : Nat} (hkh : zK h = 9) (hk1 : zK r1 = 3) {g : zM} {r : Int32} (hf : fX10_wordsIn h r1 g = some r) : zCt yX10_wordsIn cX10_wordsIn 4 (some .int) 1 0 E [.ref (E.1 + h), .ref (E.1 + r1)] g (.inl (some (.int r), g)) := by
  refine zmet (by decide) (zl rfl) (fun X hE hX hT hR hr hn => ?_)
  subst hE
  exact fX10_wordsIn_ok hX hT hR hr hn hkh hk1 hf
def fX3_kindAt (h : Nat) (v1 : Int32) (g : zM) : Option Int32 := if v1 < 0 then some ((-1)) else if (g h 2) ≤ v1 then some ((-1)) else zchk v1 24 (some (g (h + 1) v1.toNatClampNeg))
set_option maxHeartbeats 4000000 in
set_option maxRecDepth 100000 in
theorem fX3_kindAt_ok {X : zX} (hX : zCX X cX3_kindAt RX3) (hT : zNT X) (hR : X.2.2.2.1 = zrm 0 0) (hr : X.2.2.2.2.2.2.2.2.1.sig.returnType = (some .int)) (hn : X.2.2.2.2.2.2.2.2.2.1.maxLocals = 2) {h : Nat} {v1 : Int32} (hkh : zK h = 3) {g : zM} {r : Int32} (hf : fX3_kindAt h v1 g = some r) : zW X (zQ X (.inl (some (.int r), g)) 0) 0 0 0 [(0, .ref (zB X + h)), (1, .int v1)] [] g := by
  unfold fX3_kindAt at hf
  refine z_iload_n hX dX3_kindAt_0 1 rfl ?_
  refine z_if_lt hX 21 dX3_kindAt_1 (by decide) (fun h1 => ?_) (fun h1 => ?_)
  · replace hf := zif_pos h1 hf
    refine z_iconst hX dX3_kindAt_21 ci_m1 ?_
    obtain rfl := Option.some.inj hf
    exact z_iret hX hr rfl (zl rfl) (zl rfl) dX3_kindAt_22
  · replace hf := zif_neg h1 hf
    refine z_iload_n hX dX3_kindAt_4 1 rfl ?_
    refine z_aload_n hX dX3_kindAt_5 0 rfl ?_
    refine gf_Mail_lines hX hkh q173 dX3_kindAt_6 ?_
    refine z_icmp_ge hX 21 dX3_kindAt_9 (by decide) (fun h2 => ?_) (fun h2 => ?_)
    · replace hf := zif_pos h2 hf
      refine z_iconst hX dX3_kindAt_21 ci_m1 ?_
      obtain rfl := Option.some.inj hf
      exact z_iret hX hr rfl (zl rfl) (zl rfl) dX3_kindAt_22
    · replace hf := zif_neg h2 hf
      refine z_aload_n hX dX3_kindAt_12 0 rfl ?_
      refine gf_Mail_kinds hX hkh q170 dX3_kindAt_13 ?_
      refine z_iload_n hX dX3_kindAt_16 1 rfl ?_
      replace hf := zchk_some hf
      obtain ⟨h3, hf⟩ := hf
      refine z_iald hX (zk_Mail_kinds hkh) (by decide) (zc_1024 _ _ _) h3 dX3_kindAt_17 ?_
      refine z_goto hX 22 dX3_kindAt_18 (by decide) ?_
      obtain rfl := Option.some.inj hf
      exact z_iret hX hr rfl (zl rfl) (zl rfl) dX3_kindAt_22
set_option maxHeartbeats 4000000 in
set_option maxRecDepth 100000 in
theorem ct_X3_kindAt {E : zE} {h : Nat} {v1 : Int32} (hkh : zK h = 3) {g : zM} {r : Int32} (hf : fX3_kindAt h v1 g = some r) : zCt yX3_kindAt cX3_kindAt 2 (some .int) 0 0 E [.ref (E.1 + h), .int v1] g (.inl (some (.int r), g)) := by
  refine zmet (by decide) (zl rfl) (fun X hE hX hT hR hr hn => ?_)
  subst hE
  exact fX3_kindAt_ok hX hT hR hr hn hkh hf
def fX3_lastKind (h : Nat) (g : zM) : Option Int32 := zb (fX3_kindAt h ((g h 2) - 1) g) (fun r_1 => some r_1)
set_option maxHeartbeats 4000000 in
set_option maxRecDepth 100000 in
theorem fX3_lastKind_ok {X : zX} (hX : zCX X cX3_lastKind RX3) (hT : zNT X) (hR : X.2.2.2.1 = zrm 1 0) (hr : X.2.2.2.2.2.2.2.2.1.sig.returnType = (some .int)) (hn : X.2.2.2.2.2.2.2.2.2.1.maxLocals = 1) {h : Nat} (hkh : zK h = 3) {g : zM} {r : Int32} (hf : fX3_lastKind h g = some r) : zW X (zQ X (.inl (some (.int r), g)) 0) 0 0 0 [(0, .ref (zB X + h))] [] g := by
  unfold fX3_lastKind at hf
  refine z_aload_n hX dX3_lastKind_0 0 rfl ?_
  refine z_aload_n hX dX3_lastKind_1 0 rfl ?_
  refine gf_Mail_lines hX hkh q173 dX3_lastKind_2 ?_
  refine z_iconst hX dX3_lastKind_5 ci_1 ?_
  refine z_isub hX dX3_lastKind_6 ?_
  replace hf := zb_some hf
  obtain ⟨r_1, h1, hf⟩ := hf
  refine z_callV1 hX ok_X3_kindAt q521 q522 q523 (zrm_ok hR (by decide)) (ct_X3_kindAt hkh h1) (zrec_Mail hX hkh) dX3_lastKind_7 rfl rfl ?_
  obtain rfl := Option.some.inj hf
  exact z_iret hX hr rfl (zl rfl) (zl rfl) dX3_lastKind_10
set_option maxHeartbeats 4000000 in
set_option maxRecDepth 100000 in
theorem ct_X3_lastKind {E : zE} {h : Nat} (hkh : zK h = 3) {g : zM} {r : Int32} (hf : fX3_lastKind h g = some r) : zCt yX3_lastKind cX3_lastKind 1 (some .int) 1 0 E [.ref (E.1 + h)] g (.inl (some (.int r), g)) := by
  refine zmet (by decide) (zl rfl) (fun X hE hX hT hR hr hn => ?_)
  subst hE
  exact fX3_lastKind_ok hX hT hR hr hn hkh hf
def fX11_seasonOf (v0 : Int32) (g : zM) : Option Int32 := some ((v0 / 13) - (v0 / 13) / 4 * 4)
set_option maxHeartbeats 4000000 in
set_option maxRecDepth 100000 in
theorem fX11_seasonOf_ok {X : zX} (hX : zCX X cX11_seasonOf RX11) (hT : zNT X) (hR : X.2.2.2.1 = zrm 0 0) (hr : X.2.2.2.2.2.2.2.2.1.sig.returnType = (some .int)) (hn : X.2.2.2.2.2.2.2.2.2.1.maxLocals = 1) {v0 : Int32} {g : zM} {r : Int32} (hf : fX11_seasonOf v0 g = some r) : zW X (zQ X (.inl (some (.int r), g)) 0) 0 0 0 [(0, .int v0)] [] g := by
  unfold fX11_seasonOf at hf
  refine z_iload_n hX dX11_seasonOf_0 0 rfl ?_
  refine z_bipush hX dX11_seasonOf_1 cb_13 ?_
  refine z_idiv hX dX11_seasonOf_3 (by decide) ?_
  refine z_iconst hX dX11_seasonOf_4 ci_4 ?_
  refine z_irem hX dX11_seasonOf_5 (by decide) ?_
  obtain rfl := Option.some.inj hf
  exact z_iret hX hr rfl (zl rfl) (zl rfl) dX11_seasonOf_6
set_option maxHeartbeats 4000000 in
set_option maxRecDepth 100000 in
theorem ct_X11_seasonOf {E : zE} {v0 : Int32} {g : zM} {r : Int32} (hf : fX11_seasonOf v0 g = some r) : zCt yX11_seasonOf cX11_seasonOf 1 (some .int) 0 0 E [.int v0] g (.inl (some (.int r), g)) := by
  refine zmet (by decide) (zl rfl) (fun X hE hX hT hR hr hn => ?_)
  subst hE
  exact fX11_seasonOf_ok hX hT hR hr hn  hf
def fX1_learnFacts (h : Nat) (r1 : Nat) (v2 : Int32) (v3 : Int32) (g : zM) : Option zM := zb (fX11_seasonOf v3 g) (fun r_1 => zjoin (fun t0_2 => zchk 0 8 (zput g (h + 6) (0 : Int32).toNatClampNeg t0_2 (fun g4 => zjoin (fun t0_5 => zchk 1 8 (zput g4 (h + 6) (1 : Int32).toNatClampNeg t0_5 (fun g7 => zchk 2 8 (zput g7 (h + 6) (2 : Int32).toNatClampNeg v2 (fun g9 => zchk 3 8 (zput g9 (h + 6) (3 : Int32).toNatClampNeg (g9 r1 3) (fun g11 => zjoin (fun t0_12 => zchk 4 8 (zput g11 (h + 6) (4 : Int32).toNatClampNeg t0_12 (fun g14 => zchk 5 8 (zput g14 (h + 6) (5 : Int32).toNatClampNeg v3 (fun g16 => zchk 6 8 (zput g16 (h + 6) (6 : Int32).toNatClampNeg r_1 (fun g18 => zchk 7 8 (zput g18 (h + 6) (7 : Int32).toNatClampNeg (g18 r1 4) (fun g20 => some g20)))))))) : Int32 → Option zM) (fun k80 => if 2 ≤ v2 then zb (fX3_kindAt r1 (v2 - 2) g11) (fun r_22 => k80 r_22) else k80 12))))))) : Int32 → Option zM) (fun k40 => if r_1 = 3 then k40 1 else k40 0))) : Int32 → Option zM) (fun k23 => if (g r1 6) = 0 then k23 0 else k23 1))
set_option maxHeartbeats 4000000 in
set_option maxRecDepth 100000 in
theorem fX1_learnFacts_ok {X : zX} (hX : zCX X cX1_learnFacts RX1) (hT : zNT X) (hR : X.2.2.2.1 = zrm 1 0) (hr : X.2.2.2.2.2.2.2.2.1.sig.returnType = none) (hn : X.2.2.2.2.2.2.2.2.2.1.maxLocals = 5) {h : Nat} {r1 : Nat} {v2 : Int32} {v3 : Int32} (hkh : zK h = 1) (hk1 : zK r1 = 3) {g : zM} {r : zM} (hf : fX1_learnFacts h r1 v2 v3 g = some r) : zW X (zQ X (.inl (none, r)) 0) 0 0 0 [(0, .ref (zB X + h)), (1, .ref (zB X + r1)), (2, .int v2), (3, .int v3)] [] g := by
  unfold fX1_learnFacts at hf
  refine z_iload_n hX dX1_learnFacts_0 3 rfl ?_
  replace hf := zb_some hf
  obtain ⟨r_1, h1, hf⟩ := hf
  refine z_callSN1 hX ok_X11_seasonOf qn542 q543 (zrm_ok hR (by decide)) (ct_X11_seasonOf  h1) dX1_learnFacts_1 rfl rfl ?_
  refine z_istore (lv' := [(4, .int r_1), (0, .ref (zB X + h)), (1, .ref (zB X + r1)), (2, .int v2), (3, .int v3)]) hX dX1_learnFacts_4 hn (by decide) rfl ?_
  refine z_aload_n hX dX1_learnFacts_6 1 rfl ?_
  refine gf_Law_facts hX hkh q246 dX1_learnFacts_7 ?_
  refine z_iconst hX dX1_learnFacts_10 ci_0 ?_
  refine z_aload_n hX dX1_learnFacts_11 2 rfl ?_
  refine gf_Mail_hot_N hX hk1 qn194 dX1_learnFacts_12 ?_
  refine zjoin_ok (P := fun (k : Int32 → Option zM) => ∀ (t0_2 : Int32), k t0_2 = some r → zW X (zQ X (.inl (none, r)) 0) 0 0 23 [(0, .ref (zB X + h)), (1, .ref (zB X + r1)), (2, .int v2), (3, .int v3), (4, .int r_1)] [.int t0_2, .int 0, .ref (zB X + (h + 6))] g) hf (fun t0_2 hf => ?_) (fun k23 hk23 hf => ?_)
  · replace hf := zchk_some hf
    obtain ⟨h3, hf⟩ := hf
    replace hf := zput_some hf
    obtain ⟨g4, eg4, hf⟩ := hf
    refine z_iast hX (zk_Law_facts hkh) (by decide) (zc_1008 _ _) h3 dX1_learnFacts_23 (zW.eqg eg4 ?_)
    refine z_aload_n hX dX1_learnFacts_24 0 rfl ?_
    refine gf_Law_facts hX hkh q246 dX1_learnFacts_25 ?_
    refine z_iconst hX dX1_learnFacts_28 ci_1 ?_
    refine z_iload hX dX1_learnFacts_29 4 rfl ?_
    refine z_iconst hX dX1_learnFacts_31 ci_3 ?_
    refine zjoin_ok (P := fun (k : Int32 → Option zM) => ∀ (t0_5 : Int32), k t0_5 = some r → zW X (zQ X (.inl (none, r)) 0) 0 0 40 [(0, .ref (zB X + h)), (1, .ref (zB X + r1)), (2, .int v2), (3, .int v3), (4, .int r_1)] [.int t0_5, .int 1, .ref (zB X + (h + 6))] g4) hf (fun t0_5 hf => ?_) (fun k40 hk40 hf => ?_)
    · replace hf := zchk_some hf
      obtain ⟨h6, hf⟩ := hf
      replace hf := zput_some hf
      obtain ⟨g7, eg7, hf⟩ := hf
      refine z_iast hX (zk_Law_facts hkh) (by decide) (zc_1008 _ _) h6 dX1_learnFacts_40 (zW.eqg eg7 ?_)
      refine z_aload_n hX dX1_learnFacts_41 0 rfl ?_
      refine gf_Law_facts hX hkh q246 dX1_learnFacts_42 ?_
      refine z_iconst hX dX1_learnFacts_45 ci_2 ?_
      refine z_iload_n hX dX1_learnFacts_46 2 rfl ?_
      replace hf := zchk_some hf
      obtain ⟨h8, hf⟩ := hf
      replace hf := zput_some hf
      obtain ⟨g9, eg9, hf⟩ := hf
      refine z_iast hX (zk_Law_facts hkh) (by decide) (zc_1008 _ _) h8 dX1_learnFacts_47 (zW.eqg eg9 ?_)
      refine z_aload_n hX dX1_learnFacts_48 0 rfl ?_
      refine gf_Law_facts hX hkh q246 dX1_learnFacts_49 ?_
      refine z_iconst hX dX1_learnFacts_52 ci_3 ?_
      refine z_aload_n hX dX1_learnFacts_53 1 rfl ?_
      refine gf_Mail_temper_N hX hk1 qn180 dX1_learnFacts_54 ?_
      replace hf := zchk_some hf
      obtain ⟨h10, hf⟩ := hf
      replace hf := zput_some hf
      obtain ⟨g11, eg11, hf⟩ := hf
      refine z_iast hX (zk_Law_facts hkh) (by decide) (zc_1008 _ _) h10 dX1_learnFacts_57 (zW.eqg eg11 ?_)
      refine z_aload_n hX dX1_learnFacts_58 0 rfl ?_
      refine gf_Law_facts hX hkh q246 dX1_learnFacts_59 ?_
      refine z_iconst hX dX1_learnFacts_62 ci_4 ?_
      refine z_iload_n hX dX1_learnFacts_63 2 rfl ?_
      refine z_iconst hX dX1_learnFacts_64 ci_2 ?_
      refine zjoin_ok (P := fun (k : Int32 → Option zM) => ∀ (t0_12 : Int32), k t0_12 = some r → zW X (zQ X (.inl (none, r)) 0) 0 0 80 [(0, .ref (zB X + h)), (1, .ref (zB X + r1)), (3, .int v3), (4, .int r_1)] [.int t0_12, .int 4, .ref (zB X + (h + 6))] g11) hf (fun t0_12 hf => ?_) (fun k80 hk80 hf => ?_)
      · replace hf := zchk_some hf
        obtain ⟨h13, hf⟩ := hf
        replace hf := zput_some hf
        obtain ⟨g14, eg14, hf⟩ := hf
        refine z_iast hX (zk_Law_facts hkh) (by decide) (zc_1008 _ _) h13 dX1_learnFacts_80 (zW.eqg eg14 ?_)
        refine z_aload_n hX dX1_learnFacts_81 0 rfl ?_
        refine gf_Law_facts hX hkh q246 dX1_learnFacts_82 ?_
        refine z_iconst hX dX1_learnFacts_85 ci_5 ?_
        refine z_iload_n hX dX1_learnFacts_86 2 rfl ?_
        replace hf := zchk_some hf
        obtain ⟨h15, hf⟩ := hf
        replace hf := zput_some hf
        obtain ⟨g16, eg16, hf⟩ := hf
        refine z_iast hX (zk_Law_facts hkh) (by decide) (zc_1008 _ _) h15 dX1_learnFacts_87 (zW.eqg eg16 ?_)
        refine z_aload_n hX dX1_learnFacts_88 0 rfl ?_
        refine gf_Law_facts hX hkh q246 dX1_learnFacts_89 ?_
        refine z_bipush hX dX1_learnFacts_92 cb_6 ?_
        refine z_iload hX dX1_learnFacts_94 3 rfl ?_
        replace hf := zchk_some hf
        obtain ⟨h17, hf⟩ := hf
        replace hf := zput_some hf
        obtain ⟨g18, eg18, hf⟩ := hf
        refine z_iast hX (zk_Law_facts hkh) (by decide) (zc_1008 _ _) h17 dX1_learnFacts_96 (zW.eqg eg18 ?_)
        refine z_aload_n hX dX1_learnFacts_97 0 rfl ?_
        refine gf_Law_facts hX hkh q246 dX1_learnFacts_98 ?_
        refine z_bipush hX dX1_learnFacts_101 cb_7 ?_
        refine z_aload_n hX dX1_learnFacts_103 1 rfl ?_
        refine gf_Mail_sender_N hX hk1 qn183 dX1_learnFacts_104 ?_
        replace hf := zchk_some hf
        obtain ⟨h19, hf⟩ := hf
        replace hf := zput_some hf
        obtain ⟨g20, eg20, hf⟩ := hf
        refine z_iast hX (zk_Law_facts hkh) (by decide) (zc_1008 _ _) h19 dX1_learnFacts_107 (zW.eqg eg20 ?_)
        obtain rfl := Option.some.inj hf
        exact z_vret hX hr (zl rfl) (zl rfl) dX1_learnFacts_108
      · refine z_icmp_ge hX 73 dX1_learnFacts_65 (by decide) (fun h21 => ?_) (fun h21 => ?_)
        · replace hf := zif_pos h21 hf
          refine z_aload_n hX dX1_learnFacts_73 1 rfl ?_
          refine z_iload_n hX dX1_learnFacts_74 2 rfl ?_
          refine z_iconst hX dX1_learnFacts_75 ci_2 ?_
          refine z_isub hX dX1_learnFacts_76 ?_
          replace hf := zb_some hf
          obtain ⟨r_22, h22, hf⟩ := hf
          refine z_callV1 hX ok_X3_kindAt q537 q522 q523 (zrm_ok hR (by decide)) (ct_X3_kindAt hk1 h22) (zrec_Mail hX hk1) dX1_learnFacts_77 rfl rfl ?_
          refine zW.sub [0, 1, 3, 4] rfl ?_
          exact hk80 r_22 hf
        · replace hf := zif_neg h21 hf
          refine z_bipush hX dX1_learnFacts_68 cb_12 ?_
          refine z_goto hX 80 dX1_learnFacts_70 (by decide) ?_
          refine zW.sub [0, 1, 3, 4] rfl ?_
          exact hk80 12 hf
    · refine z_icmp_ne hX 39 dX1_learnFacts_32 (by decide) (fun h23 => ?_) (fun h23 => ?_)
      · replace hf := zif_neg h23 hf
        refine z_iconst hX dX1_learnFacts_39 ci_0 ?_
        exact hk40 0 hf
      · replace hf := zif_pos h23 hf
        refine z_iconst hX dX1_learnFacts_35 ci_1 ?_
        refine z_goto hX 40 dX1_learnFacts_36 (by decide) ?_
        exact hk40 1 hf
  · refine z_if_eq hX 22 dX1_learnFacts_15 (by decide) (fun h24 => ?_) (fun h24 => ?_)
    · replace hf := zif_pos h24 hf
      refine z_iconst hX dX1_learnFacts_22 ci_0 ?_
      refine zW.sub [1, 2, 3, 4, 0] rfl ?_
      exact hk23 0 hf
    · replace hf := zif_neg h24 hf
      refine z_iconst hX dX1_learnFacts_18 ci_1 ?_
      refine z_goto hX 23 dX1_learnFacts_19 (by decide) ?_
      refine zW.sub [1, 2, 3, 4, 0] rfl ?_
      exact hk23 1 hf
set_option maxHeartbeats 4000000 in
set_option maxRecDepth 100000 in
theorem ct_X1_learnFacts {E : zE} {h : Nat} {r1 : Nat} {v2 : Int32} {v3 : Int32} (hkh : zK h = 1) (hk1 : zK r1 = 3) {g : zM} {r : zM} (hf : fX1_learnFacts h r1 v2 v3 g = some r) : zCt yX1_learnFacts cX1_learnFacts 5 none 1 0 E [.ref (E.1 + h), .ref (E.1 + r1), .int v2, .int v3] g (.inl (none, r)) := by
  refine zmet (by decide) (zl rfl) (fun X hE hX hT hR hr hn => ?_)
  subst hE
  exact fX1_learnFacts_ok hX hT hR hr hn hkh hk1 hf
def fX1_join (v0 : Int32) (v1 : Int32) (v2 : Int32) (g : zM) : Option Int32 := if v0 = 1009 then some (v1 &&& v2) else if v0 = 1143 then some (v1 + v2) else if v0 = 1160 then if v2 ≤ v1 then some 0 else some 1 else if v0 = 1162 then if v1 ≤ v2 then some 0 else some 1 else some (v1 ||| v2)
set_option maxHeartbeats 4000000 in
set_option maxRecDepth 100000 in
theorem fX1_join_ok {X : zX} (hX : zCX X cX1_join RX1) (hT : zNT X) (hR : X.2.2.2.1 = zrm 0 0) (hr : X.2.2.2.2.2.2.2.2.1.sig.returnType = (some .int)) (hn : X.2.2.2.2.2.2.2.2.2.1.maxLocals = 3) {v0 : Int32} {v1 : Int32} {v2 : Int32} {g : zM} {r : Int32} (hf : fX1_join v0 v1 v2 g = some r) : zW X (zQ X (.inl (some (.int r), g)) 0) 0 0 0 [(0, .int v0), (1, .int v1), (2, .int v2)] [] g := by
  unfold fX1_join at hf
  refine z_iload_n hX dX1_join_0 0 rfl ?_
  by_cases h1 : v0 = 1009
  · replace hf := zif_pos h1 hf
    refine z_lookup hX 70 dX1_join_1 (by decide) (by rw [h1]; try rfl) (by decide) ?_
    refine z_iload_n hX dX1_join_70 1 rfl ?_
    refine z_iload_n hX dX1_join_71 2 rfl ?_
    refine z_iand hX dX1_join_72 ?_
    obtain rfl := Option.some.inj hf
    exact z_iret hX hr rfl (zl rfl) (zl rfl) dX1_join_73
  replace hf := zif_neg h1 hf
  by_cases h2 : v0 = 1143
  · replace hf := zif_pos h2 hf
    refine z_lookup hX 44 dX1_join_1 (by decide) (by rw [h2]; try rfl) (by decide) ?_
    refine z_iload_n hX dX1_join_44 1 rfl ?_
    refine z_iload_n hX dX1_join_45 2 rfl ?_
    refine z_iadd hX dX1_join_46 ?_
    obtain rfl := Option.some.inj hf
    exact z_iret hX hr rfl (zl rfl) (zl rfl) dX1_join_47
  replace hf := zif_neg h2 hf
  by_cases h3 : v0 = 1160
  · replace hf := zif_pos h3 hf
    refine z_lookup hX 48 dX1_join_1 (by decide) (by rw [h3]; try rfl) (by decide) ?_
    refine z_iload_n hX dX1_join_48 1 rfl ?_
    refine z_iload_n hX dX1_join_49 2 rfl ?_
    refine z_icmp_ge hX 57 dX1_join_50 (by decide) (fun h4 => ?_) (fun h4 => ?_)
    · replace hf := zif_pos h4 hf
      refine z_iconst hX dX1_join_57 ci_0 ?_
      obtain rfl := Option.some.inj hf
      exact z_iret hX hr rfl (zl rfl) (zl rfl) dX1_join_58
    · replace hf := zif_neg h4 hf
      refine z_iconst hX dX1_join_53 ci_1 ?_
      refine z_goto hX 58 dX1_join_54 (by decide) ?_
      obtain rfl := Option.some.inj hf
      exact z_iret hX hr rfl (zl rfl) (zl rfl) dX1_join_58
  replace hf := zif_neg h3 hf
  by_cases h5 : v0 = 1162
  · replace hf := zif_pos h5 hf
    refine z_lookup hX 59 dX1_join_1 (by decide) (by rw [h5]; try rfl) (by decide) ?_
    refine z_iload_n hX dX1_join_59 1 rfl ?_
    refine z_iload_n hX dX1_join_60 2 rfl ?_
    refine z_icmp_le hX 68 dX1_join_61 (by decide) (fun h6 => ?_) (fun h6 => ?_)
    · replace hf := zif_pos h6 hf
      refine z_iconst hX dX1_join_68 ci_0 ?_
      obtain rfl := Option.some.inj hf
      exact z_iret hX hr rfl (zl rfl) (zl rfl) dX1_join_69
    · replace hf := zif_neg h6 hf
      refine z_iconst hX dX1_join_64 ci_1 ?_
      refine z_goto hX 69 dX1_join_65 (by decide) ?_
      obtain rfl := Option.some.inj hf
      exact z_iret hX hr rfl (zl rfl) (zl rfl) dX1_join_69
  replace hf := zif_neg h5 hf
  refine z_lookup hX 74 dX1_join_1 (by decide) (zlk_out [1009, 1143, 1160, 1162] rfl (fun v hv => ?_)) (by decide) ?_
  · simp only [List.mem_cons, List.not_mem_nil, or_false] at hv
    rcases hv with rfl | rfl | rfl | rfl
    · exact fun e => h1 (e.trans (by decide))
    · exact fun e => h2 (e.trans (by decide))
    · exact fun e => h3 (e.trans (by decide))
    · exact fun e => h5 (e.trans (by decide))
  refine z_iload_n hX dX1_join_74 1 rfl ?_
  refine z_iload_n hX dX1_join_75 2 rfl ?_
  refine z_ior hX dX1_join_76 ?_
  obtain rfl := Option.some.inj hf
  exact z_iret hX hr rfl (zl rfl) (zl rfl) dX1_join_77
set_option maxHeartbeats 4000000 in
set_option maxRecDepth 100000 in
theorem ct_X1_join {E : zE} {v0 : Int32} {v1 : Int32} {v2 : Int32} {g : zM} {r : Int32} (hf : fX1_join v0 v1 v2 g = some r) : zCt yX1_join cX1_join 3 (some .int) 0 0 E [.int v0, .int v1, .int v2] g (.inl (some (.int r), g)) := by
  refine zmet (by decide) (zl rfl) (fun X hE hX hT hR hr hn => ?_)
  subst hE
  exact fX1_join_ok hX hT hR hr hn  hf
def fX1_isMet_L22 (h : Nat) (v1 : Int32) (k176 : Int32 → zM → Option (Int32 × zM)) : Nat → Int32 → Int32 → zM → Option (Int32 × zM)
  | 0, _, _, _ => none
  | n + 1, v2, v4, g => zchk v1 12 (if (g (h + 3) v1.toNatClampNeg) ≤ v4 then k176 v2 g else if (g h 6) ≤ v4 then k176 v2 g else zchk v4 400 (zjoin (zjoin (if v2 ≤ 1 then fX1_isMet_L22 h v1 k176 n v2 (v4 + 1) g else zchk ((v2 + (-1)) - 1) 400 (zchk (v2 + (-1)) 400 (zb (fX1_join (g (h + 4) v4.toNatClampNeg) (g (h + 5) ((v2 + (-1)) - 1).toNatClampNeg) (g (h + 5) (v2 + (-1)).toNatClampNeg) g) (fun r_11 => zchk ((v2 + (-1)) - 1) 400 (zput g (h + 5) ((v2 + (-1)) - 1).toNatClampNeg r_11 (fun g13 => fX1_isMet_L22 h v1 k176 n (v2 + (-1)) (v4 + 1) g13))))) : Option (Int32 × zM)) (fun k135 => if (g (h + 4) v4.toNatClampNeg) = 1008 then if v2 ≤ 0 then k135 else zchk (v2 - 1) 400 (zchk (v2 - 1) 400 (zput g (h + 5) (v2 - 1).toNatClampNeg (1 - (g (h + 5) (v2 - 1).toNatClampNeg)) (fun g18 => fX1_isMet_L22 h v1 k176 n v2 (v4 + 1) g18))) else k135) : Option (Int32 × zM)) (fun k102 => if 1007 < (g (h + 4) v4.toNatClampNeg) then k102 else if 400 ≤ v2 then k102 else if (g (h + 4) v4.toNatClampNeg) < 1000 then zchk v2 400 (zput g (h + 5) v2.toNatClampNeg (g (h + 4) v4.toNatClampNeg) (fun g23 => fX1_isMet_L22 h v1 k176 n (v2 + 1) (v4 + 1) g23)) else zchk ((g (h + 4) v4.toNatClampNeg) - 1000) 8 (zchk v2 400 (zput g (h + 5) v2.toNatClampNeg (g (h + 6) ((g (h + 4) v4.toNatClampNeg) - 1000).toNatClampNeg) (fun g26 => fX1_isMet_L22 h v1 k176 n (v2 + 1) (v4 + 1) g26))))))
def fX1_isMet (h : Nat) (v1 : Int32) (g : zM) : Option (Int32 × zM) := if v1 ≤ 0 then fX1_isMet_L22 h v1 (fun v2_27 g27 => if v2_27 = 0 then some (1, g27) else zchk (v2_27 - 1) 400 (if (g27 (h + 5) (v2_27 - 1).toNatClampNeg) = 0 then some (0, g27) else some (1, g27))) zFU 0 0 g else zchk (v1 - 1) 12 (fX1_isMet_L22 h v1 (fun v2_32 g32 => if v2_32 = 0 then some (1, g32) else zchk (v2_32 - 1) 400 (if (g32 (h + 5) (v2_32 - 1).toNatClampNeg) = 0 then some (0, g32) else some (1, g32))) zFU 0 (g (h + 3) (v1 - 1).toNatClampNeg) g)
set_option maxHeartbeats 4000000 in
set_option maxRecDepth 100000 in
theorem fX1_isMet_L22_ok {X : zX} (hX : zCX X cX1_isMet RX1) (hT : zNT X) (hR : X.2.2.2.1 = zrm 1 0) (hr : X.2.2.2.2.2.2.2.2.1.sig.returnType = (some .boolean)) (hn : X.2.2.2.2.2.2.2.2.2.1.maxLocals = 6) {h : Nat} {v1 : Int32} (hkh : zK h = 1) {k176 : Int32 → zM → Option (Int32 × zM)} {r : Int32 × zM} (hk176 : ∀ (v2 : Int32) (g : zM), k176 v2 g = some r → zW X (zQ X (.inl (some (.int r.1), r.2)) 0) 0 0 176 [(0, .ref (zB X + h)), (2, .int v2)] [] g) : ∀ (n : Nat) (v2 : Int32) (v4 : Int32) (g : zM), fX1_isMet_L22 h v1 k176 n v2 v4 g = some r → zW X (zQ X (.inl (some (.int r.1), r.2)) 0) 0 0 22 [(0, .ref (zB X + h)), (1, .int v1), (2, .int v2), (4, .int v4)] [] g := by
  intro n
  induction n with
  | zero => intro v2 v4 g hf; exact zno hf
  | succ n ih =>
    intro v2 v4 g hf
    rw [fX1_isMet_L22] at hf
    refine z_iload hX dX1_isMet_22 3 rfl ?_
    refine z_aload_n hX dX1_isMet_24 0 rfl ?_
    refine gf_Law_ends hX hkh q243 dX1_isMet_25 ?_
    refine z_iload_n hX dX1_isMet_28 1 rfl ?_
    replace hf := zchk_some hf
    obtain ⟨h2, hf⟩ := hf
    refine z_iald hX (zk_Law_ends hkh) (by decide) (zc_1012 _ _ _) h2 dX1_isMet_29 ?_
    refine z_icmp_ge hX 176 dX1_isMet_30 (by decide) (fun h3 => ?_) (fun h3 => ?_)
    · replace hf := zif_pos h3 hf
      refine zW.sub [0, 2] rfl ?_
      exact hk176 v2 g hf
    · replace hf := zif_neg h3 hf
      refine z_iload hX dX1_isMet_33 3 rfl ?_
      refine z_aload_n hX dX1_isMet_35 0 rfl ?_
      refine gf_Law_codeSize hX hkh q247 dX1_isMet_36 ?_
      refine z_icmp_ge hX 176 dX1_isMet_39 (by decide) (fun h4 => ?_) (fun h4 => ?_)
      · replace hf := zif_pos h4 hf
        refine zW.sub [0, 2] rfl ?_
        exact hk176 v2 g hf
      · replace hf := zif_neg h4 hf
        refine z_aload_n hX dX1_isMet_42 0 rfl ?_
        refine gf_Law_codes hX hkh q244 dX1_isMet_43 ?_
        refine z_iload hX dX1_isMet_46 3 rfl ?_
        replace hf := zchk_some hf
        obtain ⟨h5, hf⟩ := hf
        refine z_iald hX (zk_Law_codes hkh) (by decide) (zc_1400 _ _ _) h5 dX1_isMet_48 ?_
        refine z_istore (lv' := [(5, .int (g (h + 4) v4.toNatClampNeg)), (0, .ref (zB X + h)), (1, .int v1), (2, .int v2), (4, .int v4)]) hX dX1_isMet_49 hn (by decide) rfl ?_
        refine z_iload hX dX1_isMet_51 0 rfl ?_
        refine z_sipush hX dX1_isMet_53 cs_1007 ?_
        refine zjoin_ok (P := fun (k : Option (Int32 × zM)) => k = some r → zW X (zQ X (.inl (some (.int r.1), r.2)) 0) 0 0 102 [(0, .ref (zB X + h)), (1, .int v1), (2, .int v2), (4, .int v4), (5, .int (g (h + 4) v4.toNatClampNeg))] [] g) hf (fun hf => ?_) (fun k102 hk102 hf => ?_)
        · refine z_iload hX dX1_isMet_102 4 rfl ?_
          refine z_sipush hX dX1_isMet_104 cs_1008 ?_
          refine zjoin_ok (P := fun (k : Option (Int32 × zM)) => k = some r → zW X (zQ X (.inl (some (.int r.1), r.2)) 0) 0 0 135 [(0, .ref (zB X + h)), (1, .int v1), (2, .int v2), (4, .int v4), (5, .int (g (h + 4) v4.toNatClampNeg))] [] g) hf (fun hf => ?_) (fun k135 hk135 hf => ?_)
          · refine z_iload_n hX dX1_isMet_135 2 rfl ?_
            refine z_iconst hX dX1_isMet_136 ci_1 ?_
            refine z_icmp_le hX 170 dX1_isMet_137 (by decide) (fun h8 => ?_) (fun h8 => ?_)
            · replace hf := zif_pos h8 hf
              refine z_iincc (lv' := [(4, .int (v4 + 1)), (0, .ref (zB X + h)), (1, .int v1), (2, .int v2), (5, .int (g (h + 4) v4.toNatClampNeg))]) hX dX1_isMet_170 hn (by decide) 3 rfl ci_1 rfl ?_
              refine z_goto hX 22 dX1_isMet_173 (by decide) ?_
              refine zW.sub [1, 2, 3, 0] rfl ?_
              exact ih v2 (v4 + 1) g hf
            · replace hf := zif_neg h8 hf
              refine z_iincc (lv' := [(2, .int (v2 + (-1))), (0, .ref (zB X + h)), (1, .int v1), (4, .int v4), (5, .int (g (h + 4) v4.toNatClampNeg))]) hX dX1_isMet_140 hn (by decide) 2 rfl ci_m1 rfl ?_
              refine z_aload_n hX dX1_isMet_143 1 rfl ?_
              refine gf_Law_stack hX hkh q245 dX1_isMet_144 ?_
              refine z_iload_n hX dX1_isMet_147 0 rfl ?_
              refine z_iconst hX dX1_isMet_148 ci_1 ?_
              refine z_isub hX dX1_isMet_149 ?_
              refine z_iload hX dX1_isMet_150 4 rfl ?_
              refine z_aload_n hX dX1_isMet_152 1 rfl ?_
              refine gf_Law_stack hX hkh q245 dX1_isMet_153 ?_
              refine z_iload_n hX dX1_isMet_156 0 rfl ?_
              refine z_iconst hX dX1_isMet_157 ci_1 ?_
              refine z_isub hX dX1_isMet_158 ?_
              replace hf := zchk_some hf
              obtain ⟨h9, hf⟩ := hf
              refine z_iald hX (zk_Law_stack hkh) (by decide) (zc_1400 _ _ _) h9 dX1_isMet_159 ?_
              refine z_aload_n hX dX1_isMet_160 1 rfl ?_
              refine gf_Law_stack hX hkh q245 dX1_isMet_161 ?_
              refine z_iload_n hX dX1_isMet_164 0 rfl ?_
              replace hf := zchk_some hf
              obtain ⟨h10, hf⟩ := hf
              refine z_iald hX (zk_Law_stack hkh) (by decide) (zc_1400 _ _ _) h10 dX1_isMet_165 ?_
              replace hf := zb_some hf
              obtain ⟨r_11, h11, hf⟩ := hf
              refine z_callS1 hX ok_X1_join rfl q549 q550 (zrm_ok hR (by decide)) (ct_X1_join  h11) dX1_isMet_166 rfl rfl ?_
              replace hf := zchk_some hf
              obtain ⟨h12, hf⟩ := hf
              replace hf := zput_some hf
              obtain ⟨g13, eg13, hf⟩ := hf
              refine z_iast hX (zk_Law_stack hkh) (by decide) (zc_1400 _ _) h12 dX1_isMet_169 (zW.eqg eg13 ?_)
              refine z_iincc (lv' := [(4, .int (v4 + 1)), (2, .int (v2 + (-1))), (0, .ref (zB X + h)), (1, .int v1), (5, .int (g (h + 4) v4.toNatClampNeg))]) hX dX1_isMet_170 hn (by decide) 3 rfl ci_1 rfl ?_
              refine z_goto hX 22 dX1_isMet_173 (by decide) ?_
              refine zW.sub [2, 3, 1, 0] rfl ?_
              exact ih (v2 + (-1)) (v4 + 1) g13 hf
          · refine z_icmp_ne hX 135 dX1_isMet_107 (by decide) (fun h14 => ?_) (fun h14 => ?_)
            · replace hf := zif_neg h14 hf
              exact hk135 hf
            · replace hf := zif_pos h14 hf
              refine z_iload_n hX dX1_isMet_110 2 rfl ?_
              refine z_if_le hX 135 dX1_isMet_111 (by decide) (fun h15 => ?_) (fun h15 => ?_)
              · replace hf := zif_pos h15 hf
                exact hk135 hf
              · replace hf := zif_neg h15 hf
                refine z_aload_n hX dX1_isMet_114 0 rfl ?_
                refine gf_Law_stack hX hkh q245 dX1_isMet_115 ?_
                refine z_iload_n hX dX1_isMet_118 2 rfl ?_
                refine z_iconst hX dX1_isMet_119 ci_1 ?_
                refine z_isub hX dX1_isMet_120 ?_
                refine z_iconst hX dX1_isMet_121 ci_1 ?_
                refine z_aload_n hX dX1_isMet_122 0 rfl ?_
                refine gf_Law_stack hX hkh q245 dX1_isMet_123 ?_
                refine z_iload_n hX dX1_isMet_126 2 rfl ?_
                refine z_iconst hX dX1_isMet_127 ci_1 ?_
                refine z_isub hX dX1_isMet_128 ?_
                replace hf := zchk_some hf
                obtain ⟨h16, hf⟩ := hf
                refine z_iald hX (zk_Law_stack hkh) (by decide) (zc_1400 _ _ _) h16 dX1_isMet_129 ?_
                refine z_isub hX dX1_isMet_130 ?_
                replace hf := zchk_some hf
                obtain ⟨h17, hf⟩ := hf
                replace hf := zput_some hf
                obtain ⟨g18, eg18, hf⟩ := hf
                refine z_iast hX (zk_Law_stack hkh) (by decide) (zc_1400 _ _) h17 dX1_isMet_131 (zW.eqg eg18 ?_)
                refine z_goto hX 170 dX1_isMet_132 (by decide) ?_
                refine z_iincc (lv' := [(4, .int (v4 + 1)), (0, .ref (zB X + h)), (1, .int v1), (2, .int v2), (5, .int (g (h + 4) v4.toNatClampNeg))]) hX dX1_isMet_170 hn (by decide) 3 rfl ci_1 rfl ?_
                refine z_goto hX 22 dX1_isMet_173 (by decide) ?_
                refine zW.sub [1, 2, 3, 0] rfl ?_
                exact ih v2 (v4 + 1) g18 hf
        · refine z_icmp_gt hX 102 dX1_isMet_56 (by decide) (fun h19 => ?_) (fun h19 => ?_)
          · replace hf := zif_pos h19 hf
            refine zW.sub [1, 2, 3, 4, 0] rfl ?_
            exact hk102 hf
          · replace hf := zif_neg h19 hf
            refine z_iload_n hX dX1_isMet_59 3 rfl ?_
            refine z_sipush hX dX1_isMet_60 cs_400 ?_
            refine z_icmp_ge hX 102 dX1_isMet_63 (by decide) (fun h20 => ?_) (fun h20 => ?_)
            · replace hf := zif_pos h20 hf
              refine zW.sub [1, 2, 3, 4, 0] rfl ?_
              exact hk102 hf
            · replace hf := zif_neg h20 hf
              refine z_aload_n hX dX1_isMet_66 1 rfl ?_
              refine gf_Law_stack hX hkh q245 dX1_isMet_67 ?_
              refine z_iload_n hX dX1_isMet_70 3 rfl ?_
              refine z_iload hX dX1_isMet_71 0 rfl ?_
              refine z_sipush hX dX1_isMet_73 cs_1000 ?_
              refine z_icmp_lt hX 93 dX1_isMet_76 (by decide) (fun h21 => ?_) (fun h21 => ?_)
              · replace hf := zif_pos h21 hf
                refine z_iload hX dX1_isMet_93 0 rfl ?_
                replace hf := zchk_some hf
                obtain ⟨h22, hf⟩ := hf
                replace hf := zput_some hf
                obtain ⟨g23, eg23, hf⟩ := hf
                refine z_iast hX (zk_Law_stack hkh) (by decide) (zc_1400 _ _) h22 dX1_isMet_95 (zW.eqg eg23 ?_)
                refine z_iincc (lv' := [(2, .int (v2 + 1)), (5, .int (g (h + 4) v4.toNatClampNeg)), (0, .ref (zB X + h)), (1, .int v1), (4, .int v4)]) hX dX1_isMet_96 hn (by decide) 3 rfl ci_1 rfl ?_
                refine z_goto hX 170 dX1_isMet_99 (by decide) ?_
                refine z_iincc (lv' := [(4, .int (v4 + 1)), (2, .int (v2 + 1)), (5, .int (g (h + 4) v4.toNatClampNeg)), (0, .ref (zB X + h)), (1, .int v1)]) hX dX1_isMet_170 hn (by decide) 4 rfl ci_1 rfl ?_
                refine z_goto hX 22 dX1_isMet_173 (by decide) ?_
                refine zW.sub [3, 4, 1, 0] rfl ?_
                exact ih (v2 + 1) (v4 + 1) g23 hf
              · replace hf := zif_neg h21 hf
                refine z_aload_n hX dX1_isMet_79 1 rfl ?_
                refine gf_Law_facts hX hkh q246 dX1_isMet_80 ?_
                refine z_iload hX dX1_isMet_83 0 rfl ?_
                refine z_sipush hX dX1_isMet_85 cs_1000 ?_
                refine z_isub hX dX1_isMet_88 ?_
                replace hf := zchk_some hf
                obtain ⟨h24, hf⟩ := hf
                refine z_iald hX (zk_Law_facts hkh) (by decide) (zc_1008 _ _ _) h24 dX1_isMet_89 ?_
                refine z_goto hX 95 dX1_isMet_90 (by decide) ?_
                replace hf := zchk_some hf
                obtain ⟨h25, hf⟩ := hf
                replace hf := zput_some hf
                obtain ⟨g26, eg26, hf⟩ := hf
                refine z_iast hX (zk_Law_stack hkh) (by decide) (zc_1400 _ _) h25 dX1_isMet_95 (zW.eqg eg26 ?_)
                refine z_iincc (lv' := [(2, .int (v2 + 1)), (5, .int (g (h + 4) v4.toNatClampNeg)), (0, .ref (zB X + h)), (1, .int v1), (4, .int v4)]) hX dX1_isMet_96 hn (by decide) 3 rfl ci_1 rfl ?_
                refine z_goto hX 170 dX1_isMet_99 (by decide) ?_
                refine z_iincc (lv' := [(4, .int (v4 + 1)), (2, .int (v2 + 1)), (5, .int (g (h + 4) v4.toNatClampNeg)), (0, .ref (zB X + h)), (1, .int v1)]) hX dX1_isMet_170 hn (by decide) 4 rfl ci_1 rfl ?_
                refine z_goto hX 22 dX1_isMet_173 (by decide) ?_
                refine zW.sub [3, 4, 1, 0] rfl ?_
                exact ih (v2 + 1) (v4 + 1) g26 hf
set_option maxHeartbeats 4000000 in
set_option maxRecDepth 100000 in
theorem fX1_isMet_ok {X : zX} (hX : zCX X cX1_isMet RX1) (hT : zNT X) (hR : X.2.2.2.1 = zrm 1 0) (hr : X.2.2.2.2.2.2.2.2.1.sig.returnType = (some .boolean)) (hn : X.2.2.2.2.2.2.2.2.2.1.maxLocals = 6) {h : Nat} {v1 : Int32} (hkh : zK h = 1) {g : zM} {r : Int32 × zM} (hf : fX1_isMet h v1 g = some r) : zW X (zQ X (.inl (some (.int r.1), r.2)) 0) 0 0 0 [(0, .ref (zB X + h)), (1, .int v1)] [] g := by
  unfold fX1_isMet at hf
  refine z_iconst hX dX1_isMet_0 ci_0 ?_
  refine z_istore_n (lv' := [(2, .int 0), (0, .ref (zB X + h)), (1, .int v1)]) hX dX1_isMet_1 hn (by decide) rfl ?_
  refine z_iload_n hX dX1_isMet_2 2 rfl ?_
  refine z_if_le hX 17 dX1_isMet_3 (by decide) (fun h1 => ?_) (fun h1 => ?_)
  · replace hf := zif_pos h1 hf
    refine z_iconst hX dX1_isMet_17 ci_0 ?_
    refine z_istore_n (lv' := [(3, .int 0), (2, .int 0), (0, .ref (zB X + h)), (1, .int v1)]) hX dX1_isMet_18 hn (by decide) rfl ?_
    refine z_iload_n hX dX1_isMet_19 0 rfl ?_
    refine z_istore (lv' := [(4, .int 0), (3, .int 0), (2, .int 0), (0, .ref (zB X + h)), (1, .int v1)]) hX dX1_isMet_20 hn (by decide) rfl ?_
    refine zW.sub [3, 4, 2, 0] rfl ?_
    refine fX1_isMet_L22_ok hX hT hR hr hn hkh (fun v2_27 g27 hf => ?_) zFU 0 0 g hf
    · refine z_iload_n hX dX1_isMet_176 1 rfl ?_
      refine z_if_eq hX 191 dX1_isMet_177 (by decide) (fun h28 => ?_) (fun h28 => ?_)
      · replace hf := zif_pos h28 hf
        refine z_iconst hX dX1_isMet_191 ci_1 ?_
        refine z_goto hX 196 dX1_isMet_192 (by decide) ?_
        obtain rfl := Option.some.inj hf
        exact z_iret hX hr (zbn (Or.inr rfl)) (zl rfl) (zl rfl) dX1_isMet_196
      · replace hf := zif_neg h28 hf
        refine z_aload_n hX dX1_isMet_180 0 rfl ?_
        refine gf_Law_stack hX hkh q245 dX1_isMet_181 ?_
        refine z_iload_n hX dX1_isMet_184 1 rfl ?_
        refine z_iconst hX dX1_isMet_185 ci_1 ?_
        refine z_isub hX dX1_isMet_186 ?_
        replace hf := zchk_some hf
        obtain ⟨h29, hf⟩ := hf
        refine z_iald hX (zk_Law_stack hkh) (by decide) (zc_1400 _ _ _) h29 dX1_isMet_187 ?_
        refine z_if_eq hX 195 dX1_isMet_188 (by decide) (fun h30 => ?_) (fun h30 => ?_)
        · replace hf := zif_pos h30 hf
          refine z_iconst hX dX1_isMet_195 ci_0 ?_
          obtain rfl := Option.some.inj hf
          exact z_iret hX hr (zbn (Or.inl rfl)) (zl rfl) (zl rfl) dX1_isMet_196
        · replace hf := zif_neg h30 hf
          refine z_iconst hX dX1_isMet_191 ci_1 ?_
          refine z_goto hX 196 dX1_isMet_192 (by decide) ?_
          obtain rfl := Option.some.inj hf
          exact z_iret hX hr (zbn (Or.inr rfl)) (zl rfl) (zl rfl) dX1_isMet_196
  · replace hf := zif_neg h1 hf
    refine z_aload_n hX dX1_isMet_6 1 rfl ?_
    refine gf_Law_ends hX hkh q243 dX1_isMet_7 ?_
    refine z_iload_n hX dX1_isMet_10 2 rfl ?_
    refine z_iconst hX dX1_isMet_11 ci_1 ?_
    refine z_isub hX dX1_isMet_12 ?_
    replace hf := zchk_some hf
    obtain ⟨h31, hf⟩ := hf
    refine z_iald hX (zk_Law_ends hkh) (by decide) (zc_1012 _ _ _) h31 dX1_isMet_13 ?_
    refine z_goto hX 18 dX1_isMet_14 (by decide) ?_
    refine z_istore_n (lv' := [(3, .int (g (h + 3) (v1 - 1).toNatClampNeg)), (2, .int 0), (0, .ref (zB X + h)), (1, .int v1)]) hX dX1_isMet_18 hn (by decide) rfl ?_
    refine z_iload_n hX dX1_isMet_19 0 rfl ?_
    refine z_istore (lv' := [(4, .int (g (h + 3) (v1 - 1).toNatClampNeg)), (3, .int (g (h + 3) (v1 - 1).toNatClampNeg)), (2, .int 0), (0, .ref (zB X + h)), (1, .int v1)]) hX dX1_isMet_20 hn (by decide) rfl ?_
    refine zW.sub [3, 4, 2, 0] rfl ?_
    refine fX1_isMet_L22_ok hX hT hR hr hn hkh (fun v2_32 g32 hf => ?_) zFU 0 (g (h + 3) (v1 - 1).toNatClampNeg) g hf
    · refine z_iload_n hX dX1_isMet_176 1 rfl ?_
      refine z_if_eq hX 191 dX1_isMet_177 (by decide) (fun h33 => ?_) (fun h33 => ?_)
      · replace hf := zif_pos h33 hf
        refine z_iconst hX dX1_isMet_191 ci_1 ?_
        refine z_goto hX 196 dX1_isMet_192 (by decide) ?_
        obtain rfl := Option.some.inj hf
        exact z_iret hX hr (zbn (Or.inr rfl)) (zl rfl) (zl rfl) dX1_isMet_196
      · replace hf := zif_neg h33 hf
        refine z_aload_n hX dX1_isMet_180 0 rfl ?_
        refine gf_Law_stack hX hkh q245 dX1_isMet_181 ?_
        refine z_iload_n hX dX1_isMet_184 1 rfl ?_
        refine z_iconst hX dX1_isMet_185 ci_1 ?_
        refine z_isub hX dX1_isMet_186 ?_
        replace hf := zchk_some hf
        obtain ⟨h34, hf⟩ := hf
        refine z_iald hX (zk_Law_stack hkh) (by decide) (zc_1400 _ _ _) h34 dX1_isMet_187 ?_
        refine z_if_eq hX 195 dX1_isMet_188 (by decide) (fun h35 => ?_) (fun h35 => ?_)
        · replace hf := zif_pos h35 hf
          refine z_iconst hX dX1_isMet_195 ci_0 ?_
          obtain rfl := Option.some.inj hf
          exact z_iret hX hr (zbn (Or.inl rfl)) (zl rfl) (zl rfl) dX1_isMet_196
        · replace hf := zif_neg h35 hf
          refine z_iconst hX dX1_isMet_191 ci_1 ?_
          refine z_goto hX 196 dX1_isMet_192 (by decide) ?_
          obtain rfl := Option.some.inj hf
          exact z_iret hX hr (zbn (Or.inr rfl)) (zl rfl) (zl rfl) dX1_isMet_196
set_option maxHeartbeats 4000000 in
set_option maxRecDepth 100000 in
theorem ct_X1_isMet {E : zE} {h : Nat} {v1 : Int32} (hkh : zK h = 1) {g : zM} {r : Int32 × zM} (hf : fX1_isMet h v1 g = some r) : zCt yX1_isMet cX1_isMet 6 (some .boolean) 1 0 E [.ref (E.1 + h), .int v1] g (.inl (some (.int r.1), r.2)) := by
  refine zmet (by decide) (zl rfl) (fun X hE hX hT hR hr hn => ?_)
  subst hE
  exact fX1_isMet_ok hX hT hR hr hn hkh hf
def fX1_follows_L19 (h : Nat) (v4 : Int32) (k49 : Int32 → zM → Option (Int32 × zM)) : Nat → Int32 → zM → Option (Int32 × zM)
  | 0, _, _ => none
  | n + 1, v5, g => if (g h 7) ≤ v5 then some ((-1), g) else zchk v5 12 (if (g (h + 1) v5.toNatClampNeg) = v4 then zb2 (fX1_isMet h v5 g) (fun r_6 g6 => if r_6 = 0 then fX1_follows_L19 h v4 k49 n (v5 + 1) g6 else k49 v5 g6) else fX1_follows_L19 h v4 k49 n (v5 + 1) g)
def fX1_follows (h : Nat) (r1 : Nat) (v2 : Int32) (v3 : Int32) (g : zM) : Option (Int32 × zM) := zb (fX3_kindAt r1 (v2 - 1) g) (fun r_1 => zb (fX1_learnFacts h r1 v2 v3 g) (fun g2 => fX1_follows_L19 h r_1 (fun v5_8 g8 => zchk v5_8 12 (some (g8 (h + 2) v5_8.toNatClampNeg, g8))) zFU 0 g2))
set_option maxHeartbeats 4000000 in
set_option maxRecDepth 100000 in
theorem fX1_follows_L19_ok {X : zX} (hX : zCX X cX1_follows RX1) (hT : zNT X) (hR : X.2.2.2.1 = zrm 2 0) (hr : X.2.2.2.2.2.2.2.2.1.sig.returnType = (some .int)) (hn : X.2.2.2.2.2.2.2.2.2.1.maxLocals = 6) {h : Nat} {v4 : Int32} (hkh : zK h = 1) {k49 : Int32 → zM → Option (Int32 × zM)} {r : Int32 × zM} (hk49 : ∀ (v5 : Int32) (g : zM), k49 v5 g = some r → zW X (zQ X (.inl (some (.int r.1), r.2)) 0) 0 0 49 [(0, .ref (zB X + h)), (5, .int v5)] [] g) : ∀ (n : Nat) (v5 : Int32) (g : zM), fX1_follows_L19 h v4 k49 n v5 g = some r → zW X (zQ X (.inl (some (.int r.1), r.2)) 0) 0 0 19 [(0, .ref (zB X + h)), (4, .int v4), (5, .int v5)] [] g := by
  intro n
  induction n with
  | zero => intro v5 g hf; exact zno hf
  | succ n ih =>
    intro v5 g hf
    rw [fX1_follows_L19] at hf
    refine z_iload hX dX1_follows_19 2 rfl ?_
    refine z_aload_n hX dX1_follows_21 0 rfl ?_
    refine gf_Law_size hX hkh q248 dX1_follows_22 ?_
    refine z_icmp_ge hX 63 dX1_follows_25 (by decide) (fun h3 => ?_) (fun h3 => ?_)
    · replace hf := zif_pos h3 hf
      refine z_iconst hX dX1_follows_63 ci_m1 ?_
      obtain rfl := Option.some.inj hf
      exact z_iret hX hr rfl (zl rfl) (zl rfl) dX1_follows_64
    · replace hf := zif_neg h3 hf
      refine z_aload_n hX dX1_follows_28 0 rfl ?_
      refine gf_Law_froms hX hkh q241 dX1_follows_29 ?_
      refine z_iload hX dX1_follows_32 2 rfl ?_
      replace hf := zchk_some hf
      obtain ⟨h4, hf⟩ := hf
      refine z_iald hX (zk_Law_froms hkh) (by decide) (zc_1012 _ _ _) h4 dX1_follows_34 ?_
      refine z_iload hX dX1_follows_35 1 rfl ?_
      refine z_icmp_ne hX 57 dX1_follows_37 (by decide) (fun h5 => ?_) (fun h5 => ?_)
      · replace hf := zif_neg h5 hf
        refine z_iincc (lv' := [(5, .int (v5 + 1)), (0, .ref (zB X + h)), (4, .int v4)]) hX dX1_follows_57 hn (by decide) 2 rfl ci_1 rfl ?_
        refine z_goto hX 19 dX1_follows_60 (by decide) ?_
        refine zW.sub [1, 2, 0] rfl ?_
        exact ih (v5 + 1) g hf
      · replace hf := zif_pos h5 hf
        refine z_aload_n hX dX1_follows_40 0 rfl ?_
        refine z_iload hX dX1_follows_41 2 rfl ?_
        replace hf := zb2_some hf
        obtain ⟨r_6, g6, h6, hf⟩ := hf
        refine z_callV1 hX ok_X1_isMet q545 q547 q4 (zrm_ok hR (by decide)) (ct_X1_isMet hkh h6) (zrec_Law hX hkh) dX1_follows_43 rfl rfl ?_
        refine z_if_eq hX 57 dX1_follows_46 (by decide) (fun h7 => ?_) (fun h7 => ?_)
        · replace hf := zif_pos h7 hf
          refine z_iincc (lv' := [(5, .int (v5 + 1)), (0, .ref (zB X + h)), (4, .int v4)]) hX dX1_follows_57 hn (by decide) 2 rfl ci_1 rfl ?_
          refine z_goto hX 19 dX1_follows_60 (by decide) ?_
          refine zW.sub [1, 2, 0] rfl ?_
          exact ih (v5 + 1) g6 hf
        · replace hf := zif_neg h7 hf
          refine zW.sub [0, 2] rfl ?_
          exact hk49 v5 g6 hf
set_option maxHeartbeats 4000000 in
set_option maxRecDepth 100000 in
theorem fX1_follows_ok {X : zX} (hX : zCX X cX1_follows RX1) (hT : zNT X) (hR : X.2.2.2.1 = zrm 2 0) (hr : X.2.2.2.2.2.2.2.2.1.sig.returnType = (some .int)) (hn : X.2.2.2.2.2.2.2.2.2.1.maxLocals = 6) {h : Nat} {r1 : Nat} {v2 : Int32} {v3 : Int32} (hkh : zK h = 1) (hk1 : zK r1 = 3) {g : zM} {r : Int32 × zM} (hf : fX1_follows h r1 v2 v3 g = some r) : zW X (zQ X (.inl (some (.int r.1), r.2)) 0) 0 0 0 [(0, .ref (zB X + h)), (1, .ref (zB X + r1)), (2, .int v2), (3, .int v3)] [] g := by
  unfold fX1_follows at hf
  refine z_aload_n hX dX1_follows_0 1 rfl ?_
  refine z_iload_n hX dX1_follows_1 2 rfl ?_
  refine z_iconst hX dX1_follows_2 ci_1 ?_
  refine z_isub hX dX1_follows_3 ?_
  replace hf := zb_some hf
  obtain ⟨r_1, h1, hf⟩ := hf
  refine z_callV1 hX ok_X3_kindAt q537 q522 q523 (zrm_ok hR (by decide)) (ct_X3_kindAt hk1 h1) (zrec_Mail hX hk1) dX1_follows_4 rfl rfl ?_
  refine z_istore (lv' := [(4, .int r_1), (0, .ref (zB X + h)), (1, .ref (zB X + r1)), (2, .int v2), (3, .int v3)]) hX dX1_follows_7 hn (by decide) rfl ?_
  refine z_aload_n hX dX1_follows_9 1 rfl ?_
  refine z_aload_n hX dX1_follows_10 2 rfl ?_
  refine z_iload_n hX dX1_follows_11 3 rfl ?_
  refine z_iload_n hX dX1_follows_12 4 rfl ?_
  replace hf := zb_some hf
  obtain ⟨g2, h2, hf⟩ := hf
  refine z_callV0 hX ok_X1_learnFacts q538 q540 q3 (zrm_ok hR (by decide)) (ct_X1_learnFacts hkh hk1 h2) (zrec_Law hX hkh) dX1_follows_13 rfl rfl ?_
  refine z_iconst hX dX1_follows_16 ci_0 ?_
  refine z_istore (lv' := [(5, .int 0), (4, .int r_1), (0, .ref (zB X + h)), (1, .ref (zB X + r1)), (2, .int v2), (3, .int v3)]) hX dX1_follows_17 hn (by decide) rfl ?_
  refine zW.sub [2, 1, 0] rfl ?_
  refine fX1_follows_L19_ok hX hT hR hr hn hkh (fun v5_8 g8 hf => ?_) zFU 0 g2 hf
  · refine z_aload_n hX dX1_follows_49 0 rfl ?_
    refine gf_Law_tos hX hkh q242 dX1_follows_50 ?_
    refine z_iload hX dX1_follows_53 1 rfl ?_
    replace hf := zchk_some hf
    obtain ⟨h9, hf⟩ := hf
    refine z_iald hX (zk_Law_tos hkh) (by decide) (zc_1012 _ _ _) h9 dX1_follows_55 ?_
    obtain rfl := Option.some.inj hf
    exact z_iret hX hr rfl (zl rfl) (zl rfl) dX1_follows_56
set_option maxHeartbeats 4000000 in
set_option maxRecDepth 100000 in
theorem ct_X1_follows {E : zE} {h : Nat} {r1 : Nat} {v2 : Int32} {v3 : Int32} (hkh : zK h = 1) (hk1 : zK r1 = 3) {g : zM} {r : Int32 × zM} (hf : fX1_follows h r1 v2 v3 g = some r) : zCt yX1_follows cX1_follows 6 (some .int) 2 0 E [.ref (E.1 + h), .ref (E.1 + r1), .int v2, .int v3] g (.inl (some (.int r.1), r.2)) := by
  refine zmet (by decide) (zl rfl) (fun X hE hX hT hR hr hn => ?_)
  subst hE
  exact fX1_follows_ok hX hT hR hr hn hkh hk1 hf
def fX1_growth (h : Nat) (r1 : Nat) (v2 : Int32) (g : zM) : Option (Int32 × zM) := if (g r1 5) = 0 then if (g r1 2) < 24 then zb2 (fX1_follows h r1 (g r1 2) v2 g) (fun r_3 g3 => some (r_3, g3)) else some ((-1), g) else some ((-1), g)
set_option maxHeartbeats 4000000 in
set_option maxRecDepth 100000 in
theorem fX1_growth_ok {X : zX} (hX : zCX X cX1_growth RX1) (hT : zNT X) (hR : X.2.2.2.1 = zrm 3 0) (hr : X.2.2.2.2.2.2.2.2.1.sig.returnType = (some .int)) (hn : X.2.2.2.2.2.2.2.2.2.1.maxLocals = 3) {h : Nat} {r1 : Nat} {v2 : Int32} (hkh : zK h = 1) (hk1 : zK r1 = 3) {g : zM} {r : Int32 × zM} (hf : fX1_growth h r1 v2 g = some r) : zW X (zQ X (.inl (some (.int r.1), r.2)) 0) 0 0 0 [(0, .ref (zB X + h)), (1, .ref (zB X + r1)), (2, .int v2)] [] g := by
  unfold fX1_growth at hf
  refine z_aload_n hX dX1_growth_0 1 rfl ?_
  refine gf_Mail_open_N hX hk1 qn185 dX1_growth_1 ?_
  refine z_if_ne hX 16 dX1_growth_4 (by decide) (fun h1 => ?_) (fun h1 => ?_)
  · replace hf := zif_neg h1 hf
    refine z_iconst hX dX1_growth_16 ci_m1 ?_
    refine z_goto hX 30 dX1_growth_17 (by decide) ?_
    obtain rfl := Option.some.inj hf
    exact z_iret hX hr rfl (zl rfl) (zl rfl) dX1_growth_30
  · replace hf := zif_pos h1 hf
    refine z_aload_n hX dX1_growth_7 1 rfl ?_
    refine gf_Mail_lines_N hX hk1 qn175 dX1_growth_8 ?_
    refine z_bipush hX dX1_growth_11 cb_24 ?_
    refine z_icmp_lt hX 20 dX1_growth_13 (by decide) (fun h2 => ?_) (fun h2 => ?_)
    · replace hf := zif_pos h2 hf
      refine z_aload_n hX dX1_growth_20 0 rfl ?_
      refine z_aload_n hX dX1_growth_21 1 rfl ?_
      refine z_aload_n hX dX1_growth_22 1 rfl ?_
      refine gf_Mail_lines_N hX hk1 qn175 dX1_growth_23 ?_
      refine z_iload_n hX dX1_growth_26 2 rfl ?_
      replace hf := zb2_some hf
      obtain ⟨r_3, g3, h3, hf⟩ := hf
      refine z_callV1 hX ok_X1_follows q533 q535 q2 (zrm_ok hR (by decide)) (ct_X1_follows hkh hk1 h3) (zrec_Law hX hkh) dX1_growth_27 rfl rfl ?_
      obtain rfl := Option.some.inj hf
      exact z_iret hX hr rfl (zl rfl) (zl rfl) dX1_growth_30
    · replace hf := zif_neg h2 hf
      refine z_iconst hX dX1_growth_16 ci_m1 ?_
      refine z_goto hX 30 dX1_growth_17 (by decide) ?_
      obtain rfl := Option.some.inj hf
      exact z_iret hX hr rfl (zl rfl) (zl rfl) dX1_growth_30
set_option maxHeartbeats 4000000 in
set_option maxRecDepth 100000 in
theorem ct_X1_growth {E : zE} {h : Nat} {r1 : Nat} {v2 : Int32} (hkh : zK h = 1) (hk1 : zK r1 = 3) {g : zM} {r : Int32 × zM} (hf : fX1_growth h r1 v2 g = some r) : zCt yX1_growth cX1_growth 3 (some .int) 3 0 E [.ref (E.1 + h), .ref (E.1 + r1), .int v2] g (.inl (some (.int r.1), r.2)) := by
  refine zmet (by decide) (zl rfl) (fun X hE hX hT hR hr hn => ?_)
  subst hE
  exact fX1_growth_ok hX hT hR hr hn hkh hk1 hf
def fX11_letter (v1 : Int32) (v2 : Int32) (g : zM) : Option (Except Nat Int32 × zM) := zb3 (fX11_mailOf v1 g) (fun r_1 g1 => if v2 = 0 then some (.ok (g1 r_1 2), g1) else if v2 = 1 then some (.ok (g1 r_1 3), g1) else if v2 = 2 then some (.ok (g1 r_1 4), g1) else if v2 = 3 then if (g1 r_1 5) = 0 then some (.ok 0, g1) else some (.ok 1, g1) else if v2 = 4 then if (g1 r_1 6) = 0 then some (.ok 0, g1) else some (.ok 1, g1) else if v2 = 5 then zb (fX10_wordsIn 2 r_1 g1) (fun r_11 => some (.ok r_11, g1)) else if v2 = 6 then zb (fX3_lastKind r_1 g1) (fun r_13 => some (.ok r_13, g1)) else if v2 = 7 then zb2 (fX1_growth 29 r_1 (g1 3 2) g1) (fun r_15 g15 => some (.ok r_15, g15)) else some (.error 5, g1))
set_option maxHeartbeats 4000000 in
set_option maxRecDepth 100000 in
theorem fX11_letter_ok {X : zX} (hX : zCX X cX11_letter RX11) (hT : zNT X) (hR : X.2.2.2.1 = zrm 4 2) (hr : X.2.2.2.2.2.2.2.2.1.sig.returnType = (some .int)) (hn : X.2.2.2.2.2.2.2.2.2.1.maxLocals = 4) {v1 : Int32} {v2 : Int32} {g : zM} {r : Except Nat Int32 × zM} (hf : fX11_letter v1 v2 g = some r) : zW X (zQ X (zoI r) 2) 0 0 0 [(0, .ref (zB X + 0)), (1, .int v1), (2, .int v2)] [] g := by
  unfold fX11_letter at hf
  refine z_aload_n hX dX11_letter_0 0 rfl ?_
  refine z_iload_n hX dX11_letter_1 1 rfl ?_
  replace hf := zb3_some hf
  rcases hf with ⟨c1, g1, h1, rfl⟩ | ⟨r_1, g1, h1, hf⟩
  · exact z_callV_x hX hT ok_X11_mailOf q974 q976 q25 (zrm_ok hR (by decide)) (ct_X11_mailOf  h1) (zrec_Post hX zq_0) dX11_letter_2 rfl rfl (zl rfl) (zl rfl)
  refine z_callV1 hX ok_X11_mailOf q974 q976 q25 (zrm_ok hR (by decide)) (ct_X11_mailOf  h1) (zrec_Post hX zq_0) dX11_letter_2 rfl rfl ?_
  refine z_astore_n (lv' := [(3, .ref (zB X + r_1)), (0, .ref (zB X + 0)), (1, .int v1), (2, .int v2)]) hX dX11_letter_5 hn (by decide) rfl ?_
  refine z_iload_n hX dX11_letter_6 3 rfl ?_
  by_cases h3 : v2 = 0
  · replace hf := zif_pos h3 hf
    refine z_tin hX 52 dX11_letter_7 (by rw [h3]; decide) (by rw [h3]; decide) (by rw [h3]; rfl) (by decide) ?_
    refine z_aload_n hX dX11_letter_52 0 rfl ?_
    refine gf_Mail_lines_N hX (fk_X11_mailOf  h1) qn176 dX11_letter_53 ?_
    obtain rfl := Option.some.inj hf
    exact z_iret hX hr rfl (zl rfl) (zl rfl) dX11_letter_56
  replace hf := zif_neg h3 hf
  by_cases h4 : v2 = 1
  · replace hf := zif_pos h4 hf
    refine z_tin hX 57 dX11_letter_7 (by rw [h4]; decide) (by rw [h4]; decide) (by rw [h4]; rfl) (by decide) ?_
    refine z_aload_n hX dX11_letter_57 0 rfl ?_
    refine gf_Mail_temper_N hX (fk_X11_mailOf  h1) qn179 dX11_letter_58 ?_
    obtain rfl := Option.some.inj hf
    exact z_iret hX hr rfl (zl rfl) (zl rfl) dX11_letter_61
  replace hf := zif_neg h4 hf
  by_cases h5 : v2 = 2
  · replace hf := zif_pos h5 hf
    refine z_tin hX 62 dX11_letter_7 (by rw [h5]; decide) (by rw [h5]; decide) (by rw [h5]; rfl) (by decide) ?_
    refine z_aload_n hX dX11_letter_62 0 rfl ?_
    refine gf_Mail_sender_N hX (fk_X11_mailOf  h1) qn182 dX11_letter_63 ?_
    obtain rfl := Option.some.inj hf
    exact z_iret hX hr rfl (zl rfl) (zl rfl) dX11_letter_66
  replace hf := zif_neg h5 hf
  by_cases h6 : v2 = 3
  · replace hf := zif_pos h6 hf
    refine z_tin hX 67 dX11_letter_7 (by rw [h6]; decide) (by rw [h6]; decide) (by rw [h6]; rfl) (by decide) ?_
    refine z_aload_n hX dX11_letter_67 0 rfl ?_
    refine gf_Mail_open_N hX (fk_X11_mailOf  h1) qn186 dX11_letter_68 ?_
    refine z_if_eq hX 78 dX11_letter_71 (by decide) (fun h7 => ?_) (fun h7 => ?_)
    · replace hf := zif_pos h7 hf
      refine z_iconst hX dX11_letter_78 ci_0 ?_
      obtain rfl := Option.some.inj hf
      exact z_iret hX hr rfl (zl rfl) (zl rfl) dX11_letter_79
    · replace hf := zif_neg h7 hf
      refine z_iconst hX dX11_letter_74 ci_1 ?_
      refine z_goto hX 79 dX11_letter_75 (by decide) ?_
      obtain rfl := Option.some.inj hf
      exact z_iret hX hr rfl (zl rfl) (zl rfl) dX11_letter_79
  replace hf := zif_neg h6 hf
  by_cases h8 : v2 = 4
  · replace hf := zif_pos h8 hf
    refine z_tin hX 80 dX11_letter_7 (by rw [h8]; decide) (by rw [h8]; decide) (by rw [h8]; rfl) (by decide) ?_
    refine z_aload_n hX dX11_letter_80 0 rfl ?_
    refine gf_Mail_hot_N hX (fk_X11_mailOf  h1) qn193 dX11_letter_81 ?_
    refine z_if_eq hX 91 dX11_letter_84 (by decide) (fun h9 => ?_) (fun h9 => ?_)
    · replace hf := zif_pos h9 hf
      refine z_iconst hX dX11_letter_91 ci_0 ?_
      obtain rfl := Option.some.inj hf
      exact z_iret hX hr rfl (zl rfl) (zl rfl) dX11_letter_92
    · replace hf := zif_neg h9 hf
      refine z_iconst hX dX11_letter_87 ci_1 ?_
      refine z_goto hX 92 dX11_letter_88 (by decide) ?_
      obtain rfl := Option.some.inj hf
      exact z_iret hX hr rfl (zl rfl) (zl rfl) dX11_letter_92
  replace hf := zif_neg h8 hf
  by_cases h10 : v2 = 5
  · replace hf := zif_pos h10 hf
    refine z_tin hX 93 dX11_letter_7 (by rw [h10]; decide) (by rw [h10]; decide) (by rw [h10]; rfl) (by decide) ?_
    refine z_aload_n hX dX11_letter_93 1 rfl ?_
    refine gf_Post_now hX zq_0 q439 dX11_letter_94 ?_
    refine z_aload_n hX dX11_letter_97 0 rfl ?_
    replace hf := zb_some hf
    obtain ⟨r_11, h11, hf⟩ := hf
    refine z_callV1 hX ok_X10_wordsIn q575 q576 q577 (zrm_ok hR (by decide)) (ct_X10_wordsIn zq_2 (fk_X11_mailOf  h1) h11) (zrec_World hX zq_2) dX11_letter_98 rfl rfl ?_
    obtain rfl := Option.some.inj hf
    exact z_iret hX hr rfl (zl rfl) (zl rfl) dX11_letter_101
  replace hf := zif_neg h10 hf
  by_cases h12 : v2 = 6
  · replace hf := zif_pos h12 hf
    refine z_tin hX 102 dX11_letter_7 (by rw [h12]; decide) (by rw [h12]; decide) (by rw [h12]; rfl) (by decide) ?_
    refine z_aload_n hX dX11_letter_102 0 rfl ?_
    replace hf := zb_some hf
    obtain ⟨r_13, h13, hf⟩ := hf
    refine z_callV1 hX ok_X3_lastKind q517 q518 q519 (zrm_ok hR (by decide)) (ct_X3_lastKind (fk_X11_mailOf  h1) h13) (zrec_Mail hX (fk_X11_mailOf  h1)) dX11_letter_103 rfl rfl ?_
    obtain rfl := Option.some.inj hf
    exact z_iret hX hr rfl (zl rfl) (zl rfl) dX11_letter_106
  replace hf := zif_neg h12 hf
  by_cases h14 : v2 = 7
  · replace hf := zif_pos h14 hf
    refine z_tin hX 107 dX11_letter_7 (by rw [h14]; decide) (by rw [h14]; decide) (by rw [h14]; rfl) (by decide) ?_
    refine z_aload_n hX dX11_letter_107 1 rfl ?_
    refine gf_Post_now hX zq_0 q439 dX11_letter_108 ?_
    refine gf_World_law_N hX zq_2 qn275 dX11_letter_111 ?_
    refine z_aload_n hX dX11_letter_114 0 rfl ?_
    refine z_aload_n hX dX11_letter_115 1 rfl ?_
    refine gf_Post_now hX zq_0 q439 dX11_letter_116 ?_
    refine gf_World_bag_N hX zq_2 qn273 dX11_letter_119 ?_
    refine gf_Bag_week_N hX zq_3 qn219 dX11_letter_122 ?_
    replace hf := zb2_some hf
    obtain ⟨r_15, g15, h15, hf⟩ := hf
    refine z_callV1 hX ok_X1_growth q998 q530 q531 (zrm_ok hR (by decide)) (ct_X1_growth zq_29 (fk_X11_mailOf  h1) h15) (zrec_Law hX zq_29) dX11_letter_125 rfl rfl ?_
    obtain rfl := Option.some.inj hf
    exact z_iret hX hr rfl (zl rfl) (zl rfl) dX11_letter_128
  replace hf := zif_neg h14 hf
  refine z_tout hX 129 dX11_letter_7 (zsw_out (fun v hlo hhi e => ?_)) (by decide) ?_
  · have hv : v = 0 ∨ v = 1 ∨ v = 2 ∨ v = 3 ∨ v = 4 ∨ v = 5 ∨ v = 6 ∨ v = 7 := by omega
    rcases hv with rfl | rfl | rfl | rfl | rfl | rfl | rfl | rfl
    · exact h3 (e.trans (by decide))
    · exact h4 (e.trans (by decide))
    · exact h5 (e.trans (by decide))
    · exact h6 (e.trans (by decide))
    · exact h8 (e.trans (by decide))
    · exact h10 (e.trans (by decide))
    · exact h12 (e.trans (by decide))
    · exact h14 (e.trans (by decide))
  obtain rfl := Option.some.inj hf
  exact z_throwN hX hT hR at_5_196 (i := 5) rfl dX11_letter_129 dX11_letter_132 dX11_letter_133 dX11_letter_135 dX11_letter_138 (zl rfl) (zl rfl) (zl rfl) (zl rfl)
set_option maxHeartbeats 4000000 in
set_option maxRecDepth 100000 in
theorem ct_X11_letter {E : zE} {v1 : Int32} {v2 : Int32} {g : zM} {r : Except Nat Int32 × zM} (hf : fX11_letter v1 v2 g = some r) : zCt yX11_letter cX11_letter 4 (some .int) 4 2 E [.ref (E.1 + 0), .int v1, .int v2] g (zoI r) := by
  refine zmet (by decide) (zl rfl) (fun X hE hX hT hR hr hn => ?_)
  subst hE
  exact fX11_letter_ok hX hT hR hr hn  hf
def fX11_needLine (r0 : Nat) (v1 : Int32) (g : zM) : Option (Except Nat Unit × zM) := if v1 < 0 then some (.error 1, g) else if v1 < (g r0 2) then some (.ok (()), g) else some (.error 1, g)
set_option maxHeartbeats 4000000 in
set_option maxRecDepth 100000 in
theorem fX11_needLine_ok {X : zX} (hX : zCX X cX11_needLine RX11) (hT : zNT X) (hR : X.2.2.2.1 = zrm 0 1) (hr : X.2.2.2.2.2.2.2.2.1.sig.returnType = none) (hn : X.2.2.2.2.2.2.2.2.2.1.maxLocals = 2) {r0 : Nat} {v1 : Int32} (hk0 : zK r0 = 3) {g : zM} {r : Except Nat Unit × zM} (hf : fX11_needLine r0 v1 g = some r) : zW X (zQ X (zoU r) 1) 0 0 0 [(0, .ref (zB X + r0)), (1, .int v1)] [] g := by
  unfold fX11_needLine at hf
  refine z_iload_n hX dX11_needLine_0 1 rfl ?_
  refine z_if_lt hX 12 dX11_needLine_1 (by decide) (fun h1 => ?_) (fun h1 => ?_)
  · replace hf := zif_pos h1 hf
    obtain rfl := Option.some.inj hf
    exact z_throwW hX hT hR at_1_417 (i := 6) rfl dX11_needLine_12 dX11_needLine_15 dX11_needLine_16 dX11_needLine_19 dX11_needLine_22 (zl rfl) (zl rfl) (zl rfl) (zl rfl)
  · replace hf := zif_neg h1 hf
    refine z_iload_n hX dX11_needLine_4 1 rfl ?_
    refine z_aload_n hX dX11_needLine_5 0 rfl ?_
    refine gf_Mail_lines_N hX hk0 qn176 dX11_needLine_6 ?_
    refine z_icmp_lt hX 23 dX11_needLine_9 (by decide) (fun h2 => ?_) (fun h2 => ?_)
    · replace hf := zif_pos h2 hf
      obtain rfl := Option.some.inj hf
      exact z_vret hX hr (zl rfl) (zl rfl) dX11_needLine_23
    · replace hf := zif_neg h2 hf
      obtain rfl := Option.some.inj hf
      exact z_throwW hX hT hR at_1_417 (i := 6) rfl dX11_needLine_12 dX11_needLine_15 dX11_needLine_16 dX11_needLine_19 dX11_needLine_22 (zl rfl) (zl rfl) (zl rfl) (zl rfl)
set_option maxHeartbeats 4000000 in
set_option maxRecDepth 100000 in
theorem ct_X11_needLine {E : zE} {r0 : Nat} {v1 : Int32} (hk0 : zK r0 = 3) {g : zM} {r : Except Nat Unit × zM} (hf : fX11_needLine r0 v1 g = some r) : zCt yX11_needLine cX11_needLine 2 none 0 1 E [.ref (E.1 + r0), .int v1] g (zoU r) := by
  refine zmet (by decide) (zl rfl) (fun X hE hX hT hR hr hn => ?_)
  subst hE
  exact fX11_needLine_ok hX hT hR hr hn hk0 hf
def fX3_weekAt (h : Nat) (v1 : Int32) (g : zM) : Option Int32 := if v1 < 0 then some ((-1)) else if (g h 2) ≤ v1 then some ((-1)) else zchk v1 24 (some (g (h + 2) v1.toNatClampNeg))
set_option maxHeartbeats 4000000 in
set_option maxRecDepth 100000 in
theorem fX3_weekAt_ok {X : zX} (hX : zCX X cX3_weekAt RX3) (hT : zNT X) (hR : X.2.2.2.1 = zrm 0 0) (hr : X.2.2.2.2.2.2.2.2.1.sig.returnType = (some .int)) (hn : X.2.2.2.2.2.2.2.2.2.1.maxLocals = 2) {h : Nat} {v1 : Int32} (hkh : zK h = 3) {g : zM} {r : Int32} (hf : fX3_weekAt h v1 g = some r) : zW X (zQ X (.inl (some (.int r), g)) 0) 0 0 0 [(0, .ref (zB X + h)), (1, .int v1)] [] g := by
  unfold fX3_weekAt at hf
  refine z_iload_n hX dX3_weekAt_0 1 rfl ?_
  refine z_if_lt hX 21 dX3_weekAt_1 (by decide) (fun h1 => ?_) (fun h1 => ?_)
  · replace hf := zif_pos h1 hf
    refine z_iconst hX dX3_weekAt_21 ci_m1 ?_
    obtain rfl := Option.some.inj hf
    exact z_iret hX hr rfl (zl rfl) (zl rfl) dX3_weekAt_22
  · replace hf := zif_neg h1 hf
    refine z_iload_n hX dX3_weekAt_4 1 rfl ?_
    refine z_aload_n hX dX3_weekAt_5 0 rfl ?_
    refine gf_Mail_lines hX hkh q173 dX3_weekAt_6 ?_
    refine z_icmp_ge hX 21 dX3_weekAt_9 (by decide) (fun h2 => ?_) (fun h2 => ?_)
    · replace hf := zif_pos h2 hf
      refine z_iconst hX dX3_weekAt_21 ci_m1 ?_
      obtain rfl := Option.some.inj hf
      exact z_iret hX hr rfl (zl rfl) (zl rfl) dX3_weekAt_22
    · replace hf := zif_neg h2 hf
      refine z_aload_n hX dX3_weekAt_12 0 rfl ?_
      refine gf_Mail_weeks hX hkh q172 dX3_weekAt_13 ?_
      refine z_iload_n hX dX3_weekAt_16 1 rfl ?_
      replace hf := zchk_some hf
      obtain ⟨h3, hf⟩ := hf
      refine z_iald hX (zk_Mail_weeks hkh) (by decide) (zc_1024 _ _ _) h3 dX3_weekAt_17 ?_
      refine z_goto hX 22 dX3_weekAt_18 (by decide) ?_
      obtain rfl := Option.some.inj hf
      exact z_iret hX hr rfl (zl rfl) (zl rfl) dX3_weekAt_22
set_option maxHeartbeats 4000000 in
set_option maxRecDepth 100000 in
theorem ct_X3_weekAt {E : zE} {h : Nat} {v1 : Int32} (hkh : zK h = 3) {g : zM} {r : Int32} (hf : fX3_weekAt h v1 g = some r) : zCt yX3_weekAt cX3_weekAt 2 (some .int) 0 0 E [.ref (E.1 + h), .int v1] g (.inl (some (.int r), g)) := by
  refine zmet (by decide) (zl rfl) (fun X hE hX hT hR hr hn => ?_)
  subst hE
  exact fX3_weekAt_ok hX hT hR hr hn hkh hf
def fX11_line (v1 : Int32) (v2 : Int32) (v3 : Int32) (g : zM) : Option (Except Nat Int32 × zM) := zb3 (fX11_mailOf v1 g) (fun r_1 g1 => zb3 (fX11_needLine r_1 v2 g1) (fun _ g2 => if v3 = 0 then zb (fX3_kindAt r_1 v2 g2) (fun r_4 => some (.ok r_4, g2)) else zb (fX3_weekAt r_1 v2 g2) (fun r_5 => some (.ok r_5, g2))))
set_option maxHeartbeats 4000000 in
set_option maxRecDepth 100000 in
theorem fX11_line_ok {X : zX} (hX : zCX X cX11_line RX11) (hT : zNT X) (hR : X.2.2.2.1 = zrm 2 2) (hr : X.2.2.2.2.2.2.2.2.1.sig.returnType = (some .int)) (hn : X.2.2.2.2.2.2.2.2.2.1.maxLocals = 5) {v1 : Int32} {v2 : Int32} {v3 : Int32} {g : zM} {r : Except Nat Int32 × zM} (hf : fX11_line v1 v2 v3 g = some r) : zW X (zQ X (zoI r) 2) 0 0 0 [(0, .ref (zB X + 0)), (1, .int v1), (2, .int v2), (3, .int v3)] [] g := by
  unfold fX11_line at hf
  refine z_aload_n hX dX11_line_0 0 rfl ?_
  refine z_iload_n hX dX11_line_1 1 rfl ?_
  replace hf := zb3_some hf
  rcases hf with ⟨c1, g1, h1, rfl⟩ | ⟨r_1, g1, h1, hf⟩
  · exact z_callV_x hX hT ok_X11_mailOf q974 q976 q25 (zrm_ok hR (by decide)) (ct_X11_mailOf  h1) (zrec_Post hX zq_0) dX11_line_2 rfl rfl (zl rfl) (zl rfl)
  refine z_callV1 hX ok_X11_mailOf q974 q976 q25 (zrm_ok hR (by decide)) (ct_X11_mailOf  h1) (zrec_Post hX zq_0) dX11_line_2 rfl rfl ?_
  refine z_astore (lv' := [(4, .ref (zB X + r_1)), (0, .ref (zB X + 0)), (1, .int v1), (2, .int v2), (3, .int v3)]) hX dX11_line_5 hn (by decide) rfl ?_
  refine z_aload hX dX11_line_7 0 rfl ?_
  refine z_iload_n hX dX11_line_9 3 rfl ?_
  replace hf := zb3_some hf
  rcases hf with ⟨c2, g2, h2, rfl⟩ | ⟨r_2, g2, h2, hf⟩
  · exact z_callS_x hX hT ok_X11_needLine rfl q1022 q1023 (zrm_ok hR (by decide)) (ct_X11_needLine (fk_X11_mailOf  h1) h2) dX11_line_10 rfl rfl (zl rfl) (zl rfl)
  refine z_callS0 hX ok_X11_needLine rfl q1022 q1023 (zrm_ok hR (by decide)) (ct_X11_needLine (fk_X11_mailOf  h1) h2) dX11_line_10 rfl rfl ?_
  refine z_iload_n hX dX11_line_13 4 rfl ?_
  refine z_if_eq hX 26 dX11_line_14 (by decide) (fun h3 => ?_) (fun h3 => ?_)
  · replace hf := zif_pos h3 hf
    refine z_aload hX dX11_line_26 0 rfl ?_
    refine z_iload_n hX dX11_line_28 3 rfl ?_
    replace hf := zb_some hf
    obtain ⟨r_4, h4, hf⟩ := hf
    refine z_callV1 hX ok_X3_kindAt q1030 q522 q523 (zrm_ok hR (by decide)) (ct_X3_kindAt (fk_X11_mailOf  h1) h4) (zrec_Mail hX (fk_X11_mailOf  h1)) dX11_line_29 rfl rfl ?_
    obtain rfl := Option.some.inj hf
    exact z_iret hX hr rfl (zl rfl) (zl rfl) dX11_line_32
  · replace hf := zif_neg h3 hf
    refine z_aload hX dX11_line_17 0 rfl ?_
    refine z_iload_n hX dX11_line_19 3 rfl ?_
    replace hf := zb_some hf
    obtain ⟨r_5, h5, hf⟩ := hf
    refine z_callV1 hX ok_X3_weekAt q1026 q1027 q1028 (zrm_ok hR (by decide)) (ct_X3_weekAt (fk_X11_mailOf  h1) h5) (zrec_Mail hX (fk_X11_mailOf  h1)) dX11_line_20 rfl rfl ?_
    refine z_goto hX 32 dX11_line_23 (by decide) ?_
    obtain rfl := Option.some.inj hf
    exact z_iret hX hr rfl (zl rfl) (zl rfl) dX11_line_32
set_option maxHeartbeats 4000000 in
set_option maxRecDepth 100000 in
theorem ct_X11_line {E : zE} {v1 : Int32} {v2 : Int32} {v3 : Int32} {g : zM} {r : Except Nat Int32 × zM} (hf : fX11_line v1 v2 v3 g = some r) : zCt yX11_line cX11_line 5 (some .int) 2 2 E [.ref (E.1 + 0), .int v1, .int v2, .int v3] g (zoI r) := by
  refine zmet (by decide) (zl rfl) (fun X hE hX hT hR hr hn => ?_)
  subst hE
  exact fX11_line_ok hX hT hR hr hn  hf
def fX11_needKind (v0 : Int32) (g : zM) : Option (Except Nat Unit × zM) := if v0 < 0 then some (.error 1, g) else if v0 < 12 then some (.ok (()), g) else some (.error 1, g)
set_option maxHeartbeats 4000000 in
set_option maxRecDepth 100000 in
theorem fX11_needKind_ok {X : zX} (hX : zCX X cX11_needKind RX11) (hT : zNT X) (hR : X.2.2.2.1 = zrm 0 1) (hr : X.2.2.2.2.2.2.2.2.1.sig.returnType = none) (hn : X.2.2.2.2.2.2.2.2.2.1.maxLocals = 1) {v0 : Int32} {g : zM} {r : Except Nat Unit × zM} (hf : fX11_needKind v0 g = some r) : zW X (zQ X (zoU r) 1) 0 0 0 [(0, .int v0)] [] g := by
  unfold fX11_needKind at hf
  refine z_iload_n hX dX11_needKind_0 0 rfl ?_
  refine z_if_lt hX 10 dX11_needKind_1 (by decide) (fun h1 => ?_) (fun h1 => ?_)
  · replace hf := zif_pos h1 hf
    obtain rfl := Option.some.inj hf
    exact z_throwW hX hT hR at_1_417 (i := 7) rfl dX11_needKind_10 dX11_needKind_13 dX11_needKind_14 dX11_needKind_17 dX11_needKind_20 (zl rfl) (zl rfl) (zl rfl) (zl rfl)
  · replace hf := zif_neg h1 hf
    refine z_iload_n hX dX11_needKind_4 0 rfl ?_
    refine z_bipush hX dX11_needKind_5 cb_12 ?_
    refine z_icmp_lt hX 21 dX11_needKind_7 (by decide) (fun h2 => ?_) (fun h2 => ?_)
    · replace hf := zif_pos h2 hf
      obtain rfl := Option.some.inj hf
      exact z_vret hX hr (zl rfl) (zl rfl) dX11_needKind_21
    · replace hf := zif_neg h2 hf
      obtain rfl := Option.some.inj hf
      exact z_throwW hX hT hR at_1_417 (i := 7) rfl dX11_needKind_10 dX11_needKind_13 dX11_needKind_14 dX11_needKind_17 dX11_needKind_20 (zl rfl) (zl rfl) (zl rfl) (zl rfl)
set_option maxHeartbeats 4000000 in
set_option maxRecDepth 100000 in
theorem ct_X11_needKind {E : zE} {v0 : Int32} {g : zM} {r : Except Nat Unit × zM} (hf : fX11_needKind v0 g = some r) : zCt yX11_needKind cX11_needKind 1 none 0 1 E [.int v0] g (zoU r) := by
  refine zmet (by decide) (zl rfl) (fun X hE hX hT hR hr hn => ?_)
  subst hE
  exact fX11_needKind_ok hX hT hR hr hn  hf
def fX11_words (v1 : Int32) (g : zM) : Option (Except Nat Int32 × zM) := zb3 (fX11_needKind v1 g) (fun _ g1 => zb (fX10_wordsFor 2 v1 g1) (fun r_2 => some (.ok r_2, g1)))
set_option maxHeartbeats 4000000 in
set_option maxRecDepth 100000 in
theorem fX11_words_ok {X : zX} (hX : zCX X cX11_words RX11) (hT : zNT X) (hR : X.2.2.2.1 = zrm 1 1) (hr : X.2.2.2.2.2.2.2.2.1.sig.returnType = (some .int)) (hn : X.2.2.2.2.2.2.2.2.2.1.maxLocals = 2) {v1 : Int32} {g : zM} {r : Except Nat Int32 × zM} (hf : fX11_words v1 g = some r) : zW X (zQ X (zoI r) 1) 0 0 0 [(0, .ref (zB X + 0)), (1, .int v1)] [] g := by
  unfold fX11_words at hf
  refine z_iload_n hX dX11_words_0 1 rfl ?_
  replace hf := zb3_some hf
  rcases hf with ⟨c1, g1, h1, rfl⟩ | ⟨r_1, g1, h1, hf⟩
  · exact z_callS_x hX hT ok_X11_needKind rfl q1038 q1039 (zrm_ok hR (by decide)) (ct_X11_needKind  h1) dX11_words_1 rfl rfl (zl rfl) (zl rfl)
  refine z_callS0 hX ok_X11_needKind rfl q1038 q1039 (zrm_ok hR (by decide)) (ct_X11_needKind  h1) dX11_words_1 rfl rfl ?_
  refine z_aload_n hX dX11_words_4 0 rfl ?_
  refine gf_Post_now hX zq_0 q439 dX11_words_5 ?_
  refine z_iload_n hX dX11_words_8 1 rfl ?_
  replace hf := zb_some hf
  obtain ⟨r_2, h2, hf⟩ := hf
  refine z_callV1 hX ok_X10_wordsFor q1042 q580 q581 (zrm_ok hR (by decide)) (ct_X10_wordsFor zq_2 h2) (zrec_World hX zq_2) dX11_words_9 rfl rfl ?_
  obtain rfl := Option.some.inj hf
  exact z_iret hX hr rfl (zl rfl) (zl rfl) dX11_words_12
set_option maxHeartbeats 4000000 in
set_option maxRecDepth 100000 in
theorem ct_X11_words {E : zE} {v1 : Int32} {g : zM} {r : Except Nat Int32 × zM} (hf : fX11_words v1 g = some r) : zCt yX11_words cX11_words 2 (some .int) 1 1 E [.ref (E.1 + 0), .int v1] g (zoI r) := by
  refine zmet (by decide) (zl rfl) (fun X hE hX hT hR hr hn => ?_)
  subst hE
  exact fX11_words_ok hX hT hR hr hn  hf
def fX11_needPromise (v1 : Int32) (g : zM) : Option (Except Nat Unit × zM) := if v1 < 0 then some (.error 1, g) else if v1 < (g 2 5) then some (.ok (()), g) else some (.error 1, g)
set_option maxHeartbeats 4000000 in
set_option maxRecDepth 100000 in
theorem fX11_needPromise_ok {X : zX} (hX : zCX X cX11_needPromise RX11) (hT : zNT X) (hR : X.2.2.2.1 = zrm 0 1) (hr : X.2.2.2.2.2.2.2.2.1.sig.returnType = none) (hn : X.2.2.2.2.2.2.2.2.2.1.maxLocals = 2) {v1 : Int32} {g : zM} {r : Except Nat Unit × zM} (hf : fX11_needPromise v1 g = some r) : zW X (zQ X (zoU r) 1) 0 0 0 [(0, .ref (zB X + 0)), (1, .int v1)] [] g := by
  unfold fX11_needPromise at hf
  refine z_iload_n hX dX11_needPromise_0 1 rfl ?_
  refine z_if_lt hX 15 dX11_needPromise_1 (by decide) (fun h1 => ?_) (fun h1 => ?_)
  · replace hf := zif_pos h1 hf
    obtain rfl := Option.some.inj hf
    exact z_throwW hX hT hR at_1_417 (i := 8) rfl dX11_needPromise_15 dX11_needPromise_18 dX11_needPromise_19 dX11_needPromise_22 dX11_needPromise_25 (zl rfl) (zl rfl) (zl rfl) (zl rfl)
  · replace hf := zif_neg h1 hf
    refine z_iload_n hX dX11_needPromise_4 1 rfl ?_
    refine z_aload_n hX dX11_needPromise_5 0 rfl ?_
    refine gf_Post_now hX zq_0 q439 dX11_needPromise_6 ?_
    refine gf_World_promises_N hX zq_2 qn281 dX11_needPromise_9 ?_
    refine z_icmp_lt hX 26 dX11_needPromise_12 (by decide) (fun h2 => ?_) (fun h2 => ?_)
    · replace hf := zif_pos h2 hf
      obtain rfl := Option.some.inj hf
      exact z_vret hX hr (zl rfl) (zl rfl) dX11_needPromise_26
    · replace hf := zif_neg h2 hf
      obtain rfl := Option.some.inj hf
      exact z_throwW hX hT hR at_1_417 (i := 8) rfl dX11_needPromise_15 dX11_needPromise_18 dX11_needPromise_19 dX11_needPromise_22 dX11_needPromise_25 (zl rfl) (zl rfl) (zl rfl) (zl rfl)
set_option maxHeartbeats 4000000 in
set_option maxRecDepth 100000 in
theorem ct_X11_needPromise {E : zE} {v1 : Int32} {g : zM} {r : Except Nat Unit × zM} (hf : fX11_needPromise v1 g = some r) : zCt yX11_needPromise cX11_needPromise 2 none 0 1 E [.ref (E.1 + 0), .int v1] g (zoU r) := by
  refine zmet (by decide) (zl rfl) (fun X hE hX hT hR hr hn => ?_)
  subst hE
  exact fX11_needPromise_ok hX hT hR hr hn  hf
def fX10_promised (h : Nat) (v1 : Int32) (v2 : Int32) (g : zM) : Option Int32 := if v1 < 0 then some ((-1)) else if v1 < (g h 5) then if v2 = 0 then zchk v1 8 (some (g (h + 35) v1.toNatClampNeg)) else zchk v1 8 (some (g (h + 36) v1.toNatClampNeg)) else some ((-1))
set_option maxHeartbeats 4000000 in
set_option maxRecDepth 100000 in
theorem fX10_promised_ok {X : zX} (hX : zCX X cX10_promised RX10) (hT : zNT X) (hR : X.2.2.2.1 = zrm 0 0) (hr : X.2.2.2.2.2.2.2.2.1.sig.returnType = (some .int)) (hn : X.2.2.2.2.2.2.2.2.2.1.maxLocals = 3) {h : Nat} {v1 : Int32} {v2 : Int32} (hkh : zK h = 9) {g : zM} {r : Int32} (hf : fX10_promised h v1 v2 g = some r) : zW X (zQ X (.inl (some (.int r), g)) 0) 0 0 0 [(0, .ref (zB X + h)), (1, .int v1), (2, .int v2)] [] g := by
  unfold fX10_promised at hf
  refine z_iload_n hX dX10_promised_0 1 rfl ?_
  refine z_if_lt hX 12 dX10_promised_1 (by decide) (fun h1 => ?_) (fun h1 => ?_)
  · replace hf := zif_pos h1 hf
    refine z_iconst hX dX10_promised_12 ci_m1 ?_
    obtain rfl := Option.some.inj hf
    exact z_iret hX hr rfl (zl rfl) (zl rfl) dX10_promised_13
  · replace hf := zif_neg h1 hf
    refine z_iload_n hX dX10_promised_4 1 rfl ?_
    refine z_aload_n hX dX10_promised_5 0 rfl ?_
    refine gf_World_promises hX hkh q279 dX10_promised_6 ?_
    refine z_icmp_lt hX 14 dX10_promised_9 (by decide) (fun h2 => ?_) (fun h2 => ?_)
    · replace hf := zif_pos h2 hf
      refine z_iload_n hX dX10_promised_14 2 rfl ?_
      refine z_if_eq hX 27 dX10_promised_15 (by decide) (fun h3 => ?_) (fun h3 => ?_)
      · replace hf := zif_pos h3 hf
        refine z_aload_n hX dX10_promised_27 0 rfl ?_
        refine gf_World_firsts hX hkh q277 dX10_promised_28 ?_
        refine z_iload_n hX dX10_promised_31 1 rfl ?_
        replace hf := zchk_some hf
        obtain ⟨h4, hf⟩ := hf
        refine z_iald hX (zk_World_firsts hkh) (by decide) (zc_1008 _ _ _) h4 dX10_promised_32 ?_
        obtain rfl := Option.some.inj hf
        exact z_iret hX hr rfl (zl rfl) (zl rfl) dX10_promised_33
      · replace hf := zif_neg h3 hf
        refine z_aload_n hX dX10_promised_18 0 rfl ?_
        refine gf_World_seconds hX hkh q278 dX10_promised_19 ?_
        refine z_iload_n hX dX10_promised_22 1 rfl ?_
        replace hf := zchk_some hf
        obtain ⟨h5, hf⟩ := hf
        refine z_iald hX (zk_World_seconds hkh) (by decide) (zc_1008 _ _ _) h5 dX10_promised_23 ?_
        refine z_goto hX 33 dX10_promised_24 (by decide) ?_
        obtain rfl := Option.some.inj hf
        exact z_iret hX hr rfl (zl rfl) (zl rfl) dX10_promised_33
    · replace hf := zif_neg h2 hf
      refine z_iconst hX dX10_promised_12 ci_m1 ?_
      obtain rfl := Option.some.inj hf
      exact z_iret hX hr rfl (zl rfl) (zl rfl) dX10_promised_13
set_option maxHeartbeats 4000000 in
set_option maxRecDepth 100000 in
theorem ct_X10_promised {E : zE} {h : Nat} {v1 : Int32} {v2 : Int32} (hkh : zK h = 9) {g : zM} {r : Int32} (hf : fX10_promised h v1 v2 g = some r) : zCt yX10_promised cX10_promised 3 (some .int) 0 0 E [.ref (E.1 + h), .int v1, .int v2] g (.inl (some (.int r), g)) := by
  refine zmet (by decide) (zl rfl) (fun X hE hX hT hR hr hn => ?_)
  subst hE
  exact fX10_promised_ok hX hT hR hr hn hkh hf
def fX11_promise (v1 : Int32) (v2 : Int32) (g : zM) : Option (Except Nat Int32 × zM) := zb3 (fX11_needPromise v1 g) (fun _ g1 => zb (fX10_promised 2 v1 v2 g1) (fun r_2 => some (.ok r_2, g1)))
set_option maxHeartbeats 4000000 in
set_option maxRecDepth 100000 in
theorem fX11_promise_ok {X : zX} (hX : zCX X cX11_promise RX11) (hT : zNT X) (hR : X.2.2.2.1 = zrm 1 1) (hr : X.2.2.2.2.2.2.2.2.1.sig.returnType = (some .int)) (hn : X.2.2.2.2.2.2.2.2.2.1.maxLocals = 3) {v1 : Int32} {v2 : Int32} {g : zM} {r : Except Nat Int32 × zM} (hf : fX11_promise v1 v2 g = some r) : zW X (zQ X (zoI r) 1) 0 0 0 [(0, .ref (zB X + 0)), (1, .int v1), (2, .int v2)] [] g := by
  unfold fX11_promise at hf
  refine z_aload_n hX dX11_promise_0 0 rfl ?_
  refine z_iload_n hX dX11_promise_1 1 rfl ?_
  replace hf := zb3_some hf
  rcases hf with ⟨c1, g1, h1, rfl⟩ | ⟨r_1, g1, h1, hf⟩
  · exact z_callV_x hX hT ok_X11_needPromise q1050 q1052 q27 (zrm_ok hR (by decide)) (ct_X11_needPromise  h1) (zrec_Post hX zq_0) dX11_promise_2 rfl rfl (zl rfl) (zl rfl)
  refine z_callV0 hX ok_X11_needPromise q1050 q1052 q27 (zrm_ok hR (by decide)) (ct_X11_needPromise  h1) (zrec_Post hX zq_0) dX11_promise_2 rfl rfl ?_
  refine z_aload_n hX dX11_promise_5 0 rfl ?_
  refine gf_Post_now hX zq_0 q439 dX11_promise_6 ?_
  refine z_iload_n hX dX11_promise_9 1 rfl ?_
  refine z_iload_n hX dX11_promise_10 2 rfl ?_
  replace hf := zb_some hf
  obtain ⟨r_2, h2, hf⟩ := hf
  refine z_callV1 hX ok_X10_promised q1055 q1056 q1057 (zrm_ok hR (by decide)) (ct_X10_promised zq_2 h2) (zrec_World hX zq_2) dX11_promise_11 rfl rfl ?_
  obtain rfl := Option.some.inj hf
  exact z_iret hX hr rfl (zl rfl) (zl rfl) dX11_promise_14
set_option maxHeartbeats 4000000 in
set_option maxRecDepth 100000 in
theorem ct_X11_promise {E : zE} {v1 : Int32} {v2 : Int32} {g : zM} {r : Except Nat Int32 × zM} (hf : fX11_promise v1 v2 g = some r) : zCt yX11_promise cX11_promise 3 (some .int) 1 1 E [.ref (E.1 + 0), .int v1, .int v2] g (zoI r) := by
  refine zmet (by decide) (zl rfl) (fun X hE hX hT hR hr hn => ?_)
  subst hE
  exact fX11_promise_ok hX hT hR hr hn  hf
def fX11_season (v1 : Int32) (g : zM) : Option (Except Nat Int32 × zM) := if v1 < 0 then some (.error 2, g) else if v1 ≤ 9999 then zb (fX11_seasonOf v1 g) (fun r_3 => some (.ok r_3, g)) else some (.error 2, g)
set_option maxHeartbeats 4000000 in
set_option maxRecDepth 100000 in
theorem fX11_season_ok {X : zX} (hX : zCX X cX11_season RX11) (hT : zNT X) (hR : X.2.2.2.1 = zrm 1 1) (hr : X.2.2.2.2.2.2.2.2.1.sig.returnType = (some .int)) (hn : X.2.2.2.2.2.2.2.2.2.1.maxLocals = 2) {v1 : Int32} {g : zM} {r : Except Nat Int32 × zM} (hf : fX11_season v1 g = some r) : zW X (zQ X (zoI r) 1) 0 0 0 [(0, .ref (zB X + 0)), (1, .int v1)] [] g := by
  unfold fX11_season at hf
  refine z_iload_n hX dX11_season_0 1 rfl ?_
  refine z_if_lt hX 11 dX11_season_1 (by decide) (fun h1 => ?_) (fun h1 => ?_)
  · replace hf := zif_pos h1 hf
    obtain rfl := Option.some.inj hf
    exact z_throw hX hT hR at_2_114 (i := 9) rfl dX11_season_11 dX11_season_14 dX11_season_15 dX11_season_17 dX11_season_20 (zl rfl) (zl rfl) (zl rfl) (zl rfl)
  · replace hf := zif_neg h1 hf
    refine z_iload_n hX dX11_season_4 1 rfl ?_
    refine z_sipush hX dX11_season_5 cs_9999 ?_
    refine z_icmp_le hX 21 dX11_season_8 (by decide) (fun h2 => ?_) (fun h2 => ?_)
    · replace hf := zif_pos h2 hf
      refine z_iload_n hX dX11_season_21 1 rfl ?_
      replace hf := zb_some hf
      obtain ⟨r_3, h3, hf⟩ := hf
      refine z_callS1 hX ok_X11_seasonOf rfl q1067 q543 (zrm_ok hR (by decide)) (ct_X11_seasonOf  h3) dX11_season_22 rfl rfl ?_
      obtain rfl := Option.some.inj hf
      exact z_iret hX hr rfl (zl rfl) (zl rfl) dX11_season_25
    · replace hf := zif_neg h2 hf
      obtain rfl := Option.some.inj hf
      exact z_throw hX hT hR at_2_114 (i := 9) rfl dX11_season_11 dX11_season_14 dX11_season_15 dX11_season_17 dX11_season_20 (zl rfl) (zl rfl) (zl rfl) (zl rfl)
set_option maxHeartbeats 4000000 in
set_option maxRecDepth 100000 in
theorem ct_X11_season {E : zE} {v1 : Int32} {g : zM} {r : Except Nat Int32 × zM} (hf : fX11_season v1 g = some r) : zCt yX11_season cX11_season 2 (some .int) 1 1 E [.ref (E.1 + 0), .int v1] g (zoI r) := by
  refine zmet (by decide) (zl rfl) (fun X hE hX hT hR hr hn => ?_)
  subst hE
  exact fX11_season_ok hX hT hR hr hn  hf
def fX11_areKinds_L15 (v1 : Int32) (g : zM) : Nat → Int32 → Option Int32
  | 0, _ => none
  | n + 1, v2 => if v1 ≤ v2 then some 1 else zchk v2 400 (if (g 1 v2.toNatClampNeg) < 0 then some 0 else zchk v2 400 (if (g 1 v2.toNatClampNeg) < 12 then fX11_areKinds_L15 v1 g n (v2 + 1) else some 0))
def fX11_areKinds (v1 : Int32) (g : zM) : Option Int32 := if v1 < 1 then some 0 else if v1 ≤ 24 then fX11_areKinds_L15 v1 g zFU 0 else some 0
set_option maxHeartbeats 4000000 in
set_option maxRecDepth 100000 in
theorem fX11_areKinds_L15_ok {X : zX} (hX : zCX X cX11_areKinds RX11) (hT : zNT X) (hR : X.2.2.2.1 = zrm 0 0) (hr : X.2.2.2.2.2.2.2.2.1.sig.returnType = (some .boolean)) (hn : X.2.2.2.2.2.2.2.2.2.1.maxLocals = 3) {v1 : Int32} {g : zM} {r : Int32}  : ∀ (n : Nat) (v2 : Int32), fX11_areKinds_L15 v1 g n v2 = some r → zW X (zQ X (.inl (some (.int r), g)) 0) 0 0 15 [(0, .ref (zB X + 0)), (1, .int v1), (2, .int v2)] [] g := by
  intro n
  induction n with
  | zero => intro v2 hf; exact zno hf
  | succ n ih =>
    intro v2 hf
    rw [fX11_areKinds_L15] at hf
    refine z_iload_n hX dX11_areKinds_15 2 rfl ?_
    refine z_iload_n hX dX11_areKinds_16 1 rfl ?_
    refine z_icmp_ge hX 48 dX11_areKinds_17 (by decide) (fun h3 => ?_) (fun h3 => ?_)
    · replace hf := zif_pos h3 hf
      refine z_iconst hX dX11_areKinds_48 ci_1 ?_
      obtain rfl := Option.some.inj hf
      exact z_iret hX hr (zbn (Or.inr rfl)) (zl rfl) (zl rfl) dX11_areKinds_49
    · replace hf := zif_neg h3 hf
      refine z_aload_n hX dX11_areKinds_20 0 rfl ?_
      refine gf_Post_tape hX zq_0 q436 dX11_areKinds_21 ?_
      refine z_iload_n hX dX11_areKinds_24 2 rfl ?_
      replace hf := zchk_some hf
      obtain ⟨h4, hf⟩ := hf
      refine z_iald hX zq_1 (by decide) (zc_1400 _ _ _) h4 dX11_areKinds_25 ?_
      refine z_if_lt hX 40 dX11_areKinds_26 (by decide) (fun h5 => ?_) (fun h5 => ?_)
      · replace hf := zif_pos h5 hf
        refine z_iconst hX dX11_areKinds_40 ci_0 ?_
        obtain rfl := Option.some.inj hf
        exact z_iret hX hr (zbn (Or.inl rfl)) (zl rfl) (zl rfl) dX11_areKinds_41
      · replace hf := zif_neg h5 hf
        refine z_aload_n hX dX11_areKinds_29 0 rfl ?_
        refine gf_Post_tape hX zq_0 q436 dX11_areKinds_30 ?_
        refine z_iload_n hX dX11_areKinds_33 2 rfl ?_
        replace hf := zchk_some hf
        obtain ⟨h6, hf⟩ := hf
        refine z_iald hX zq_1 (by decide) (zc_1400 _ _ _) h6 dX11_areKinds_34 ?_
        refine z_bipush hX dX11_areKinds_35 cb_12 ?_
        refine z_icmp_lt hX 42 dX11_areKinds_37 (by decide) (fun h7 => ?_) (fun h7 => ?_)
        · replace hf := zif_pos h7 hf
          refine z_iincc (lv' := [(2, .int (v2 + 1)), (0, .ref (zB X + 0)), (1, .int v1)]) hX dX11_areKinds_42 hn (by decide) 2 rfl ci_1 rfl ?_
          refine z_goto hX 15 dX11_areKinds_45 (by decide) ?_
          refine zW.sub [1, 2, 0] rfl ?_
          exact ih (v2 + 1) hf
        · replace hf := zif_neg h7 hf
          refine z_iconst hX dX11_areKinds_40 ci_0 ?_
          obtain rfl := Option.some.inj hf
          exact z_iret hX hr (zbn (Or.inl rfl)) (zl rfl) (zl rfl) dX11_areKinds_41
set_option maxHeartbeats 4000000 in
set_option maxRecDepth 100000 in
theorem fX11_areKinds_ok {X : zX} (hX : zCX X cX11_areKinds RX11) (hT : zNT X) (hR : X.2.2.2.1 = zrm 0 0) (hr : X.2.2.2.2.2.2.2.2.1.sig.returnType = (some .boolean)) (hn : X.2.2.2.2.2.2.2.2.2.1.maxLocals = 3) {v1 : Int32} {g : zM} {r : Int32} (hf : fX11_areKinds v1 g = some r) : zW X (zQ X (.inl (some (.int r), g)) 0) 0 0 0 [(0, .ref (zB X + 0)), (1, .int v1)] [] g := by
  unfold fX11_areKinds at hf
  refine z_iload_n hX dX11_areKinds_0 1 rfl ?_
  refine z_iconst hX dX11_areKinds_1 ci_1 ?_
  refine z_icmp_lt hX 11 dX11_areKinds_2 (by decide) (fun h1 => ?_) (fun h1 => ?_)
  · replace hf := zif_pos h1 hf
    refine z_iconst hX dX11_areKinds_11 ci_0 ?_
    obtain rfl := Option.some.inj hf
    exact z_iret hX hr (zbn (Or.inl rfl)) (zl rfl) (zl rfl) dX11_areKinds_12
  · replace hf := zif_neg h1 hf
    refine z_iload_n hX dX11_areKinds_5 1 rfl ?_
    refine z_bipush hX dX11_areKinds_6 cb_24 ?_
    refine z_icmp_le hX 13 dX11_areKinds_8 (by decide) (fun h2 => ?_) (fun h2 => ?_)
    · replace hf := zif_pos h2 hf
      refine z_iconst hX dX11_areKinds_13 ci_0 ?_
      refine z_istore_n (lv' := [(2, .int 0), (0, .ref (zB X + 0)), (1, .int v1)]) hX dX11_areKinds_14 hn (by decide) rfl ?_
      refine zW.sub [1, 2, 0] rfl ?_
      exact fX11_areKinds_L15_ok hX hT hR hr hn  zFU 0 hf
    · replace hf := zif_neg h2 hf
      refine z_iconst hX dX11_areKinds_11 ci_0 ?_
      obtain rfl := Option.some.inj hf
      exact z_iret hX hr (zbn (Or.inl rfl)) (zl rfl) (zl rfl) dX11_areKinds_12
set_option maxHeartbeats 4000000 in
set_option maxRecDepth 100000 in
theorem ct_X11_areKinds {E : zE} {v1 : Int32} {g : zM} {r : Int32} (hf : fX11_areKinds v1 g = some r) : zCt yX11_areKinds cX11_areKinds 3 (some .boolean) 0 0 E [.ref (E.1 + 0), .int v1] g (.inl (some (.int r), g)) := by
  refine zmet (by decide) (zl rfl) (fun X hE hX hT hR hr hn => ?_)
  subst hE
  exact fX11_areKinds_ok hX hT hR hr hn  hf
def fX11_isNoDigit (v0 : Int32) (g : zM) : Option Int32 := if v0 < 0 then some 1 else if v0 < 10 then some 0 else some 1
set_option maxHeartbeats 4000000 in
set_option maxRecDepth 100000 in
theorem fX11_isNoDigit_ok {X : zX} (hX : zCX X cX11_isNoDigit RX11) (hT : zNT X) (hR : X.2.2.2.1 = zrm 0 0) (hr : X.2.2.2.2.2.2.2.2.1.sig.returnType = (some .boolean)) (hn : X.2.2.2.2.2.2.2.2.2.1.maxLocals = 1) {v0 : Int32} {g : zM} {r : Int32} (hf : fX11_isNoDigit v0 g = some r) : zW X (zQ X (.inl (some (.int r), g)) 0) 0 0 0 [(0, .int v0)] [] g := by
  unfold fX11_isNoDigit at hf
  refine z_iload_n hX dX11_isNoDigit_0 0 rfl ?_
  refine z_if_lt hX 10 dX11_isNoDigit_1 (by decide) (fun h1 => ?_) (fun h1 => ?_)
  · replace hf := zif_pos h1 hf
    refine z_iconst hX dX11_isNoDigit_10 ci_1 ?_
    refine z_goto hX 15 dX11_isNoDigit_11 (by decide) ?_
    obtain rfl := Option.some.inj hf
    exact z_iret hX hr (zbn (Or.inr rfl)) (zl rfl) (zl rfl) dX11_isNoDigit_15
  · replace hf := zif_neg h1 hf
    refine z_iload_n hX dX11_isNoDigit_4 0 rfl ?_
    refine z_bipush hX dX11_isNoDigit_5 cb_10 ?_
    refine z_icmp_lt hX 14 dX11_isNoDigit_7 (by decide) (fun h2 => ?_) (fun h2 => ?_)
    · replace hf := zif_pos h2 hf
      refine z_iconst hX dX11_isNoDigit_14 ci_0 ?_
      obtain rfl := Option.some.inj hf
      exact z_iret hX hr (zbn (Or.inl rfl)) (zl rfl) (zl rfl) dX11_isNoDigit_15
    · replace hf := zif_neg h2 hf
      refine z_iconst hX dX11_isNoDigit_10 ci_1 ?_
      refine z_goto hX 15 dX11_isNoDigit_11 (by decide) ?_
      obtain rfl := Option.some.inj hf
      exact z_iret hX hr (zbn (Or.inr rfl)) (zl rfl) (zl rfl) dX11_isNoDigit_15
set_option maxHeartbeats 4000000 in
set_option maxRecDepth 100000 in
theorem ct_X11_isNoDigit {E : zE} {v0 : Int32} {g : zM} {r : Int32} (hf : fX11_isNoDigit v0 g = some r) : zCt yX11_isNoDigit cX11_isNoDigit 1 (some .boolean) 0 0 E [.int v0] g (.inl (some (.int r), g)) := by
  refine zmet (by decide) (zl rfl) (fun X hE hX hT hR hr hn => ?_)
  subst hE
  exact fX11_isNoDigit_ok hX hT hR hr hn  hf
