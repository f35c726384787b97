def fL_post (g : zM) : Option (Int32 × zM) := zb3w (fX11_post g) (fun r_1 g1 => zchk 0 1 (zput g1 508 (0 : Int32).toNatClampNeg r_1 (fun g5 => some (0, g5)))) (fun c1 g1 => if c1 = 2 then some (1, g1) else if c1 = 4 then some (2, g1) else none)
theorem okw_L_post : zOKW yL_post cL_post 3 (some .int) [(0, 8, 11, 13), (0, 8, 14, 15)] 2 := ⟨q646, q114, by decide, by decide, by decide +kernel⟩
set_option maxHeartbeats 4000000 in
set_option maxRecDepth 100000 in
theorem fL_post_ok {X : zX} (hX : zCX X cL_post RL) (hTb : zTab X [(0, 8, 11, 13), (0, 8, 14, 15)]) (hR : X.2.2.2.1 = zrm 64 2) (hr : X.2.2.2.2.2.2.2.2.1.sig.returnType = (some .int)) (hn : X.2.2.2.2.2.2.2.2.2.1.maxLocals = 3)  {g : zM} {r : Int32 × zM} (hf : fL_post g = some r) : zW X (zQ X (.inl (some (.int r.1), r.2)) 2) 0 0 0 [(0, .ref (zB X + 0)), (1, .ref (zB X + 508))] [] g := by
  unfold fL_post at hf
  refine z_aload_n hX dL_post_0 1 rfl ?_
  refine z_iconst hX dL_post_1 ci_0 ?_
  refine z_aload_n hX dL_post_2 0 rfl ?_
  replace hf := zb3w_some hf
  rcases hf with ⟨c1, g1, h1, hf⟩ | ⟨r_1, g1, h1, hf⟩
  · by_cases h2 : c1 = 2
    · replace hf := zif_pos h2 hf
      subst h2
      refine z_callV_c hX ok_X11_post q649 q650 q651 (zrm_ok hR (by decide)) (ct_X11_post h1) (zrec_Post hX zq_0) dL_post_3 rfl rfl ?_
      refine z_catch hX hTb [] [(0, 8, 14, 15)] rfl (fun z hz => absurd hz List.not_mem_nil) (by decide) (by decide) q647 qn865 (fun q9 => ?_)
      refine z_astore_n (lv' := [(2, .ref q9), (0, .ref (zB X + 0)), (1, .ref (zB X + 508))]) hX dL_post_11 hn (by decide) rfl ?_
      refine z_iconst hX dL_post_12 ci_1 ?_
      obtain rfl := Option.some.inj hf
      exact z_iret hX hr rfl (zl rfl) (zl rfl) dL_post_13
    · replace hf := zif_neg h2 hf
      by_cases h3 : c1 = 4
      · replace hf := zif_pos h3 hf
        subst h3
        refine z_callV_c hX ok_X11_post q649 q650 q651 (zrm_ok hR (by decide)) (ct_X11_post h1) (zrec_Post hX zq_0) dL_post_3 rfl rfl ?_
        refine z_catch hX hTb [(0, 8, 11, 13)] [] rfl (zpass1 ⟨by decide, _, q647, by decide⟩) (by decide) (by decide) q648 qn935 (fun q9 => ?_)
        refine z_astore_n (lv' := [(2, .ref q9), (0, .ref (zB X + 0)), (1, .ref (zB X + 508))]) hX dL_post_14 hn (by decide) rfl ?_
        refine z_iconst hX dL_post_15 ci_2 ?_
        obtain rfl := Option.some.inj hf
        exact z_iret hX hr rfl (zl rfl) (zl rfl) dL_post_16
      · replace hf := zif_neg h3 hf
        exact zno hf
  refine z_callV1 hX ok_X11_post q649 q650 q651 (zrm_ok hR (by decide)) (ct_X11_post h1) (zrec_Post hX zq_0) dL_post_3 rfl rfl ?_
  refine z_i2l hX dL_post_6 ?_
  replace hf := zchk_some hf
  obtain ⟨h4, hf⟩ := hf
  replace hf := zput_some hf
  obtain ⟨g5, eg5, hf⟩ := hf
  refine z_last hX zq_508 rfl h4 dL_post_7 (zW.eqg eg5 ?_)
  refine z_goto hX 17 dL_post_8 (by decide) ?_
  refine z_iconst hX dL_post_17 ci_0 ?_
  obtain rfl := Option.some.inj hf
  exact z_iret hX hr rfl (zl rfl) (zl rfl) dL_post_18
set_option maxHeartbeats 4000000 in
set_option maxRecDepth 100000 in
theorem ct_L_post {E : zE}  {g : zM} {r : Int32 × zM} (hf : fL_post g = some r) : zCtW yL_post cL_post 3 (some .int) [(0, 8, 11, 13), (0, 8, 14, 15)] 64 2 E [.ref (E.1 + 0), .ref (E.1 + 508)] g (some (.int r.1)) r.2 := by
  refine zmetW (by decide) (zl rfl) (fun X hE hX hTb hR hr hn => ?_)
  subst hE
  exact fL_post_ok hX hTb hR hr hn hf
def fL_law (g : zM) : Option (Int32 × zM) := zb3w (fX11_law g) (fun r_1 g1 => zchk 0 1 (zput g1 508 (0 : Int32).toNatClampNeg r_1 (fun g4 => some (0, g4)))) (fun c1 g1 => if c1 = 2 then some (1, g1) else none)
theorem okw_L_law : zOKW yL_law cL_law 3 (some .int) [(0, 8, 11, 13)] 2 := ⟨q951, q114, by decide, by decide, by decide +kernel⟩
set_option maxHeartbeats 4000000 in
set_option maxRecDepth 100000 in
theorem fL_law_ok {X : zX} (hX : zCX X cL_law RL) (hTb : zTab X [(0, 8, 11, 13)]) (hR : X.2.2.2.1 = zrm 64 1) (hr : X.2.2.2.2.2.2.2.2.1.sig.returnType = (some .int)) (hn : X.2.2.2.2.2.2.2.2.2.1.maxLocals = 3)  {g : zM} {r : Int32 × zM} (hf : fL_law g = some r) : zW X (zQ X (.inl (some (.int r.1), r.2)) 1) 0 0 0 [(0, .ref (zB X + 0)), (1, .ref (zB X + 508))] [] g := by
  unfold fL_law at hf
  refine z_aload_n hX dL_law_0 1 rfl ?_
  refine z_iconst hX dL_law_1 ci_0 ?_
  refine z_aload_n hX dL_law_2 0 rfl ?_
  replace hf := zb3w_some hf
  rcases hf with ⟨c1, g1, h1, hf⟩ | ⟨r_1, g1, h1, hf⟩
  · by_cases h2 : c1 = 2
    · replace hf := zif_pos h2 hf
      subst h2
      refine z_callV_c hX ok_X11_law q952 q953 q954 (zrm_ok hR (by decide)) (ct_X11_law h1) (zrec_Post hX zq_0) dL_law_3 rfl rfl ?_
      refine z_catch hX hTb [] [] rfl (fun z hz => absurd hz List.not_mem_nil) (by decide) (by decide) q647 qn865 (fun q9 => ?_)
      refine z_astore_n (lv' := [(2, .ref q9), (0, .ref (zB X + 0)), (1, .ref (zB X + 508))]) hX dL_law_11 hn (by decide) rfl ?_
      refine z_iconst hX dL_law_12 ci_1 ?_
      obtain rfl := Option.some.inj hf
      exact z_iret hX hr rfl (zl rfl) (zl rfl) dL_law_13
    · replace hf := zif_neg h2 hf
      exact zno hf
  refine z_callV1 hX ok_X11_law q952 q953 q954 (zrm_ok hR (by decide)) (ct_X11_law h1) (zrec_Post hX zq_0) dL_law_3 rfl rfl ?_
  refine z_i2l hX dL_law_6 ?_
  replace hf := zchk_some hf
  obtain ⟨h3, hf⟩ := hf
  replace hf := zput_some hf
  obtain ⟨g4, eg4, hf⟩ := hf
  refine z_last hX zq_508 rfl h3 dL_law_7 (zW.eqg eg4 ?_)
  refine z_goto hX 14 dL_law_8 (by decide) ?_
  refine z_iconst hX dL_law_14 ci_0 ?_
  obtain rfl := Option.some.inj hf
  exact z_iret hX hr rfl (zl rfl) (zl rfl) dL_law_15
set_option maxHeartbeats 4000000 in
set_option maxRecDepth 100000 in
theorem ct_L_law {E : zE}  {g : zM} {r : Int32 × zM} (hf : fL_law g = some r) : zCtW yL_law cL_law 3 (some .int) [(0, 8, 11, 13)] 64 1 E [.ref (E.1 + 0), .ref (E.1 + 508)] g (some (.int r.1)) r.2 := by
  refine zmetW (by decide) (zl rfl) (fun X hE hX hTb hR hr hn => ?_)
  subst hE
  exact fL_law_ok hX hTb hR hr hn hf
def fL_letter (v1 : Int32) (v2 : Int32) (g : zM) : Option (Int32 × zM) := zb3w (fX11_letter v1 v2 g) (fun r_1 g1 => zchk 0 1 (zput g1 508 (0 : Int32).toNatClampNeg r_1 (fun g5 => some (0, g5)))) (fun c1 g1 => if c1 = 1 then some (1, g1) else if c1 = 5 then some (2, g1) else none)
theorem okw_L_letter : zOKW yL_letter cL_letter 5 (some .int) [(0, 10, 13, 24), (0, 10, 17, 26)] 4 := ⟨q967, q114, by decide, by decide, by decide +kernel⟩
set_option maxHeartbeats 4000000 in
set_option maxRecDepth 100000 in
theorem fL_letter_ok {X : zX} (hX : zCX X cL_letter RL) (hTb : zTab X [(0, 10, 13, 24), (0, 10, 17, 26)]) (hR : X.2.2.2.1 = zrm 5 2) (hr : X.2.2.2.2.2.2.2.2.1.sig.returnType = (some .int)) (hn : X.2.2.2.2.2.2.2.2.2.1.maxLocals = 5) {v1 : Int32} {v2 : Int32} {g : zM} {r : Int32 × zM} (hf : fL_letter v1 v2 g = some r) : zW X (zQ X (.inl (some (.int r.1), r.2)) 2) 0 0 0 [(0, .ref (zB X + 0)), (1, .int v1), (2, .int v2), (3, .ref (zB X + 508))] [] g := by
  unfold fL_letter at hf
  refine z_aload_n hX dL_letter_0 3 rfl ?_
  refine z_iconst hX dL_letter_1 ci_0 ?_
  refine z_aload_n hX dL_letter_2 0 rfl ?_
  refine z_iload_n hX dL_letter_3 1 rfl ?_
  refine z_iload_n hX dL_letter_4 2 rfl ?_
  replace hf := zb3w_some hf
  rcases hf with ⟨c1, g1, h1, hf⟩ | ⟨r_1, g1, h1, hf⟩
  · by_cases h2 : c1 = 1
    · replace hf := zif_pos h2 hf
      subst h2
      refine z_callV_c hX ok_X11_letter q970 q971 q972 (zrm_ok hR (by decide)) (ct_X11_letter h1) (zrec_Post hX zq_0) dL_letter_5 rfl rfl ?_
      refine z_catch hX hTb [] [(0, 10, 17, 26)] rfl (fun z hz => absurd hz List.not_mem_nil) (by decide) (by decide) q968 qn984 (fun q9 => ?_)
      refine z_astore (lv' := [(4, .ref q9), (0, .ref (zB X + 0)), (1, .int v1), (2, .int v2), (3, .ref (zB X + 508))]) hX dL_letter_13 hn (by decide) rfl ?_
      refine z_iconst hX dL_letter_15 ci_1 ?_
      obtain rfl := Option.some.inj hf
      exact z_iret hX hr rfl (zl rfl) (zl rfl) dL_letter_16
    · replace hf := zif_neg h2 hf
      by_cases h3 : c1 = 5
      · replace hf := zif_pos h3 hf
        subst h3
        refine z_callV_c hX ok_X11_letter q970 q971 q972 (zrm_ok hR (by decide)) (ct_X11_letter h1) (zrec_Post hX zq_0) dL_letter_5 rfl rfl ?_
        refine z_catch hX hTb [(0, 10, 13, 24)] [] rfl (zpass1 ⟨by decide, _, q968, by decide⟩) (by decide) (by decide) q969 qn1001 (fun q9 => ?_)
        refine z_astore (lv' := [(4, .ref q9), (0, .ref (zB X + 0)), (1, .int v1), (2, .int v2), (3, .ref (zB X + 508))]) hX dL_letter_17 hn (by decide) rfl ?_
        refine z_iconst hX dL_letter_19 ci_2 ?_
        obtain rfl := Option.some.inj hf
        exact z_iret hX hr rfl (zl rfl) (zl rfl) dL_letter_20
      · replace hf := zif_neg h3 hf
        exact zno hf
  refine z_callV1 hX ok_X11_letter q970 q971 q972 (zrm_ok hR (by decide)) (ct_X11_letter h1) (zrec_Post hX zq_0) dL_letter_5 rfl rfl ?_
  refine z_i2l hX dL_letter_8 ?_
  replace hf := zchk_some hf
  obtain ⟨h4, hf⟩ := hf
  replace hf := zput_some hf
  obtain ⟨g5, eg5, hf⟩ := hf
  refine z_last hX zq_508 rfl h4 dL_letter_9 (zW.eqg eg5 ?_)
  refine z_goto hX 21 dL_letter_10 (by decide) ?_
  refine z_iconst hX dL_letter_21 ci_0 ?_
  obtain rfl := Option.some.inj hf
  exact z_iret hX hr rfl (zl rfl) (zl rfl) dL_letter_22
set_option maxHeartbeats 4000000 in
set_option maxRecDepth 100000 in
theorem ct_L_letter {E : zE} {v1 : Int32} {v2 : Int32} {g : zM} {r : Int32 × zM} (hf : fL_letter v1 v2 g = some r) : zCtW yL_letter cL_letter 5 (some .int) [(0, 10, 13, 24), (0, 10, 17, 26)] 5 2 E [.ref (E.1 + 0), .int v1, .int v2, .ref (E.1 + 508)] g (some (.int r.1)) r.2 := by
  refine zmetW (by decide) (zl rfl) (fun X hE hX hTb hR hr hn => ?_)
  subst hE
  exact fL_letter_ok hX hTb hR hr hn hf
def fL_line (v1 : Int32) (v2 : Int32) (v3 : Int32) (g : zM) : Option (Int32 × zM) := zb3w (fX11_line v1 v2 v3 g) (fun r_1 g1 => zchk 0 1 (zput g1 508 (0 : Int32).toNatClampNeg r_1 (fun g4 => some (0, g4)))) (fun c1 g1 => if c1 = 1 then some (1, g1) else none)
theorem okw_L_line : zOKW yL_line cL_line 6 (some .int) [(0, 12, 15, 24)] 5 := ⟨q1017, q114, by decide, by decide, by decide +kernel⟩
set_option maxHeartbeats 4000000 in
set_option maxRecDepth 100000 in
theorem fL_line_ok {X : zX} (hX : zCX X cL_line RL) (hTb : zTab X [(0, 12, 15, 24)]) (hR : X.2.2.2.1 = zrm 3 2) (hr : X.2.2.2.2.2.2.2.2.1.sig.returnType = (some .int)) (hn : X.2.2.2.2.2.2.2.2.2.1.maxLocals = 6) {v1 : Int32} {v2 : Int32} {v3 : Int32} {g : zM} {r : Int32 × zM} (hf : fL_line v1 v2 v3 g = some r) : zW X (zQ X (.inl (some (.int r.1), r.2)) 2) 0 0 0 [(0, .ref (zB X + 0)), (1, .int v1), (2, .int v2), (3, .int v3), (4, .ref (zB X + 508))] [] g := by
  unfold fL_line at hf
  refine z_aload hX dL_line_0 4 rfl ?_
  refine z_iconst hX dL_line_2 ci_0 ?_
  refine z_aload_n hX dL_line_3 0 rfl ?_
  refine z_iload_n hX dL_line_4 1 rfl ?_
  refine z_iload_n hX dL_line_5 2 rfl ?_
  refine z_iload_n hX dL_line_6 3 rfl ?_
  replace hf := zb3w_some hf
  rcases hf with ⟨c1, g1, h1, hf⟩ | ⟨r_1, g1, h1, hf⟩
  · by_cases h2 : c1 = 1
    · replace hf := zif_pos h2 hf
      subst h2
      refine z_callV_c hX ok_X11_line q1018 q1019 q1020 (zrm_ok hR (by decide)) (ct_X11_line h1) (zrec_Post hX zq_0) dL_line_7 rfl rfl ?_
      refine z_catch hX hTb [] [] rfl (fun z hz => absurd hz List.not_mem_nil) (by decide) (by decide) q968 qn984 (fun q9 => ?_)
      refine z_astore (lv' := [(5, .ref q9), (0, .ref (zB X + 0)), (1, .int v1), (2, .int v2), (3, .int v3), (4, .ref (zB X + 508))]) hX dL_line_15 hn (by decide) rfl ?_
      refine z_iconst hX dL_line_17 ci_1 ?_
      obtain rfl := Option.some.inj hf
      exact z_iret hX hr rfl (zl rfl) (zl rfl) dL_line_18
    · replace hf := zif_neg h2 hf
      exact zno hf
  refine z_callV1 hX ok_X11_line q1018 q1019 q1020 (zrm_ok hR (by decide)) (ct_X11_line h1) (zrec_Post hX zq_0) dL_line_7 rfl rfl ?_
  refine z_i2l hX dL_line_10 ?_
  replace hf := zchk_some hf
  obtain ⟨h3, hf⟩ := hf
  replace hf := zput_some hf
  obtain ⟨g4, eg4, hf⟩ := hf
  refine z_last hX zq_508 rfl h3 dL_line_11 (zW.eqg eg4 ?_)
  refine z_goto hX 19 dL_line_12 (by decide) ?_
  refine z_iconst hX dL_line_19 ci_0 ?_
  obtain rfl := Option.some.inj hf
  exact z_iret hX hr rfl (zl rfl) (zl rfl) dL_line_20
set_option maxHeartbeats 4000000 in
set_option maxRecDepth 100000 in
theorem ct_L_line {E : zE} {v1 : Int32} {v2 : Int32} {v3 : Int32} {g : zM} {r : Int32 × zM} (hf : fL_line v1 v2 v3 g = some r) : zCtW yL_line cL_line 6 (some .int) [(0, 12, 15, 24)] 3 2 E [.ref (E.1 + 0), .int v1, .int v2, .int v3, .ref (E.1 + 508)] g (some (.int r.1)) r.2 := by
  refine zmetW (by decide) (zl rfl) (fun X hE hX hTb hR hr hn => ?_)
  subst hE
  exact fL_line_ok hX hTb hR hr hn hf
def fL_words (v1 : Int32) (g : zM) : Option (Int32 × zM) := zb3w (fX11_words v1 g) (fun r_1 g1 => zchk 0 1 (zput g1 508 (0 : Int32).toNatClampNeg r_1 (fun g4 => some (0, g4)))) (fun c1 g1 => if c1 = 1 then some (1, g1) else none)
theorem okw_L_words : zOKW yL_words cL_words 4 (some .int) [(0, 9, 12, 24)] 3 := ⟨q1033, q114, by decide, by decide, by decide +kernel⟩
set_option maxHeartbeats 4000000 in
set_option maxRecDepth 100000 in
theorem fL_words_ok {X : zX} (hX : zCX X cL_words RL) (hTb : zTab X [(0, 9, 12, 24)]) (hR : X.2.2.2.1 = zrm 2 1) (hr : X.2.2.2.2.2.2.2.2.1.sig.returnType = (some .int)) (hn : X.2.2.2.2.2.2.2.2.2.1.maxLocals = 4) {v1 : Int32} {g : zM} {r : Int32 × zM} (hf : fL_words v1 g = some r) : zW X (zQ X (.inl (some (.int r.1), r.2)) 1) 0 0 0 [(0, .ref (zB X + 0)), (1, .int v1), (2, .ref (zB X + 508))] [] g := by
  unfold fL_words at hf
  refine z_aload_n hX dL_words_0 2 rfl ?_
  refine z_iconst hX dL_words_1 ci_0 ?_
  refine z_aload_n hX dL_words_2 0 rfl ?_
  refine z_iload_n hX dL_words_3 1 rfl ?_
  replace hf := zb3w_some hf
  rcases hf with ⟨c1, g1, h1, hf⟩ | ⟨r_1, g1, h1, hf⟩
  · by_cases h2 : c1 = 1
    · replace hf := zif_pos h2 hf
      subst h2
      refine z_callV_c hX ok_X11_words q1034 q1035 q1036 (zrm_ok hR (by decide)) (ct_X11_words h1) (zrec_Post hX zq_0) dL_words_4 rfl rfl ?_
      refine z_catch hX hTb [] [] rfl (fun z hz => absurd hz List.not_mem_nil) (by decide) (by decide) q968 qn984 (fun q9 => ?_)
      refine z_astore_n (lv' := [(3, .ref q9), (0, .ref (zB X + 0)), (1, .int v1), (2, .ref (zB X + 508))]) hX dL_words_12 hn (by decide) rfl ?_
      refine z_iconst hX dL_words_13 ci_1 ?_
      obtain rfl := Option.some.inj hf
      exact z_iret hX hr rfl (zl rfl) (zl rfl) dL_words_14
    · replace hf := zif_neg h2 hf
      exact zno hf
  refine z_callV1 hX ok_X11_words q1034 q1035 q1036 (zrm_ok hR (by decide)) (ct_X11_words h1) (zrec_Post hX zq_0) dL_words_4 rfl rfl ?_
  refine z_i2l hX dL_words_7 ?_
  replace hf := zchk_some hf
  obtain ⟨h3, hf⟩ := hf
  replace hf := zput_some hf
  obtain ⟨g4, eg4, hf⟩ := hf
  refine z_last hX zq_508 rfl h3 dL_words_8 (zW.eqg eg4 ?_)
  refine z_goto hX 15 dL_words_9 (by decide) ?_
  refine z_iconst hX dL_words_15 ci_0 ?_
  obtain rfl := Option.some.inj hf
  exact z_iret hX hr rfl (zl rfl) (zl rfl) dL_words_16
set_option maxHeartbeats 4000000 in
set_option maxRecDepth 100000 in
theorem ct_L_words {E : zE} {v1 : Int32} {g : zM} {r : Int32 × zM} (hf : fL_words v1 g = some r) : zCtW yL_words cL_words 4 (some .int) [(0, 9, 12, 24)] 2 1 E [.ref (E.1 + 0), .int v1, .ref (E.1 + 508)] g (some (.int r.1)) r.2 := by
  refine zmetW (by decide) (zl rfl) (fun X hE hX hTb hR hr hn => ?_)
  subst hE
  exact fL_words_ok hX hTb hR hr hn hf
def fL_promise (v1 : Int32) (v2 : Int32) (g : zM) : Option (Int32 × zM) := zb3w (fX11_promise v1 v2 g) (fun r_1 g1 => zchk 0 1 (zput g1 508 (0 : Int32).toNatClampNeg r_1 (fun g4 => some (0, g4)))) (fun c1 g1 => if c1 = 1 then some (1, g1) else none)
theorem okw_L_promise : zOKW yL_promise cL_promise 5 (some .int) [(0, 10, 13, 24)] 4 := ⟨q1045, q114, by decide, by decide, by decide +kernel⟩
set_option maxHeartbeats 4000000 in
set_option maxRecDepth 100000 in
theorem fL_promise_ok {X : zX} (hX : zCX X cL_promise RL) (hTb : zTab X [(0, 10, 13, 24)]) (hR : X.2.2.2.1 = zrm 2 1) (hr : X.2.2.2.2.2.2.2.2.1.sig.returnType = (some .int)) (hn : X.2.2.2.2.2.2.2.2.2.1.maxLocals = 5) {v1 : Int32} {v2 : Int32} {g : zM} {r : Int32 × zM} (hf : fL_promise v1 v2 g = some r) : zW X (zQ X (.inl (some (.int r.1), r.2)) 1) 0 0 0 [(0, .ref (zB X + 0)), (1, .int v1), (2, .int v2), (3, .ref (zB X + 508))] [] g := by
  unfold fL_promise at hf
  refine z_aload_n hX dL_promise_0 3 rfl ?_
  refine z_iconst hX dL_promise_1 ci_0 ?_
  refine z_aload_n hX dL_promise_2 0 rfl ?_
  refine z_iload_n hX dL_promise_3 1 rfl ?_
  refine z_iload_n hX dL_promise_4 2 rfl ?_
  replace hf := zb3w_some hf
  rcases hf with ⟨c1, g1, h1, hf⟩ | ⟨r_1, g1, h1, hf⟩
  · by_cases h2 : c1 = 1
    · replace hf := zif_pos h2 hf
      subst h2
      refine z_callV_c hX ok_X11_promise q1046 q1047 q1048 (zrm_ok hR (by decide)) (ct_X11_promise h1) (zrec_Post hX zq_0) dL_promise_5 rfl rfl ?_
      refine z_catch hX hTb [] [] rfl (fun z hz => absurd hz List.not_mem_nil) (by decide) (by decide) q968 qn984 (fun q9 => ?_)
      refine z_astore (lv' := [(4, .ref q9), (0, .ref (zB X + 0)), (1, .int v1), (2, .int v2), (3, .ref (zB X + 508))]) hX dL_promise_13 hn (by decide) rfl ?_
      refine z_iconst hX dL_promise_15 ci_1 ?_
      obtain rfl := Option.some.inj hf
      exact z_iret hX hr rfl (zl rfl) (zl rfl) dL_promise_16
    · replace hf := zif_neg h2 hf
      exact zno hf
  refine z_callV1 hX ok_X11_promise q1046 q1047 q1048 (zrm_ok hR (by decide)) (ct_X11_promise h1) (zrec_Post hX zq_0) dL_promise_5 rfl rfl ?_
  refine z_i2l hX dL_promise_8 ?_
  replace hf := zchk_some hf
  obtain ⟨h3, hf⟩ := hf
  replace hf := zput_some hf
  obtain ⟨g4, eg4, hf⟩ := hf
  refine z_last hX zq_508 rfl h3 dL_promise_9 (zW.eqg eg4 ?_)
  refine z_goto hX 17 dL_promise_10 (by decide) ?_
  refine z_iconst hX dL_promise_17 ci_0 ?_
  obtain rfl := Option.some.inj hf
  exact z_iret hX hr rfl (zl rfl) (zl rfl) dL_promise_18
set_option maxHeartbeats 4000000 in
set_option maxRecDepth 100000 in
theorem ct_L_promise {E : zE} {v1 : Int32} {v2 : Int32} {g : zM} {r : Int32 × zM} (hf : fL_promise v1 v2 g = some r) : zCtW yL_promise cL_promise 5 (some .int) [(0, 10, 13, 24)] 2 1 E [.ref (E.1 + 0), .int v1, .int v2, .ref (E.1 + 508)] g (some (.int r.1)) r.2 := by
  refine zmetW (by decide) (zl rfl) (fun X hE hX hTb hR hr hn => ?_)
  subst hE
  exact fL_promise_ok hX hTb hR hr hn hf
def fL_season (v1 : Int32) (g : zM) : Option (Int32 × zM) := zb3w (fX11_season v1 g) (fun r_1 g1 => zchk 0 1 (zput g1 508 (0 : Int32).toNatClampNeg r_1 (fun g4 => some (0, g4)))) (fun c1 g1 => if c1 = 2 then some (1, g1) else none)
theorem okw_L_season : zOKW yL_season cL_season 4 (some .int) [(0, 9, 12, 13)] 3 := ⟨q1061, q114, by decide, by decide, by decide +kernel⟩
set_option maxHeartbeats 4000000 in
set_option maxRecDepth 100000 in
theorem fL_season_ok {X : zX} (hX : zCX X cL_season RL) (hTb : zTab X [(0, 9, 12, 13)]) (hR : X.2.2.2.1 = zrm 2 1) (hr : X.2.2.2.2.2.2.2.2.1.sig.returnType = (some .int)) (hn : X.2.2.2.2.2.2.2.2.2.1.maxLocals = 4) {v1 : Int32} {g : zM} {r : Int32 × zM} (hf : fL_season v1 g = some r) : zW X (zQ X (.inl (some (.int r.1), r.2)) 1) 0 0 0 [(0, .ref (zB X + 0)), (1, .int v1), (2, .ref (zB X + 508))] [] g := by
  unfold fL_season at hf
  refine z_aload_n hX dL_season_0 2 rfl ?_
  refine z_iconst hX dL_season_1 ci_0 ?_
  refine z_aload_n hX dL_season_2 0 rfl ?_
  refine z_iload_n hX dL_season_3 1 rfl ?_
  replace hf := zb3w_some hf
  rcases hf with ⟨c1, g1, h1, hf⟩ | ⟨r_1, g1, h1, hf⟩
  · by_cases h2 : c1 = 2
    · replace hf := zif_pos h2 hf
      subst h2
      refine z_callV_c hX ok_X11_season q1062 q1063 q1064 (zrm_ok hR (by decide)) (ct_X11_season h1) (zrec_Post hX zq_0) dL_season_4 rfl rfl ?_
      refine z_catch hX hTb [] [] rfl (fun z hz => absurd hz List.not_mem_nil) (by decide) (by decide) q647 qn865 (fun q9 => ?_)
      refine z_astore_n (lv' := [(3, .ref q9), (0, .ref (zB X + 0)), (1, .int v1), (2, .ref (zB X + 508))]) hX dL_season_12 hn (by decide) rfl ?_
      refine z_iconst hX dL_season_13 ci_1 ?_
      obtain rfl := Option.some.inj hf
      exact z_iret hX hr rfl (zl rfl) (zl rfl) dL_season_14
    · replace hf := zif_neg h2 hf
      exact zno hf
  refine z_callV1 hX ok_X11_season q1062 q1063 q1064 (zrm_ok hR (by decide)) (ct_X11_season h1) (zrec_Post hX zq_0) dL_season_4 rfl rfl ?_
  refine z_i2l hX dL_season_7 ?_
  replace hf := zchk_some hf
  obtain ⟨h3, hf⟩ := hf
  replace hf := zput_some hf
  obtain ⟨g4, eg4, hf⟩ := hf
  refine z_last hX zq_508 rfl h3 dL_season_8 (zW.eqg eg4 ?_)
  refine z_goto hX 15 dL_season_9 (by decide) ?_
  refine z_iconst hX dL_season_15 ci_0 ?_
  obtain rfl := Option.some.inj hf
  exact z_iret hX hr rfl (zl rfl) (zl rfl) dL_season_16
set_option maxHeartbeats 4000000 in
set_option maxRecDepth 100000 in
theorem ct_L_season {E : zE} {v1 : Int32} {g : zM} {r : Int32 × zM} (hf : fL_season v1 g = some r) : zCtW yL_season cL_season 4 (some .int) [(0, 9, 12, 13)] 2 1 E [.ref (E.1 + 0), .int v1, .ref (E.1 + 508)] g (some (.int r.1)) r.2 := by
  refine zmetW (by decide) (zl rfl) (fun X hE hX hTb hR hr hn => ?_)
  subst hE
  exact fL_season_ok hX hTb hR hr hn hf
def fL_write (v1 : Int32) (v2 : Int32) (g : zM) : Option (Int32 × zM) := zb3w (fX11_write v1 v2 g) (fun r_1 g1 => zchk 0 1 (zput g1 508 (0 : Int32).toNatClampNeg r_1 (fun g5 => some (0, g5)))) (fun c1 g1 => if c1 = 2 then some (1, g1) else if c1 = 4 then some (2, g1) else none)
theorem okw_L_write : zOKW yL_write cL_write 5 (some .int) [(0, 10, 13, 13), (0, 10, 17, 15)] 4 := ⟨q1070, q114, by decide, by decide, by decide +kernel⟩
set_option maxHeartbeats 4000000 in
set_option maxRecDepth 100000 in
theorem fL_write_ok {X : zX} (hX : zCX X cL_write RL) (hTb : zTab X [(0, 10, 13, 13), (0, 10, 17, 15)]) (hR : X.2.2.2.1 = zrm 9 2) (hr : X.2.2.2.2.2.2.2.2.1.sig.returnType = (some .int)) (hn : X.2.2.2.2.2.2.2.2.2.1.maxLocals = 5) {v1 : Int32} {v2 : Int32} {g : zM} {r : Int32 × zM} (hf : fL_write v1 v2 g = some r) : zW X (zQ X (.inl (some (.int r.1), r.2)) 2) 0 0 0 [(0, .ref (zB X + 0)), (1, .int v1), (2, .int v2), (3, .ref (zB X + 508))] [] g := by
  unfold fL_write at hf
  refine z_aload_n hX dL_write_0 3 rfl ?_
  refine z_iconst hX dL_write_1 ci_0 ?_
  refine z_aload_n hX dL_write_2 0 rfl ?_
  refine z_iload_n hX dL_write_3 1 rfl ?_
  refine z_iload_n hX dL_write_4 2 rfl ?_
  replace hf := zb3w_some hf
  rcases hf with ⟨c1, g1, h1, hf⟩ | ⟨r_1, g1, h1, hf⟩
  · by_cases h2 : c1 = 2
    · replace hf := zif_pos h2 hf
      subst h2
      refine z_callV_c hX ok_X11_write q1071 q1072 q1073 (zrm_ok hR (by decide)) (ct_X11_write h1) (zrec_Post hX zq_0) dL_write_5 rfl rfl ?_
      refine z_catch hX hTb [] [(0, 10, 17, 15)] rfl (fun z hz => absurd hz List.not_mem_nil) (by decide) (by decide) q647 qn865 (fun q9 => ?_)
      refine z_astore (lv' := [(4, .ref q9), (0, .ref (zB X + 0)), (1, .int v1), (2, .int v2), (3, .ref (zB X + 508))]) hX dL_write_13 hn (by decide) rfl ?_
      refine z_iconst hX dL_write_15 ci_1 ?_
      obtain rfl := Option.some.inj hf
      exact z_iret hX hr rfl (zl rfl) (zl rfl) dL_write_16
    · replace hf := zif_neg h2 hf
      by_cases h3 : c1 = 4
      · replace hf := zif_pos h3 hf
        subst h3
        refine z_callV_c hX ok_X11_write q1071 q1072 q1073 (zrm_ok hR (by decide)) (ct_X11_write h1) (zrec_Post hX zq_0) dL_write_5 rfl rfl ?_
        refine z_catch hX hTb [(0, 10, 13, 13)] [] rfl (zpass1 ⟨by decide, _, q647, by decide⟩) (by decide) (by decide) q648 qn935 (fun q9 => ?_)
        refine z_astore (lv' := [(4, .ref q9), (0, .ref (zB X + 0)), (1, .int v1), (2, .int v2), (3, .ref (zB X + 508))]) hX dL_write_17 hn (by decide) rfl ?_
        refine z_iconst hX dL_write_19 ci_2 ?_
        obtain rfl := Option.some.inj hf
        exact z_iret hX hr rfl (zl rfl) (zl rfl) dL_write_20
      · replace hf := zif_neg h3 hf
        exact zno hf
  refine z_callV1 hX ok_X11_write q1071 q1072 q1073 (zrm_ok hR (by decide)) (ct_X11_write h1) (zrec_Post hX zq_0) dL_write_5 rfl rfl ?_
  refine z_i2l hX dL_write_8 ?_
  replace hf := zchk_some hf
  obtain ⟨h4, hf⟩ := hf
  replace hf := zput_some hf
  obtain ⟨g5, eg5, hf⟩ := hf
  refine z_last hX zq_508 rfl h4 dL_write_9 (zW.eqg eg5 ?_)
  refine z_goto hX 21 dL_write_10 (by decide) ?_
  refine z_iconst hX dL_write_21 ci_0 ?_
  obtain rfl := Option.some.inj hf
  exact z_iret hX hr rfl (zl rfl) (zl rfl) dL_write_22
set_option maxHeartbeats 4000000 in
set_option maxRecDepth 100000 in
theorem ct_L_write {E : zE} {v1 : Int32} {v2 : Int32} {g : zM} {r : Int32 × zM} (hf : fL_write v1 v2 g = some r) : zCtW yL_write cL_write 5 (some .int) [(0, 10, 13, 13), (0, 10, 17, 15)] 9 2 E [.ref (E.1 + 0), .int v1, .int v2, .ref (E.1 + 508)] g (some (.int r.1)) r.2 := by
  refine zmetW (by decide) (zl rfl) (fun X hE hX hTb hR hr hn => ?_)
  subst hE
  exact fL_write_ok hX hTb hR hr hn hf
def fL_open (v1 : Int32) (v2 : Int32) (g : zM) : Option (Int32 × zM) := zb3w (fX11_open v1 v2 g) (fun r_1 g1 => if r_1 = 0 then zchk 0 1 (zput g1 508 (0 : Int32).toNatClampNeg 0 (fun g5 => some (0, g5))) else zchk 0 1 (zput g1 508 (0 : Int32).toNatClampNeg 1 (fun g7 => some (0, g7)))) (fun c1 g1 => if c1 = 1 then some (1, g1) else none)
theorem okw_L_open : zOKW yL_open cL_open 5 (some .int) [(0, 17, 20, 24)] 4 := ⟨q1093, q114, by decide, by decide, by decide +kernel⟩
set_option maxHeartbeats 4000000 in
set_option maxRecDepth 100000 in
theorem fL_open_ok {X : zX} (hX : zCX X cL_open RL) (hTb : zTab X [(0, 17, 20, 24)]) (hR : X.2.2.2.1 = zrm 9 1) (hr : X.2.2.2.2.2.2.2.2.1.sig.returnType = (some .int)) (hn : X.2.2.2.2.2.2.2.2.2.1.maxLocals = 5) {v1 : Int32} {v2 : Int32} {g : zM} {r : Int32 × zM} (hf : fL_open v1 v2 g = some r) : zW X (zQ X (.inl (some (.int r.1), r.2)) 1) 0 0 0 [(0, .ref (zB X + 0)), (1, .int v1), (2, .int v2), (3, .ref (zB X + 508))] [] g := by
  unfold fL_open at hf
  refine z_aload_n hX dL_open_0 3 rfl ?_
  refine z_iconst hX dL_open_1 ci_0 ?_
  refine z_aload_n hX dL_open_2 0 rfl ?_
  refine z_iload_n hX dL_open_3 1 rfl ?_
  refine z_iload_n hX dL_open_4 2 rfl ?_
  replace hf := zb3w_some hf
  rcases hf with ⟨c1, g1, h1, hf⟩ | ⟨r_1, g1, h1, hf⟩
  · by_cases h2 : c1 = 1
    · replace hf := zif_pos h2 hf
      subst h2
      refine z_callV_c hX ok_X11_open q1094 q1095 q1096 (zrm_ok hR (by decide)) (ct_X11_open h1) (zrec_Post hX zq_0) dL_open_5 rfl rfl ?_
      refine z_catch hX hTb [] [] rfl (fun z hz => absurd hz List.not_mem_nil) (by decide) (by decide) q968 qn984 (fun q9 => ?_)
      refine z_astore (lv' := [(4, .ref q9), (0, .ref (zB X + 0)), (1, .int v1), (2, .int v2), (3, .ref (zB X + 508))]) hX dL_open_20 hn (by decide) rfl ?_
      refine z_iconst hX dL_open_22 ci_1 ?_
      obtain rfl := Option.some.inj hf
      exact z_iret hX hr rfl (zl rfl) (zl rfl) dL_open_23
    · replace hf := zif_neg h2 hf
      exact zno hf
  refine z_callV1 hX ok_X11_open q1094 q1095 q1096 (zrm_ok hR (by decide)) (ct_X11_open h1) (zrec_Post hX zq_0) dL_open_5 rfl rfl ?_
  refine z_if_eq hX 15 dL_open_8 (by decide) (fun h3 => ?_) (fun h3 => ?_)
  · replace hf := zif_pos h3 hf
    refine z_lconst hX dL_open_15 (by decide : Int64.ofNat _ = (0 : Int32).toInt64) ?_
    replace hf := zchk_some hf
    obtain ⟨h4, hf⟩ := hf
    replace hf := zput_some hf
    obtain ⟨g5, eg5, hf⟩ := hf
    refine z_last hX zq_508 rfl h4 dL_open_16 (zW.eqg eg5 ?_)
    refine z_goto hX 24 dL_open_17 (by decide) ?_
    refine z_iconst hX dL_open_24 ci_0 ?_
    obtain rfl := Option.some.inj hf
    exact z_iret hX hr rfl (zl rfl) (zl rfl) dL_open_25
  · replace hf := zif_neg h3 hf
    refine z_lconst hX dL_open_11 (by decide : Int64.ofNat _ = (1 : Int32).toInt64) ?_
    refine z_goto hX 16 dL_open_12 (by decide) ?_
    replace hf := zchk_some hf
    obtain ⟨h6, hf⟩ := hf
    replace hf := zput_some hf
    obtain ⟨g7, eg7, hf⟩ := hf
    refine z_last hX zq_508 rfl h6 dL_open_16 (zW.eqg eg7 ?_)
    refine z_goto hX 24 dL_open_17 (by decide) ?_
    refine z_iconst hX dL_open_24 ci_0 ?_
    obtain rfl := Option.some.inj hf
    exact z_iret hX hr rfl (zl rfl) (zl rfl) dL_open_25
set_option maxHeartbeats 4000000 in
set_option maxRecDepth 100000 in
theorem ct_L_open {E : zE} {v1 : Int32} {v2 : Int32} {g : zM} {r : Int32 × zM} (hf : fL_open v1 v2 g = some r) : zCtW yL_open cL_open 5 (some .int) [(0, 17, 20, 24)] 9 1 E [.ref (E.1 + 0), .int v1, .int v2, .ref (E.1 + 508)] g (some (.int r.1)) r.2 := by
  refine zmetW (by decide) (zl rfl) (fun X hE hX hTb hR hr hn => ?_)
  subst hE
  exact fL_open_ok hX hTb hR hr hn hf
def fL_copy (v1 : Int32) (g : zM) : Option (Int32 × zM) := zb3w (fX11_copy v1 g) (fun r_1 g1 => zchk 0 1 (zput g1 508 (0 : Int32).toNatClampNeg r_1 (fun g5 => some (0, g5)))) (fun c1 g1 => if c1 = 1 then some (1, g1) else if c1 = 4 then some (2, g1) else none)
theorem okw_L_copy : zOKW yL_copy cL_copy 4 (some .int) [(0, 9, 12, 24), (0, 9, 15, 15)] 3 := ⟨q1100, q114, by decide, by decide, by decide +kernel⟩
set_option maxHeartbeats 4000000 in
set_option maxRecDepth 100000 in
theorem fL_copy_ok {X : zX} (hX : zCX X cL_copy RL) (hTb : zTab X [(0, 9, 12, 24), (0, 9, 15, 15)]) (hR : X.2.2.2.1 = zrm 9 2) (hr : X.2.2.2.2.2.2.2.2.1.sig.returnType = (some .int)) (hn : X.2.2.2.2.2.2.2.2.2.1.maxLocals = 4) {v1 : Int32} {g : zM} {r : Int32 × zM} (hf : fL_copy v1 g = some r) : zW X (zQ X (.inl (some (.int r.1), r.2)) 2) 0 0 0 [(0, .ref (zB X + 0)), (1, .int v1), (2, .ref (zB X + 508))] [] g := by
  unfold fL_copy at hf
  refine z_aload_n hX dL_copy_0 2 rfl ?_
  refine z_iconst hX dL_copy_1 ci_0 ?_
  refine z_aload_n hX dL_copy_2 0 rfl ?_
  refine z_iload_n hX dL_copy_3 1 rfl ?_
  replace hf := zb3w_some hf
  rcases hf with ⟨c1, g1, h1, hf⟩ | ⟨r_1, g1, h1, hf⟩
  · by_cases h2 : c1 = 1
    · replace hf := zif_pos h2 hf
      subst h2
      refine z_callV_c hX ok_X11_copy q1101 q1102 q1103 (zrm_ok hR (by decide)) (ct_X11_copy h1) (zrec_Post hX zq_0) dL_copy_4 rfl rfl ?_
      refine z_catch hX hTb [] [(0, 9, 15, 15)] rfl (fun z hz => absurd hz List.not_mem_nil) (by decide) (by decide) q968 qn984 (fun q9 => ?_)
      refine z_astore_n (lv' := [(3, .ref q9), (0, .ref (zB X + 0)), (1, .int v1), (2, .ref (zB X + 508))]) hX dL_copy_12 hn (by decide) rfl ?_
      refine z_iconst hX dL_copy_13 ci_1 ?_
      obtain rfl := Option.some.inj hf
      exact z_iret hX hr rfl (zl rfl) (zl rfl) dL_copy_14
    · replace hf := zif_neg h2 hf
      by_cases h3 : c1 = 4
      · replace hf := zif_pos h3 hf
        subst h3
        refine z_callV_c hX ok_X11_copy q1101 q1102 q1103 (zrm_ok hR (by decide)) (ct_X11_copy h1) (zrec_Post hX zq_0) dL_copy_4 rfl rfl ?_
        refine z_catch hX hTb [(0, 9, 12, 24)] [] rfl (zpass1 ⟨by decide, _, q968, by decide⟩) (by decide) (by decide) q648 qn935 (fun q9 => ?_)
        refine z_astore_n (lv' := [(3, .ref q9), (0, .ref (zB X + 0)), (1, .int v1), (2, .ref (zB X + 508))]) hX dL_copy_15 hn (by decide) rfl ?_
        refine z_iconst hX dL_copy_16 ci_2 ?_
        obtain rfl := Option.some.inj hf
        exact z_iret hX hr rfl (zl rfl) (zl rfl) dL_copy_17
      · replace hf := zif_neg h3 hf
        exact zno hf
  refine z_callV1 hX ok_X11_copy q1101 q1102 q1103 (zrm_ok hR (by decide)) (ct_X11_copy h1) (zrec_Post hX zq_0) dL_copy_4 rfl rfl ?_
  refine z_i2l hX dL_copy_7 ?_
  replace hf := zchk_some hf
  obtain ⟨h4, hf⟩ := hf
  replace hf := zput_some hf
  obtain ⟨g5, eg5, hf⟩ := hf
  refine z_last hX zq_508 rfl h4 dL_copy_8 (zW.eqg eg5 ?_)
  refine z_goto hX 18 dL_copy_9 (by decide) ?_
  refine z_iconst hX dL_copy_18 ci_0 ?_
  obtain rfl := Option.some.inj hf
  exact z_iret hX hr rfl (zl rfl) (zl rfl) dL_copy_19
set_option maxHeartbeats 4000000 in
set_option maxRecDepth 100000 in
theorem ct_L_copy {E : zE} {v1 : Int32} {g : zM} {r : Int32 × zM} (hf : fL_copy v1 g = some r) : zCtW yL_copy cL_copy 4 (some .int) [(0, 9, 12, 24), (0, 9, 15, 15)] 9 2 E [.ref (E.1 + 0), .int v1, .ref (E.1 + 508)] g (some (.int r.1)) r.2 := by
  refine zmetW (by decide) (zl rfl) (fun X hE hX hTb hR hr hn => ?_)
  subst hE
  exact fL_copy_ok hX hTb hR hr hn hf
def fL_prune (v1 : Int32) (v2 : Int32) (g : zM) : Option (Int32 × zM) := zb3w (fX11_prune v1 v2 g) (fun r_1 g1 => zchk 0 1 (zput g1 508 (0 : Int32).toNatClampNeg r_1 (fun g5 => some (0, g5)))) (fun c1 g1 => if c1 = 1 then some (1, g1) else if c1 = 2 then some (2, g1) else none)
theorem okw_L_prune : zOKW yL_prune cL_prune 5 (some .int) [(0, 10, 13, 24), (0, 10, 17, 13)] 4 := ⟨q1108, q114, by decide, by decide, by decide +kernel⟩
set_option maxHeartbeats 4000000 in
set_option maxRecDepth 100000 in
theorem fL_prune_ok {X : zX} (hX : zCX X cL_prune RL) (hTb : zTab X [(0, 10, 13, 24), (0, 10, 17, 13)]) (hR : X.2.2.2.1 = zrm 9 2) (hr : X.2.2.2.2.2.2.2.2.1.sig.returnType = (some .int)) (hn : X.2.2.2.2.2.2.2.2.2.1.maxLocals = 5) {v1 : Int32} {v2 : Int32} {g : zM} {r : Int32 × zM} (hf : fL_prune v1 v2 g = some r) : zW X (zQ X (.inl (some (.int r.1), r.2)) 2) 0 0 0 [(0, .ref (zB X + 0)), (1, .int v1), (2, .int v2), (3, .ref (zB X + 508))] [] g := by
  unfold fL_prune at hf
  refine z_aload_n hX dL_prune_0 3 rfl ?_
  refine z_iconst hX dL_prune_1 ci_0 ?_
  refine z_aload_n hX dL_prune_2 0 rfl ?_
  refine z_iload_n hX dL_prune_3 1 rfl ?_
  refine z_iload_n hX dL_prune_4 2 rfl ?_
  replace hf := zb3w_some hf
  rcases hf with ⟨c1, g1, h1, hf⟩ | ⟨r_1, g1, h1, hf⟩
  · by_cases h2 : c1 = 1
    · replace hf := zif_pos h2 hf
      subst h2
      refine z_callV_c hX ok_X11_prune q1109 q1110 q1111 (zrm_ok hR (by decide)) (ct_X11_prune h1) (zrec_Post hX zq_0) dL_prune_5 rfl rfl ?_
      refine z_catch hX hTb [] [(0, 10, 17, 13)] rfl (fun z hz => absurd hz List.not_mem_nil) (by decide) (by decide) q968 qn984 (fun q9 => ?_)
      refine z_astore (lv' := [(4, .ref q9), (0, .ref (zB X + 0)), (1, .int v1), (2, .int v2), (3, .ref (zB X + 508))]) hX dL_prune_13 hn (by decide) rfl ?_
      refine z_iconst hX dL_prune_15 ci_1 ?_
      obtain rfl := Option.some.inj hf
      exact z_iret hX hr rfl (zl rfl) (zl rfl) dL_prune_16
    · replace hf := zif_neg h2 hf
      by_cases h3 : c1 = 2
      · replace hf := zif_pos h3 hf
        subst h3
        refine z_callV_c hX ok_X11_prune q1109 q1110 q1111 (zrm_ok hR (by decide)) (ct_X11_prune h1) (zrec_Post hX zq_0) dL_prune_5 rfl rfl ?_
        refine z_catch hX hTb [(0, 10, 13, 24)] [] rfl (zpass1 ⟨by decide, _, q968, by decide⟩) (by decide) (by decide) q647 qn865 (fun q9 => ?_)
        refine z_astore (lv' := [(4, .ref q9), (0, .ref (zB X + 0)), (1, .int v1), (2, .int v2), (3, .ref (zB X + 508))]) hX dL_prune_17 hn (by decide) rfl ?_
        refine z_iconst hX dL_prune_19 ci_2 ?_
        obtain rfl := Option.some.inj hf
        exact z_iret hX hr rfl (zl rfl) (zl rfl) dL_prune_20
      · replace hf := zif_neg h3 hf
        exact zno hf
  refine z_callV1 hX ok_X11_prune q1109 q1110 q1111 (zrm_ok hR (by decide)) (ct_X11_prune h1) (zrec_Post hX zq_0) dL_prune_5 rfl rfl ?_
  refine z_i2l hX dL_prune_8 ?_
  replace hf := zchk_some hf
  obtain ⟨h4, hf⟩ := hf
  replace hf := zput_some hf
  obtain ⟨g5, eg5, hf⟩ := hf
  refine z_last hX zq_508 rfl h4 dL_prune_9 (zW.eqg eg5 ?_)
  refine z_goto hX 21 dL_prune_10 (by decide) ?_
  refine z_iconst hX dL_prune_21 ci_0 ?_
  obtain rfl := Option.some.inj hf
  exact z_iret hX hr rfl (zl rfl) (zl rfl) dL_prune_22
set_option maxHeartbeats 4000000 in
set_option maxRecDepth 100000 in
theorem ct_L_prune {E : zE} {v1 : Int32} {v2 : Int32} {g : zM} {r : Int32 × zM} (hf : fL_prune v1 v2 g = some r) : zCtW yL_prune cL_prune 5 (some .int) [(0, 10, 13, 24), (0, 10, 17, 13)] 9 2 E [.ref (E.1 + 0), .int v1, .int v2, .ref (E.1 + 508)] g (some (.int r.1)) r.2 := by
  refine zmetW (by decide) (zl rfl) (fun X hE hX hTb hR hr hn => ?_)
  subst hE
  exact fL_prune_ok hX hTb hR hr hn hf
def fL_cut (v1 : Int32) (v2 : Int32) (g : zM) : Option (Int32 × zM) := zb3w (fX11_cut v1 v2 g) (fun r_1 g1 => zchk 0 1 (zput g1 508 (0 : Int32).toNatClampNeg r_1 (fun g5 => some (0, g5)))) (fun c1 g1 => if c1 = 1 then some (1, g1) else if c1 = 3 then some (2, g1) else none)
theorem okw_L_cut : zOKW yL_cut cL_cut 5 (some .int) [(0, 10, 13, 24), (0, 10, 17, 59)] 4 := ⟨q1120, q114, by decide, by decide, by decide +kernel⟩
set_option maxHeartbeats 4000000 in
set_option maxRecDepth 100000 in
theorem fL_cut_ok {X : zX} (hX : zCX X cL_cut RL) (hTb : zTab X [(0, 10, 13, 24), (0, 10, 17, 59)]) (hR : X.2.2.2.1 = zrm 9 3) (hr : X.2.2.2.2.2.2.2.2.1.sig.returnType = (some .int)) (hn : X.2.2.2.2.2.2.2.2.2.1.maxLocals = 5) {v1 : Int32} {v2 : Int32} {g : zM} {r : Int32 × zM} (hf : fL_cut v1 v2 g = some r) : zW X (zQ X (.inl (some (.int r.1), r.2)) 3) 0 0 0 [(0, .ref (zB X + 0)), (1, .int v1), (2, .int v2), (3, .ref (zB X + 508))] [] g := by
  unfold fL_cut at hf
  refine z_aload_n hX dL_cut_0 3 rfl ?_
  refine z_iconst hX dL_cut_1 ci_0 ?_
  refine z_aload_n hX dL_cut_2 0 rfl ?_
  refine z_iload_n hX dL_cut_3 1 rfl ?_
  refine z_iload_n hX dL_cut_4 2 rfl ?_
  replace hf := zb3w_some hf
  rcases hf with ⟨c1, g1, h1, hf⟩ | ⟨r_1, g1, h1, hf⟩
  · by_cases h2 : c1 = 1
    · replace hf := zif_pos h2 hf
      subst h2
      refine z_callV_c hX ok_X11_cut q1122 q1123 q1124 (zrm_ok hR (by decide)) (ct_X11_cut h1) (zrec_Post hX zq_0) dL_cut_5 rfl rfl ?_
      refine z_catch hX hTb [] [(0, 10, 17, 59)] rfl (fun z hz => absurd hz List.not_mem_nil) (by decide) (by decide) q968 qn984 (fun q9 => ?_)
      refine z_astore (lv' := [(4, .ref q9), (0, .ref (zB X + 0)), (1, .int v1), (2, .int v2), (3, .ref (zB X + 508))]) hX dL_cut_13 hn (by decide) rfl ?_
      refine z_iconst hX dL_cut_15 ci_1 ?_
      obtain rfl := Option.some.inj hf
      exact z_iret hX hr rfl (zl rfl) (zl rfl) dL_cut_16
    · replace hf := zif_neg h2 hf
      by_cases h3 : c1 = 3
      · replace hf := zif_pos h3 hf
        subst h3
        refine z_callV_c hX ok_X11_cut q1122 q1123 q1124 (zrm_ok hR (by decide)) (ct_X11_cut h1) (zrec_Post hX zq_0) dL_cut_5 rfl rfl ?_
        refine z_catch hX hTb [(0, 10, 13, 24)] [] rfl (zpass1 ⟨by decide, _, q968, by decide⟩) (by decide) (by decide) q1121 qn1128 (fun q9 => ?_)
        refine z_astore (lv' := [(4, .ref q9), (0, .ref (zB X + 0)), (1, .int v1), (2, .int v2), (3, .ref (zB X + 508))]) hX dL_cut_17 hn (by decide) rfl ?_
        refine z_iconst hX dL_cut_19 ci_2 ?_
        obtain rfl := Option.some.inj hf
        exact z_iret hX hr rfl (zl rfl) (zl rfl) dL_cut_20
      · replace hf := zif_neg h3 hf
        exact zno hf
  refine z_callV1 hX ok_X11_cut q1122 q1123 q1124 (zrm_ok hR (by decide)) (ct_X11_cut h1) (zrec_Post hX zq_0) dL_cut_5 rfl rfl ?_
  refine z_i2l hX dL_cut_8 ?_
  replace hf := zchk_some hf
  obtain ⟨h4, hf⟩ := hf
  replace hf := zput_some hf
  obtain ⟨g5, eg5, hf⟩ := hf
  refine z_last hX zq_508 rfl h4 dL_cut_9 (zW.eqg eg5 ?_)
  refine z_goto hX 21 dL_cut_10 (by decide) ?_
  refine z_iconst hX dL_cut_21 ci_0 ?_
  obtain rfl := Option.some.inj hf
  exact z_iret hX hr rfl (zl rfl) (zl rfl) dL_cut_22
set_option maxHeartbeats 4000000 in
set_option maxRecDepth 100000 in
theorem ct_L_cut {E : zE} {v1 : Int32} {v2 : Int32} {g : zM} {r : Int32 × zM} (hf : fL_cut v1 v2 g = some r) : zCtW yL_cut cL_cut 5 (some .int) [(0, 10, 13, 24), (0, 10, 17, 59)] 9 3 E [.ref (E.1 + 0), .int v1, .int v2, .ref (E.1 + 508)] g (some (.int r.1)) r.2 := by
  refine zmetW (by decide) (zl rfl) (fun X hE hX hTb hR hr hn => ?_)
  subst hE
  exact fL_cut_ok hX hTb hR hr hn hf
def fL_heat (v1 : Int32) (v2 : Int32) (g : zM) : Option (Int32 × zM) := zb3w (fX11_heat v1 v2 g) (fun r_1 g1 => if r_1 = 0 then zchk 0 1 (zput g1 508 (0 : Int32).toNatClampNeg 0 (fun g5 => some (0, g5))) else zchk 0 1 (zput g1 508 (0 : Int32).toNatClampNeg 1 (fun g7 => some (0, g7)))) (fun c1 g1 => if c1 = 1 then some (1, g1) else none)
theorem okw_L_heat : zOKW yL_heat cL_heat 5 (some .int) [(0, 17, 20, 24)] 4 := ⟨q1148, q114, by decide, by decide, by decide +kernel⟩
set_option maxHeartbeats 4000000 in
set_option maxRecDepth 100000 in
theorem fL_heat_ok {X : zX} (hX : zCX X cL_heat RL) (hTb : zTab X [(0, 17, 20, 24)]) (hR : X.2.2.2.1 = zrm 9 1) (hr : X.2.2.2.2.2.2.2.2.1.sig.returnType = (some .int)) (hn : X.2.2.2.2.2.2.2.2.2.1.maxLocals = 5) {v1 : Int32} {v2 : Int32} {g : zM} {r : Int32 × zM} (hf : fL_heat v1 v2 g = some r) : zW X (zQ X (.inl (some (.int r.1), r.2)) 1) 0 0 0 [(0, .ref (zB X + 0)), (1, .int v1), (2, .int v2), (3, .ref (zB X + 508))] [] g := by
  unfold fL_heat at hf
  refine z_aload_n hX dL_heat_0 3 rfl ?_
  refine z_iconst hX dL_heat_1 ci_0 ?_
  refine z_aload_n hX dL_heat_2 0 rfl ?_
  refine z_iload_n hX dL_heat_3 1 rfl ?_
  refine z_iload_n hX dL_heat_4 2 rfl ?_
  replace hf := zb3w_some hf
  rcases hf with ⟨c1, g1, h1, hf⟩ | ⟨r_1, g1, h1, hf⟩
  · by_cases h2 : c1 = 1
    · replace hf := zif_pos h2 hf
      subst h2
      refine z_callV_c hX ok_X11_heat q1149 q1150 q1151 (zrm_ok hR (by decide)) (ct_X11_heat h1) (zrec_Post hX zq_0) dL_heat_5 rfl rfl ?_
      refine z_catch hX hTb [] [] rfl (fun z hz => absurd hz List.not_mem_nil) (by decide) (by decide) q968 qn984 (fun q9 => ?_)
      refine z_astore (lv' := [(4, .ref q9), (0, .ref (zB X + 0)), (1, .int v1), (2, .int v2), (3, .ref (zB X + 508))]) hX dL_heat_20 hn (by decide) rfl ?_
      refine z_iconst hX dL_heat_22 ci_1 ?_
      obtain rfl := Option.some.inj hf
      exact z_iret hX hr rfl (zl rfl) (zl rfl) dL_heat_23
    · replace hf := zif_neg h2 hf
      exact zno hf
  refine z_callV1 hX ok_X11_heat q1149 q1150 q1151 (zrm_ok hR (by decide)) (ct_X11_heat h1) (zrec_Post hX zq_0) dL_heat_5 rfl rfl ?_
  refine z_if_eq hX 15 dL_heat_8 (by decide) (fun h3 => ?_) (fun h3 => ?_)
  · replace hf := zif_pos h3 hf
    refine z_lconst hX dL_heat_15 (by decide : Int64.ofNat _ = (0 : Int32).toInt64) ?_
    replace hf := zchk_some hf
    obtain ⟨h4, hf⟩ := hf
    replace hf := zput_some hf
    obtain ⟨g5, eg5, hf⟩ := hf
    refine z_last hX zq_508 rfl h4 dL_heat_16 (zW.eqg eg5 ?_)
    refine z_goto hX 24 dL_heat_17 (by decide) ?_
    refine z_iconst hX dL_heat_24 ci_0 ?_
    obtain rfl := Option.some.inj hf
    exact z_iret hX hr rfl (zl rfl) (zl rfl) dL_heat_25
  · replace hf := zif_neg h3 hf
    refine z_lconst hX dL_heat_11 (by decide : Int64.ofNat _ = (1 : Int32).toInt64) ?_
    refine z_goto hX 16 dL_heat_12 (by decide) ?_
    replace hf := zchk_some hf
    obtain ⟨h6, hf⟩ := hf
    replace hf := zput_some hf
    obtain ⟨g7, eg7, hf⟩ := hf
    refine z_last hX zq_508 rfl h6 dL_heat_16 (zW.eqg eg7 ?_)
    refine z_goto hX 24 dL_heat_17 (by decide) ?_
    refine z_iconst hX dL_heat_24 ci_0 ?_
    obtain rfl := Option.some.inj hf
    exact z_iret hX hr rfl (zl rfl) (zl rfl) dL_heat_25
set_option maxHeartbeats 4000000 in
set_option maxRecDepth 100000 in
theorem ct_L_heat {E : zE} {v1 : Int32} {v2 : Int32} {g : zM} {r : Int32 × zM} (hf : fL_heat v1 v2 g = some r) : zCtW yL_heat cL_heat 5 (some .int) [(0, 17, 20, 24)] 9 1 E [.ref (E.1 + 0), .int v1, .int v2, .ref (E.1 + 508)] g (some (.int r.1)) r.2 := by
  refine zmetW (by decide) (zl rfl) (fun X hE hX hTb hR hr hn => ?_)
  subst hE
  exact fL_heat_ok hX hTb hR hr hn hf
def fL_burn (v1 : Int32) (g : zM) : Option (Int32 × zM) := zb3w (fX11_burn v1 g) (fun r_1 g1 => zchk 0 1 (zput g1 508 (0 : Int32).toNatClampNeg r_1 (fun g4 => some (0, g4)))) (fun c1 g1 => if c1 = 1 then some (1, g1) else none)
theorem okw_L_burn : zOKW yL_burn cL_burn 4 (some .int) [(0, 9, 12, 24)] 3 := ⟨q1155, q114, by decide, by decide, by decide +kernel⟩
set_option maxHeartbeats 4000000 in
set_option maxRecDepth 100000 in
theorem fL_burn_ok {X : zX} (hX : zCX X cL_burn RL) (hTb : zTab X [(0, 9, 12, 24)]) (hR : X.2.2.2.1 = zrm 9 1) (hr : X.2.2.2.2.2.2.2.2.1.sig.returnType = (some .int)) (hn : X.2.2.2.2.2.2.2.2.2.1.maxLocals = 4) {v1 : Int32} {g : zM} {r : Int32 × zM} (hf : fL_burn v1 g = some r) : zW X (zQ X (.inl (some (.int r.1), r.2)) 1) 0 0 0 [(0, .ref (zB X + 0)), (1, .int v1), (2, .ref (zB X + 508))] [] g := by
  unfold fL_burn at hf
  refine z_aload_n hX dL_burn_0 2 rfl ?_
  refine z_iconst hX dL_burn_1 ci_0 ?_
  refine z_aload_n hX dL_burn_2 0 rfl ?_
  refine z_iload_n hX dL_burn_3 1 rfl ?_
  replace hf := zb3w_some hf
  rcases hf with ⟨c1, g1, h1, hf⟩ | ⟨r_1, g1, h1, hf⟩
  · by_cases h2 : c1 = 1
    · replace hf := zif_pos h2 hf
      subst h2
      refine z_callV_c hX ok_X11_burn q1156 q1157 q1158 (zrm_ok hR (by decide)) (ct_X11_burn h1) (zrec_Post hX zq_0) dL_burn_4 rfl rfl ?_
      refine z_catch hX hTb [] [] rfl (fun z hz => absurd hz List.not_mem_nil) (by decide) (by decide) q968 qn984 (fun q9 => ?_)
      refine z_astore_n (lv' := [(3, .ref q9), (0, .ref (zB X + 0)), (1, .int v1), (2, .ref (zB X + 508))]) hX dL_burn_12 hn (by decide) rfl ?_
      refine z_iconst hX dL_burn_13 ci_1 ?_
      obtain rfl := Option.some.inj hf
      exact z_iret hX hr rfl (zl rfl) (zl rfl) dL_burn_14
    · replace hf := zif_neg h2 hf
      exact zno hf
  refine z_callV1 hX ok_X11_burn q1156 q1157 q1158 (zrm_ok hR (by decide)) (ct_X11_burn h1) (zrec_Post hX zq_0) dL_burn_4 rfl rfl ?_
  refine z_i2l hX dL_burn_7 ?_
  replace hf := zchk_some hf
  obtain ⟨h3, hf⟩ := hf
  replace hf := zput_some hf
  obtain ⟨g4, eg4, hf⟩ := hf
  refine z_last hX zq_508 rfl h3 dL_burn_8 (zW.eqg eg4 ?_)
  refine z_goto hX 15 dL_burn_9 (by decide) ?_
  refine z_iconst hX dL_burn_15 ci_0 ?_
  obtain rfl := Option.some.inj hf
  exact z_iret hX hr rfl (zl rfl) (zl rfl) dL_burn_16
set_option maxHeartbeats 4000000 in
set_option maxRecDepth 100000 in
theorem ct_L_burn {E : zE} {v1 : Int32} {g : zM} {r : Int32 × zM} (hf : fL_burn v1 g = some r) : zCtW yL_burn cL_burn 4 (some .int) [(0, 9, 12, 24)] 9 1 E [.ref (E.1 + 0), .int v1, .ref (E.1 + 508)] g (some (.int r.1)) r.2 := by
  refine zmetW (by decide) (zl rfl) (fun X hE hX hTb hR hr hn => ?_)
  subst hE
  exact fL_burn_ok hX hTb hR hr hn hf
def fL_weeks (v1 : Int32) (g : zM) : Option (Int32 × zM) := zb3w (fX11_weeks v1 g) (fun r_1 g1 => zchk 0 1 (zput g1 508 (0 : Int32).toNatClampNeg r_1 (fun g4 => some (0, g4)))) (fun c1 g1 => if c1 = 2 then some (1, g1) else none)
theorem okw_L_weeks : zOKW yL_weeks cL_weeks 4 (some .int) [(0, 9, 12, 13)] 3 := ⟨q1166, q114, by decide, by decide, by decide +kernel⟩
set_option maxHeartbeats 4000000 in
set_option maxRecDepth 100000 in
theorem fL_weeks_ok {X : zX} (hX : zCX X cL_weeks RL) (hTb : zTab X [(0, 9, 12, 13)]) (hR : X.2.2.2.1 = zrm 9 1) (hr : X.2.2.2.2.2.2.2.2.1.sig.returnType = (some .int)) (hn : X.2.2.2.2.2.2.2.2.2.1.maxLocals = 4) {v1 : Int32} {g : zM} {r : Int32 × zM} (hf : fL_weeks v1 g = some r) : zW X (zQ X (.inl (some (.int r.1), r.2)) 1) 0 0 0 [(0, .ref (zB X + 0)), (1, .int v1), (2, .ref (zB X + 508))] [] g := by
  unfold fL_weeks at hf
  refine z_aload_n hX dL_weeks_0 2 rfl ?_
  refine z_iconst hX dL_weeks_1 ci_0 ?_
  refine z_aload_n hX dL_weeks_2 0 rfl ?_
  refine z_iload_n hX dL_weeks_3 1 rfl ?_
  replace hf := zb3w_some hf
  rcases hf with ⟨c1, g1, h1, hf⟩ | ⟨r_1, g1, h1, hf⟩
  · by_cases h2 : c1 = 2
    · replace hf := zif_pos h2 hf
      subst h2
      refine z_callV_c hX ok_X11_weeks q1167 q1168 q1169 (zrm_ok hR (by decide)) (ct_X11_weeks h1) (zrec_Post hX zq_0) dL_weeks_4 rfl rfl ?_
      refine z_catch hX hTb [] [] rfl (fun z hz => absurd hz List.not_mem_nil) (by decide) (by decide) q647 qn865 (fun q9 => ?_)
      refine z_astore_n (lv' := [(3, .ref q9), (0, .ref (zB X + 0)), (1, .int v1), (2, .ref (zB X + 508))]) hX dL_weeks_12 hn (by decide) rfl ?_
      refine z_iconst hX dL_weeks_13 ci_1 ?_
      obtain rfl := Option.some.inj hf
      exact z_iret hX hr rfl (zl rfl) (zl rfl) dL_weeks_14
    · replace hf := zif_neg h2 hf
      exact zno hf
  refine z_callV1 hX ok_X11_weeks q1167 q1168 q1169 (zrm_ok hR (by decide)) (ct_X11_weeks h1) (zrec_Post hX zq_0) dL_weeks_4 rfl rfl ?_
  refine z_i2l hX dL_weeks_7 ?_
  replace hf := zchk_some hf
  obtain ⟨h3, hf⟩ := hf
  replace hf := zput_some hf
  obtain ⟨g4, eg4, hf⟩ := hf
  refine z_last hX zq_508 rfl h3 dL_weeks_8 (zW.eqg eg4 ?_)
  refine z_goto hX 15 dL_weeks_9 (by decide) ?_
  refine z_iconst hX dL_weeks_15 ci_0 ?_
  obtain rfl := Option.some.inj hf
  exact z_iret hX hr rfl (zl rfl) (zl rfl) dL_weeks_16
set_option maxHeartbeats 4000000 in
set_option maxRecDepth 100000 in
theorem ct_L_weeks {E : zE} {v1 : Int32} {g : zM} {r : Int32 × zM} (hf : fL_weeks v1 g = some r) : zCtW yL_weeks cL_weeks 4 (some .int) [(0, 9, 12, 13)] 9 1 E [.ref (E.1 + 0), .int v1, .ref (E.1 + 508)] g (some (.int r.1)) r.2 := by
  refine zmetW (by decide) (zl rfl) (fun X hE hX hTb hR hr hn => ?_)
  subst hE
  exact fL_weeks_ok hX hTb hR hr hn hf
def fL_ahead (v1 : Int32) (v2 : Int32) (v3 : Int32) (g : zM) : Option (Int32 × zM) := zb3w (fX11_ahead v1 v2 v3 g) (fun r_1 g1 => zchk 0 1 (zput g1 508 (0 : Int32).toNatClampNeg r_1 (fun g6 => some (0, g6)))) (fun c1 g1 => if c1 = 1 then some (1, g1) else if c1 = 2 then some (2, g1) else if c1 = 5 then some (3, g1) else none)
theorem okw_L_ahead : zOKW yL_ahead cL_ahead 6 (some .int) [(0, 12, 15, 24), (0, 12, 19, 13), (0, 12, 23, 26)] 5 := ⟨q1190, q114, by decide, by decide, by decide +kernel⟩
set_option maxHeartbeats 4000000 in
set_option maxRecDepth 100000 in
theorem fL_ahead_ok {X : zX} (hX : zCX X cL_ahead RL) (hTb : zTab X [(0, 12, 15, 24), (0, 12, 19, 13), (0, 12, 23, 26)]) (hR : X.2.2.2.1 = zrm 8 3) (hr : X.2.2.2.2.2.2.2.2.1.sig.returnType = (some .int)) (hn : X.2.2.2.2.2.2.2.2.2.1.maxLocals = 6) {v1 : Int32} {v2 : Int32} {v3 : Int32} {g : zM} {r : Int32 × zM} (hf : fL_ahead v1 v2 v3 g = some r) : zW X (zQ X (.inl (some (.int r.1), r.2)) 3) 0 0 0 [(0, .ref (zB X + 0)), (1, .int v1), (2, .int v2), (3, .int v3), (4, .ref (zB X + 508))] [] g := by
  unfold fL_ahead at hf
  refine z_aload hX dL_ahead_0 4 rfl ?_
  refine z_iconst hX dL_ahead_2 ci_0 ?_
  refine z_aload_n hX dL_ahead_3 0 rfl ?_
  refine z_iload_n hX dL_ahead_4 1 rfl ?_
  refine z_iload_n hX dL_ahead_5 2 rfl ?_
  refine z_iload_n hX dL_ahead_6 3 rfl ?_
  replace hf := zb3w_some hf
  rcases hf with ⟨c1, g1, h1, hf⟩ | ⟨r_1, g1, h1, hf⟩
  · by_cases h2 : c1 = 1
    · replace hf := zif_pos h2 hf
      subst h2
      refine z_callV_c hX ok_X11_ahead q1191 q1192 q1193 (zrm_ok hR (by decide)) (ct_X11_ahead h1) (zrec_Post hX zq_0) dL_ahead_7 rfl rfl ?_
      refine z_catch hX hTb [] [(0, 12, 19, 13), (0, 12, 23, 26)] rfl (fun z hz => absurd hz List.not_mem_nil) (by decide) (by decide) q968 qn984 (fun q9 => ?_)
      refine z_astore (lv' := [(5, .ref q9), (0, .ref (zB X + 0)), (1, .int v1), (2, .int v2), (3, .int v3), (4, .ref (zB X + 508))]) hX dL_ahead_15 hn (by decide) rfl ?_
      refine z_iconst hX dL_ahead_17 ci_1 ?_
      obtain rfl := Option.some.inj hf
      exact z_iret hX hr rfl (zl rfl) (zl rfl) dL_ahead_18
    · replace hf := zif_neg h2 hf
      by_cases h3 : c1 = 2
      · replace hf := zif_pos h3 hf
        subst h3
        refine z_callV_c hX ok_X11_ahead q1191 q1192 q1193 (zrm_ok hR (by decide)) (ct_X11_ahead h1) (zrec_Post hX zq_0) dL_ahead_7 rfl rfl ?_
        refine z_catch hX hTb [(0, 12, 15, 24)] [(0, 12, 23, 26)] rfl (zpass1 ⟨by decide, _, q968, by decide⟩) (by decide) (by decide) q647 qn865 (fun q9 => ?_)
        refine z_astore (lv' := [(5, .ref q9), (0, .ref (zB X + 0)), (1, .int v1), (2, .int v2), (3, .int v3), (4, .ref (zB X + 508))]) hX dL_ahead_19 hn (by decide) rfl ?_
        refine z_iconst hX dL_ahead_21 ci_2 ?_
        obtain rfl := Option.some.inj hf
        exact z_iret hX hr rfl (zl rfl) (zl rfl) dL_ahead_22
      · replace hf := zif_neg h3 hf
        by_cases h4 : c1 = 5
        · replace hf := zif_pos h4 hf
          subst h4
          refine z_callV_c hX ok_X11_ahead q1191 q1192 q1193 (zrm_ok hR (by decide)) (ct_X11_ahead h1) (zrec_Post hX zq_0) dL_ahead_7 rfl rfl ?_
          refine z_catch hX hTb [(0, 12, 15, 24), (0, 12, 19, 13)] [] rfl (zpass2 ⟨by decide, _, q968, by decide⟩ ⟨by decide, _, q647, by decide⟩) (by decide) (by decide) q969 qn1001 (fun q9 => ?_)
          refine z_astore (lv' := [(5, .ref q9), (0, .ref (zB X + 0)), (1, .int v1), (2, .int v2), (3, .int v3), (4, .ref (zB X + 508))]) hX dL_ahead_23 hn (by decide) rfl ?_
          refine z_iconst hX dL_ahead_25 ci_3 ?_
          obtain rfl := Option.some.inj hf
          exact z_iret hX hr rfl (zl rfl) (zl rfl) dL_ahead_26
        · replace hf := zif_neg h4 hf
          exact zno hf
  refine z_callV1 hX ok_X11_ahead q1191 q1192 q1193 (zrm_ok hR (by decide)) (ct_X11_ahead h1) (zrec_Post hX zq_0) dL_ahead_7 rfl rfl ?_
  refine z_i2l hX dL_ahead_10 ?_
  replace hf := zchk_some hf
  obtain ⟨h5, hf⟩ := hf
  replace hf := zput_some hf
  obtain ⟨g6, eg6, hf⟩ := hf
  refine z_last hX zq_508 rfl h5 dL_ahead_11 (zW.eqg eg6 ?_)
  refine z_goto hX 27 dL_ahead_12 (by decide) ?_
  refine z_iconst hX dL_ahead_27 ci_0 ?_
  obtain rfl := Option.some.inj hf
  exact z_iret hX hr rfl (zl rfl) (zl rfl) dL_ahead_28
set_option maxHeartbeats 4000000 in
set_option maxRecDepth 100000 in
theorem ct_L_ahead {E : zE} {v1 : Int32} {v2 : Int32} {v3 : Int32} {g : zM} {r : Int32 × zM} (hf : fL_ahead v1 v2 v3 g = some r) : zCtW yL_ahead cL_ahead 6 (some .int) [(0, 12, 15, 24), (0, 12, 19, 13), (0, 12, 23, 26)] 8 3 E [.ref (E.1 + 0), .int v1, .int v2, .int v3, .ref (E.1 + 508)] g (some (.int r.1)) r.2 := by
  refine zmetW (by decide) (zl rfl) (fun X hE hX hTb hR hr hn => ?_)
  subst hE
  exact fL_ahead_ok hX hTb hR hr hn hf
def fL_says (v1 : Int32) (v2 : Int32) (v3 : Int32) (g : zM) : Option (Int32 × zM) := zb3w (fX11_says v1 v2 v3 g) (fun r_1 g1 => zchk 0 1 (zput g1 508 (0 : Int32).toNatClampNeg r_1 (fun g4 => some (0, g4)))) (fun c1 g1 => if c1 = 1 then some (1, g1) else none)
theorem okw_L_says : zOKW yL_says cL_says 6 (some .int) [(0, 12, 15, 24)] 5 := ⟨q1207, q114, by decide, by decide, by decide +kernel⟩
set_option maxHeartbeats 4000000 in
set_option maxRecDepth 100000 in
theorem fL_says_ok {X : zX} (hX : zCX X cL_says RL) (hTb : zTab X [(0, 12, 15, 24)]) (hR : X.2.2.2.1 = zrm 8 2) (hr : X.2.2.2.2.2.2.2.2.1.sig.returnType = (some .int)) (hn : X.2.2.2.2.2.2.2.2.2.1.maxLocals = 6) {v1 : Int32} {v2 : Int32} {v3 : Int32} {g : zM} {r : Int32 × zM} (hf : fL_says v1 v2 v3 g = some r) : zW X (zQ X (.inl (some (.int r.1), r.2)) 2) 0 0 0 [(0, .ref (zB X + 0)), (1, .int v1), (2, .int v2), (3, .int v3), (4, .ref (zB X + 508))] [] g := by
  unfold fL_says at hf
  refine z_aload hX dL_says_0 4 rfl ?_
  refine z_iconst hX dL_says_2 ci_0 ?_
  refine z_aload_n hX dL_says_3 0 rfl ?_
  refine z_iload_n hX dL_says_4 1 rfl ?_
  refine z_iload_n hX dL_says_5 2 rfl ?_
  refine z_iload_n hX dL_says_6 3 rfl ?_
  replace hf := zb3w_some hf
  rcases hf with ⟨c1, g1, h1, hf⟩ | ⟨r_1, g1, h1, hf⟩
  · by_cases h2 : c1 = 1
    · replace hf := zif_pos h2 hf
      subst h2
      refine z_callV_c hX ok_X11_says q1208 q1209 q1210 (zrm_ok hR (by decide)) (ct_X11_says h1) (zrec_Post hX zq_0) dL_says_7 rfl rfl ?_
      refine z_catch hX hTb [] [] rfl (fun z hz => absurd hz List.not_mem_nil) (by decide) (by decide) q968 qn984 (fun q9 => ?_)
      refine z_astore (lv' := [(5, .ref q9), (0, .ref (zB X + 0)), (1, .int v1), (2, .int v2), (3, .int v3), (4, .ref (zB X + 508))]) hX dL_says_15 hn (by decide) rfl ?_
      refine z_iconst hX dL_says_17 ci_1 ?_
      obtain rfl := Option.some.inj hf
      exact z_iret hX hr rfl (zl rfl) (zl rfl) dL_says_18
    · replace hf := zif_neg h2 hf
      exact zno hf
  refine z_callV1 hX ok_X11_says q1208 q1209 q1210 (zrm_ok hR (by decide)) (ct_X11_says h1) (zrec_Post hX zq_0) dL_says_7 rfl rfl ?_
  refine z_i2l hX dL_says_10 ?_
  replace hf := zchk_some hf
  obtain ⟨h3, hf⟩ := hf
  replace hf := zput_some hf
  obtain ⟨g4, eg4, hf⟩ := hf
  refine z_last hX zq_508 rfl h3 dL_says_11 (zW.eqg eg4 ?_)
  refine z_goto hX 19 dL_says_12 (by decide) ?_
  refine z_iconst hX dL_says_19 ci_0 ?_
  obtain rfl := Option.some.inj hf
  exact z_iret hX hr rfl (zl rfl) (zl rfl) dL_says_20
set_option maxHeartbeats 4000000 in
set_option maxRecDepth 100000 in
theorem ct_L_says {E : zE} {v1 : Int32} {v2 : Int32} {v3 : Int32} {g : zM} {r : Int32 × zM} (hf : fL_says v1 v2 v3 g = some r) : zCtW yL_says cL_says 6 (some .int) [(0, 12, 15, 24)] 8 2 E [.ref (E.1 + 0), .int v1, .int v2, .int v3, .ref (E.1 + 508)] g (some (.int r.1)) r.2 := by
  refine zmetW (by decide) (zl rfl) (fun X hE hX hTb hR hr hn => ?_)
  subst hE
  exact fL_says_ok hX hTb hR hr hn hf
def fL_stops (v1 : Int32) (g : zM) : Option (Int32 × zM) := zb3w (fX11_stops v1 g) (fun r_1 g1 => zchk 0 1 (zput g1 508 (0 : Int32).toNatClampNeg r_1 (fun g4 => some (0, g4)))) (fun c1 g1 => if c1 = 1 then some (1, g1) else none)
theorem okw_L_stops : zOKW yL_stops cL_stops 4 (some .int) [(0, 9, 12, 24)] 3 := ⟨q1222, q114, by decide, by decide, by decide +kernel⟩
set_option maxHeartbeats 4000000 in
set_option maxRecDepth 100000 in
theorem fL_stops_ok {X : zX} (hX : zCX X cL_stops RL) (hTb : zTab X [(0, 9, 12, 24)]) (hR : X.2.2.2.1 = zrm 8 1) (hr : X.2.2.2.2.2.2.2.2.1.sig.returnType = (some .int)) (hn : X.2.2.2.2.2.2.2.2.2.1.maxLocals = 4) {v1 : Int32} {g : zM} {r : Int32 × zM} (hf : fL_stops v1 g = some r) : zW X (zQ X (.inl (some (.int r.1), r.2)) 1) 0 0 0 [(0, .ref (zB X + 0)), (1, .int v1), (2, .ref (zB X + 508))] [] g := by
  unfold fL_stops at hf
  refine z_aload_n hX dL_stops_0 2 rfl ?_
  refine z_iconst hX dL_stops_1 ci_0 ?_
  refine z_aload_n hX dL_stops_2 0 rfl ?_
  refine z_iload_n hX dL_stops_3 1 rfl ?_
  replace hf := zb3w_some hf
  rcases hf with ⟨c1, g1, h1, hf⟩ | ⟨r_1, g1, h1, hf⟩
  · by_cases h2 : c1 = 1
    · replace hf := zif_pos h2 hf
      subst h2
      refine z_callV_c hX ok_X11_stops q1223 q1224 q1225 (zrm_ok hR (by decide)) (ct_X11_stops h1) (zrec_Post hX zq_0) dL_stops_4 rfl rfl ?_
      refine z_catch hX hTb [] [] rfl (fun z hz => absurd hz List.not_mem_nil) (by decide) (by decide) q968 qn984 (fun q9 => ?_)
      refine z_astore_n (lv' := [(3, .ref q9), (0, .ref (zB X + 0)), (1, .int v1), (2, .ref (zB X + 508))]) hX dL_stops_12 hn (by decide) rfl ?_
      refine z_iconst hX dL_stops_13 ci_1 ?_
      obtain rfl := Option.some.inj hf
      exact z_iret hX hr rfl (zl rfl) (zl rfl) dL_stops_14
    · replace hf := zif_neg h2 hf
      exact zno hf
  refine z_callV1 hX ok_X11_stops q1223 q1224 q1225 (zrm_ok hR (by decide)) (ct_X11_stops h1) (zrec_Post hX zq_0) dL_stops_4 rfl rfl ?_
  refine z_i2l hX dL_stops_7 ?_
  replace hf := zchk_some hf
  obtain ⟨h3, hf⟩ := hf
  replace hf := zput_some hf
  obtain ⟨g4, eg4, hf⟩ := hf
  refine z_last hX zq_508 rfl h3 dL_stops_8 (zW.eqg eg4 ?_)
  refine z_goto hX 15 dL_stops_9 (by decide) ?_
  refine z_iconst hX dL_stops_15 ci_0 ?_
  obtain rfl := Option.some.inj hf
  exact z_iret hX hr rfl (zl rfl) (zl rfl) dL_stops_16
set_option maxHeartbeats 4000000 in
set_option maxRecDepth 100000 in
theorem ct_L_stops {E : zE} {v1 : Int32} {g : zM} {r : Int32 × zM} (hf : fL_stops v1 g = some r) : zCtW yL_stops cL_stops 4 (some .int) [(0, 9, 12, 24)] 8 1 E [.ref (E.1 + 0), .int v1, .ref (E.1 + 508)] g (some (.int r.1)) r.2 := by
  refine zmetW (by decide) (zl rfl) (fun X hE hX hTb hR hr hn => ?_)
  subst hE
  exact fL_stops_ok hX hTb hR hr hn hf
def fL_stays (v1 : Int32) (v2 : Int32) (g : zM) : Option (Int32 × zM) := zb3w (fX11_stays v1 v2 g) (fun r_1 g1 => zchk 0 1 (zput g1 508 (0 : Int32).toNatClampNeg r_1 (fun g4 => some (0, g4)))) (fun c1 g1 => if c1 = 1 then some (1, g1) else none)
theorem okw_L_stays : zOKW yL_stays cL_stays 5 (some .int) [(0, 10, 13, 24)] 4 := ⟨q1229, q114, by decide, by decide, by decide +kernel⟩
set_option maxHeartbeats 4000000 in
set_option maxRecDepth 100000 in
theorem fL_stays_ok {X : zX} (hX : zCX X cL_stays RL) (hTb : zTab X [(0, 10, 13, 24)]) (hR : X.2.2.2.1 = zrm 8 2) (hr : X.2.2.2.2.2.2.2.2.1.sig.returnType = (some .int)) (hn : X.2.2.2.2.2.2.2.2.2.1.maxLocals = 5) {v1 : Int32} {v2 : Int32} {g : zM} {r : Int32 × zM} (hf : fL_stays v1 v2 g = some r) : zW X (zQ X (.inl (some (.int r.1), r.2)) 2) 0 0 0 [(0, .ref (zB X + 0)), (1, .int v1), (2, .int v2), (3, .ref (zB X + 508))] [] g := by
  unfold fL_stays at hf
  refine z_aload_n hX dL_stays_0 3 rfl ?_
  refine z_iconst hX dL_stays_1 ci_0 ?_
  refine z_aload_n hX dL_stays_2 0 rfl ?_
  refine z_iload_n hX dL_stays_3 1 rfl ?_
  refine z_iload_n hX dL_stays_4 2 rfl ?_
  replace hf := zb3w_some hf
  rcases hf with ⟨c1, g1, h1, hf⟩ | ⟨r_1, g1, h1, hf⟩
  · by_cases h2 : c1 = 1
    · replace hf := zif_pos h2 hf
      subst h2
      refine z_callV_c hX ok_X11_stays q1230 q1231 q1232 (zrm_ok hR (by decide)) (ct_X11_stays h1) (zrec_Post hX zq_0) dL_stays_5 rfl rfl ?_
      refine z_catch hX hTb [] [] rfl (fun z hz => absurd hz List.not_mem_nil) (by decide) (by decide) q968 qn984 (fun q9 => ?_)
      refine z_astore (lv' := [(4, .ref q9), (0, .ref (zB X + 0)), (1, .int v1), (2, .int v2), (3, .ref (zB X + 508))]) hX dL_stays_13 hn (by decide) rfl ?_
      refine z_iconst hX dL_stays_15 ci_1 ?_
      obtain rfl := Option.some.inj hf
      exact z_iret hX hr rfl (zl rfl) (zl rfl) dL_stays_16
    · replace hf := zif_neg h2 hf
      exact zno hf
  refine z_callV1 hX ok_X11_stays q1230 q1231 q1232 (zrm_ok hR (by decide)) (ct_X11_stays h1) (zrec_Post hX zq_0) dL_stays_5 rfl rfl ?_
  refine z_i2l hX dL_stays_8 ?_
  replace hf := zchk_some hf
  obtain ⟨h3, hf⟩ := hf
  replace hf := zput_some hf
  obtain ⟨g4, eg4, hf⟩ := hf
  refine z_last hX zq_508 rfl h3 dL_stays_9 (zW.eqg eg4 ?_)
  refine z_goto hX 17 dL_stays_10 (by decide) ?_
  refine z_iconst hX dL_stays_17 ci_0 ?_
  obtain rfl := Option.some.inj hf
  exact z_iret hX hr rfl (zl rfl) (zl rfl) dL_stays_18
set_option maxHeartbeats 4000000 in
set_option maxRecDepth 100000 in
theorem ct_L_stays {E : zE} {v1 : Int32} {v2 : Int32} {g : zM} {r : Int32 × zM} (hf : fL_stays v1 v2 g = some r) : zCtW yL_stays cL_stays 5 (some .int) [(0, 10, 13, 24)] 8 2 E [.ref (E.1 + 0), .int v1, .int v2, .ref (E.1 + 508)] g (some (.int r.1)) r.2 := by
  refine zmetW (by decide) (zl rfl) (fun X hE hX hTb hR hr hn => ?_)
  subst hE
  exact fL_stays_ok hX hTb hR hr hn hf
def fL_send (v1 : Int32) (v2 : Int32) (v3 : Int32) (v4 : Int32) (v5 : Int32) (g : zM) : Option (Int32 × zM) := zb3w (fX11_send v1 v2 v3 v4 v5 g) (fun r_1 g1 => zchk 0 1 (zput g1 508 (0 : Int32).toNatClampNeg r_1 (fun g5 => some (0, g5)))) (fun c1 g1 => if c1 = 1 then some (1, g1) else if c1 = 2 then some (2, g1) else none)
theorem okw_L_send : zOKW yL_send cL_send 8 (some .int) [(0, 16, 19, 24), (0, 16, 23, 13)] 7 := ⟨q1236, q114, by decide, by decide, by decide +kernel⟩
set_option maxHeartbeats 4000000 in
set_option maxRecDepth 100000 in
theorem fL_send_ok {X : zX} (hX : zCX X cL_send RL) (hTb : zTab X [(0, 16, 19, 24), (0, 16, 23, 13)]) (hR : X.2.2.2.1 = zrm 8 4) (hr : X.2.2.2.2.2.2.2.2.1.sig.returnType = (some .int)) (hn : X.2.2.2.2.2.2.2.2.2.1.maxLocals = 8) {v1 : Int32} {v2 : Int32} {v3 : Int32} {v4 : Int32} {v5 : Int32} {g : zM} {r : Int32 × zM} (hf : fL_send v1 v2 v3 v4 v5 g = some r) : zW X (zQ X (.inl (some (.int r.1), r.2)) 4) 0 0 0 [(0, .ref (zB X + 0)), (1, .int v1), (2, .int v2), (3, .int v3), (4, .int v4), (5, .int v5), (6, .ref (zB X + 508))] [] g := by
  unfold fL_send at hf
  refine z_aload hX dL_send_0 6 rfl ?_
  refine z_iconst hX dL_send_2 ci_0 ?_
  refine z_aload_n hX dL_send_3 0 rfl ?_
  refine z_iload_n hX dL_send_4 1 rfl ?_
  refine z_iload_n hX dL_send_5 2 rfl ?_
  refine z_iload_n hX dL_send_6 3 rfl ?_
  refine z_iload hX dL_send_7 4 rfl ?_
  refine z_iload hX dL_send_9 5 rfl ?_
  replace hf := zb3w_some hf
  rcases hf with ⟨c1, g1, h1, hf⟩ | ⟨r_1, g1, h1, hf⟩
  · by_cases h2 : c1 = 1
    · replace hf := zif_pos h2 hf
      subst h2
      refine z_callV_c hX ok_X11_send q1237 q1238 q1239 (zrm_ok hR (by decide)) (ct_X11_send h1) (zrec_Post hX zq_0) dL_send_11 rfl rfl ?_
      refine z_catch hX hTb [] [(0, 16, 23, 13)] rfl (fun z hz => absurd hz List.not_mem_nil) (by decide) (by decide) q968 qn984 (fun q9 => ?_)
      refine z_astore (lv' := [(7, .ref q9), (0, .ref (zB X + 0)), (1, .int v1), (2, .int v2), (3, .int v3), (4, .int v4), (5, .int v5), (6, .ref (zB X + 508))]) hX dL_send_19 hn (by decide) rfl ?_
      refine z_iconst hX dL_send_21 ci_1 ?_
      obtain rfl := Option.some.inj hf
      exact z_iret hX hr rfl (zl rfl) (zl rfl) dL_send_22
    · replace hf := zif_neg h2 hf
      by_cases h3 : c1 = 2
      · replace hf := zif_pos h3 hf
        subst h3
        refine z_callV_c hX ok_X11_send q1237 q1238 q1239 (zrm_ok hR (by decide)) (ct_X11_send h1) (zrec_Post hX zq_0) dL_send_11 rfl rfl ?_
        refine z_catch hX hTb [(0, 16, 19, 24)] [] rfl (zpass1 ⟨by decide, _, q968, by decide⟩) (by decide) (by decide) q647 qn865 (fun q9 => ?_)
        refine z_astore (lv' := [(7, .ref q9), (0, .ref (zB X + 0)), (1, .int v1), (2, .int v2), (3, .int v3), (4, .int v4), (5, .int v5), (6, .ref (zB X + 508))]) hX dL_send_23 hn (by decide) rfl ?_
        refine z_iconst hX dL_send_25 ci_2 ?_
        obtain rfl := Option.some.inj hf
        exact z_iret hX hr rfl (zl rfl) (zl rfl) dL_send_26
      · replace hf := zif_neg h3 hf
        exact zno hf
  refine z_callV1 hX ok_X11_send q1237 q1238 q1239 (zrm_ok hR (by decide)) (ct_X11_send h1) (zrec_Post hX zq_0) dL_send_11 rfl rfl ?_
  refine z_i2l hX dL_send_14 ?_
  replace hf := zchk_some hf
  obtain ⟨h4, hf⟩ := hf
  replace hf := zput_some hf
  obtain ⟨g5, eg5, hf⟩ := hf
  refine z_last hX zq_508 rfl h4 dL_send_15 (zW.eqg eg5 ?_)
  refine z_goto hX 27 dL_send_16 (by decide) ?_
  refine z_iconst hX dL_send_27 ci_0 ?_
  obtain rfl := Option.some.inj hf
  exact z_iret hX hr rfl (zl rfl) (zl rfl) dL_send_28
set_option maxHeartbeats 4000000 in
set_option maxRecDepth 100000 in
theorem ct_L_send {E : zE} {v1 : Int32} {v2 : Int32} {v3 : Int32} {v4 : Int32} {v5 : Int32} {g : zM} {r : Int32 × zM} (hf : fL_send v1 v2 v3 v4 v5 g = some r) : zCtW yL_send cL_send 8 (some .int) [(0, 16, 19, 24), (0, 16, 23, 13)] 8 4 E [.ref (E.1 + 0), .int v1, .int v2, .int v3, .int v4, .int v5, .ref (E.1 + 508)] g (some (.int r.1)) r.2 := by
  refine zmetW (by decide) (zl rfl) (fun X hE hX hTb hR hr hn => ?_)
  subst hE
  exact fL_send_ok hX hTb hR hr hn hf
def fL_cuts (v1 : Int32) (v2 : Int32) (v3 : Int32) (v4 : Int32) (g : zM) : Option (Int32 × zM) := zb3w (fX11_cuts v1 v2 v3 v4 g) (fun r_1 g1 => zchk 0 1 (zput g1 508 (0 : Int32).toNatClampNeg r_1 (fun g5 => some (0, g5)))) (fun c1 g1 => if c1 = 1 then some (1, g1) else if c1 = 2 then some (2, g1) else none)
theorem okw_L_cuts : zOKW yL_cuts cL_cuts 7 (some .int) [(0, 14, 17, 24), (0, 14, 21, 13)] 6 := ⟨q1252, q114, by decide, by decide, by decide +kernel⟩
set_option maxHeartbeats 4000000 in
set_option maxRecDepth 100000 in
theorem fL_cuts_ok {X : zX} (hX : zCX X cL_cuts RL) (hTb : zTab X [(0, 14, 17, 24), (0, 14, 21, 13)]) (hR : X.2.2.2.1 = zrm 8 3) (hr : X.2.2.2.2.2.2.2.2.1.sig.returnType = (some .int)) (hn : X.2.2.2.2.2.2.2.2.2.1.maxLocals = 7) {v1 : Int32} {v2 : Int32} {v3 : Int32} {v4 : Int32} {g : zM} {r : Int32 × zM} (hf : fL_cuts v1 v2 v3 v4 g = some r) : zW X (zQ X (.inl (some (.int r.1), r.2)) 3) 0 0 0 [(0, .ref (zB X + 0)), (1, .int v1), (2, .int v2), (3, .int v3), (4, .int v4), (5, .ref (zB X + 508))] [] g := by
  unfold fL_cuts at hf
  refine z_aload hX dL_cuts_0 5 rfl ?_
  refine z_iconst hX dL_cuts_2 ci_0 ?_
  refine z_aload_n hX dL_cuts_3 0 rfl ?_
  refine z_iload_n hX dL_cuts_4 1 rfl ?_
  refine z_iload_n hX dL_cuts_5 2 rfl ?_
  refine z_iload_n hX dL_cuts_6 3 rfl ?_
  refine z_iload hX dL_cuts_7 4 rfl ?_
  replace hf := zb3w_some hf
  rcases hf with ⟨c1, g1, h1, hf⟩ | ⟨r_1, g1, h1, hf⟩
  · by_cases h2 : c1 = 1
    · replace hf := zif_pos h2 hf
      subst h2
      refine z_callV_c hX ok_X11_cuts q1253 q1254 q1255 (zrm_ok hR (by decide)) (ct_X11_cuts h1) (zrec_Post hX zq_0) dL_cuts_9 rfl rfl ?_
      refine z_catch hX hTb [] [(0, 14, 21, 13)] rfl (fun z hz => absurd hz List.not_mem_nil) (by decide) (by decide) q968 qn984 (fun q9 => ?_)
      refine z_astore (lv' := [(6, .ref q9), (0, .ref (zB X + 0)), (1, .int v1), (2, .int v2), (3, .int v3), (4, .int v4), (5, .ref (zB X + 508))]) hX dL_cuts_17 hn (by decide) rfl ?_
      refine z_iconst hX dL_cuts_19 ci_1 ?_
      obtain rfl := Option.some.inj hf
      exact z_iret hX hr rfl (zl rfl) (zl rfl) dL_cuts_20
    · replace hf := zif_neg h2 hf
      by_cases h3 : c1 = 2
      · replace hf := zif_pos h3 hf
        subst h3
        refine z_callV_c hX ok_X11_cuts q1253 q1254 q1255 (zrm_ok hR (by decide)) (ct_X11_cuts h1) (zrec_Post hX zq_0) dL_cuts_9 rfl rfl ?_
        refine z_catch hX hTb [(0, 14, 17, 24)] [] rfl (zpass1 ⟨by decide, _, q968, by decide⟩) (by decide) (by decide) q647 qn865 (fun q9 => ?_)
        refine z_astore (lv' := [(6, .ref q9), (0, .ref (zB X + 0)), (1, .int v1), (2, .int v2), (3, .int v3), (4, .int v4), (5, .ref (zB X + 508))]) hX dL_cuts_21 hn (by decide) rfl ?_
        refine z_iconst hX dL_cuts_23 ci_2 ?_
        obtain rfl := Option.some.inj hf
        exact z_iret hX hr rfl (zl rfl) (zl rfl) dL_cuts_24
      · replace hf := zif_neg h3 hf
        exact zno hf
  refine z_callV1 hX ok_X11_cuts q1253 q1254 q1255 (zrm_ok hR (by decide)) (ct_X11_cuts h1) (zrec_Post hX zq_0) dL_cuts_9 rfl rfl ?_
  refine z_i2l hX dL_cuts_12 ?_
  replace hf := zchk_some hf
  obtain ⟨h4, hf⟩ := hf
  replace hf := zput_some hf
  obtain ⟨g5, eg5, hf⟩ := hf
  refine z_last hX zq_508 rfl h4 dL_cuts_13 (zW.eqg eg5 ?_)
  refine z_goto hX 25 dL_cuts_14 (by decide) ?_
  refine z_iconst hX dL_cuts_25 ci_0 ?_
  obtain rfl := Option.some.inj hf
  exact z_iret hX hr rfl (zl rfl) (zl rfl) dL_cuts_26
set_option maxHeartbeats 4000000 in
set_option maxRecDepth 100000 in
theorem ct_L_cuts {E : zE} {v1 : Int32} {v2 : Int32} {v3 : Int32} {v4 : Int32} {g : zM} {r : Int32 × zM} (hf : fL_cuts v1 v2 v3 v4 g = some r) : zCtW yL_cuts cL_cuts 7 (some .int) [(0, 14, 17, 24), (0, 14, 21, 13)] 8 3 E [.ref (E.1 + 0), .int v1, .int v2, .int v3, .int v4, .ref (E.1 + 508)] g (some (.int r.1)) r.2 := by
  refine zmetW (by decide) (zl rfl) (fun X hE hX hTb hR hr hn => ?_)
  subst hE
  exact fL_cuts_ok hX hTb hR hr hn hf
def fL_out (v1 : Int32) (v2 : Int32) (v3 : Int32) (v4 : Int32) (g : zM) : Option (Int32 × zM) := zb3w (fX11_out v1 v2 v3 v4 g) (fun r_1 g1 => zchk 0 1 (zput g1 508 (0 : Int32).toNatClampNeg r_1 (fun g5 => some (0, g5)))) (fun c1 g1 => if c1 = 1 then some (1, g1) else if c1 = 2 then some (2, g1) else none)
theorem okw_L_out : zOKW yL_out cL_out 7 (some .int) [(0, 14, 17, 24), (0, 14, 21, 13)] 6 := ⟨q1259, q114, by decide, by decide, by decide +kernel⟩
set_option maxHeartbeats 4000000 in
set_option maxRecDepth 100000 in
theorem fL_out_ok {X : zX} (hX : zCX X cL_out RL) (hTb : zTab X [(0, 14, 17, 24), (0, 14, 21, 13)]) (hR : X.2.2.2.1 = zrm 8 3) (hr : X.2.2.2.2.2.2.2.2.1.sig.returnType = (some .int)) (hn : X.2.2.2.2.2.2.2.2.2.1.maxLocals = 7) {v1 : Int32} {v2 : Int32} {v3 : Int32} {v4 : Int32} {g : zM} {r : Int32 × zM} (hf : fL_out v1 v2 v3 v4 g = some r) : zW X (zQ X (.inl (some (.int r.1), r.2)) 3) 0 0 0 [(0, .ref (zB X + 0)), (1, .int v1), (2, .int v2), (3, .int v3), (4, .int v4), (5, .ref (zB X + 508))] [] g := by
  unfold fL_out at hf
  refine z_aload hX dL_out_0 5 rfl ?_
  refine z_iconst hX dL_out_2 ci_0 ?_
  refine z_aload_n hX dL_out_3 0 rfl ?_
  refine z_iload_n hX dL_out_4 1 rfl ?_
  refine z_iload_n hX dL_out_5 2 rfl ?_
  refine z_iload_n hX dL_out_6 3 rfl ?_
  refine z_iload hX dL_out_7 4 rfl ?_
  replace hf := zb3w_some hf
  rcases hf with ⟨c1, g1, h1, hf⟩ | ⟨r_1, g1, h1, hf⟩
  · by_cases h2 : c1 = 1
    · replace hf := zif_pos h2 hf
      subst h2
      refine z_callV_c hX ok_X11_out q1260 q1261 q1262 (zrm_ok hR (by decide)) (ct_X11_out h1) (zrec_Post hX zq_0) dL_out_9 rfl rfl ?_
      refine z_catch hX hTb [] [(0, 14, 21, 13)] rfl (fun z hz => absurd hz List.not_mem_nil) (by decide) (by decide) q968 qn984 (fun q9 => ?_)
      refine z_astore (lv' := [(6, .ref q9), (0, .ref (zB X + 0)), (1, .int v1), (2, .int v2), (3, .int v3), (4, .int v4), (5, .ref (zB X + 508))]) hX dL_out_17 hn (by decide) rfl ?_
      refine z_iconst hX dL_out_19 ci_1 ?_
      obtain rfl := Option.some.inj hf
      exact z_iret hX hr rfl (zl rfl) (zl rfl) dL_out_20
    · replace hf := zif_neg h2 hf
      by_cases h3 : c1 = 2
      · replace hf := zif_pos h3 hf
        subst h3
        refine z_callV_c hX ok_X11_out q1260 q1261 q1262 (zrm_ok hR (by decide)) (ct_X11_out h1) (zrec_Post hX zq_0) dL_out_9 rfl rfl ?_
        refine z_catch hX hTb [(0, 14, 17, 24)] [] rfl (zpass1 ⟨by decide, _, q968, by decide⟩) (by decide) (by decide) q647 qn865 (fun q9 => ?_)
        refine z_astore (lv' := [(6, .ref q9), (0, .ref (zB X + 0)), (1, .int v1), (2, .int v2), (3, .int v3), (4, .int v4), (5, .ref (zB X + 508))]) hX dL_out_21 hn (by decide) rfl ?_
        refine z_iconst hX dL_out_23 ci_2 ?_
        obtain rfl := Option.some.inj hf
        exact z_iret hX hr rfl (zl rfl) (zl rfl) dL_out_24
      · replace hf := zif_neg h3 hf
        exact zno hf
  refine z_callV1 hX ok_X11_out q1260 q1261 q1262 (zrm_ok hR (by decide)) (ct_X11_out h1) (zrec_Post hX zq_0) dL_out_9 rfl rfl ?_
  refine z_i2l hX dL_out_12 ?_
  replace hf := zchk_some hf
  obtain ⟨h4, hf⟩ := hf
  replace hf := zput_some hf
  obtain ⟨g5, eg5, hf⟩ := hf
  refine z_last hX zq_508 rfl h4 dL_out_13 (zW.eqg eg5 ?_)
  refine z_goto hX 25 dL_out_14 (by decide) ?_
  refine z_iconst hX dL_out_25 ci_0 ?_
  obtain rfl := Option.some.inj hf
  exact z_iret hX hr rfl (zl rfl) (zl rfl) dL_out_26
set_option maxHeartbeats 4000000 in
set_option maxRecDepth 100000 in
theorem ct_L_out {E : zE} {v1 : Int32} {v2 : Int32} {v3 : Int32} {v4 : Int32} {g : zM} {r : Int32 × zM} (hf : fL_out v1 v2 v3 v4 g = some r) : zCtW yL_out cL_out 7 (some .int) [(0, 14, 17, 24), (0, 14, 21, 13)] 8 3 E [.ref (E.1 + 0), .int v1, .int v2, .int v3, .int v4, .ref (E.1 + 508)] g (some (.int r.1)) r.2 := by
  refine zmetW (by decide) (zl rfl) (fun X hE hX hTb hR hr hn => ?_)
  subst hE
  exact fL_out_ok hX hTb hR hr hn hf
def fL_astray (v1 : Int32) (g : zM) : Option (Int32 × zM) := zb3w (fX11_astray v1 g) (fun r_1 g1 => zchk 0 1 (zput g1 508 (0 : Int32).toNatClampNeg r_1 (fun g4 => some (0, g4)))) (fun c1 g1 => if c1 = 1 then some (1, g1) else none)
theorem okw_L_astray : zOKW yL_astray cL_astray 4 (some .int) [(0, 9, 12, 24)] 3 := ⟨q1266, q114, by decide, by decide, by decide +kernel⟩
set_option maxHeartbeats 4000000 in
set_option maxRecDepth 100000 in
theorem fL_astray_ok {X : zX} (hX : zCX X cL_astray RL) (hTb : zTab X [(0, 9, 12, 24)]) (hR : X.2.2.2.1 = zrm 5 1) (hr : X.2.2.2.2.2.2.2.2.1.sig.returnType = (some .int)) (hn : X.2.2.2.2.2.2.2.2.2.1.maxLocals = 4) {v1 : Int32} {g : zM} {r : Int32 × zM} (hf : fL_astray v1 g = some r) : zW X (zQ X (.inl (some (.int r.1), r.2)) 1) 0 0 0 [(0, .ref (zB X + 0)), (1, .int v1), (2, .ref (zB X + 508))] [] g := by
  unfold fL_astray at hf
  refine z_aload_n hX dL_astray_0 2 rfl ?_
  refine z_iconst hX dL_astray_1 ci_0 ?_
  refine z_aload_n hX dL_astray_2 0 rfl ?_
  refine z_iload_n hX dL_astray_3 1 rfl ?_
  replace hf := zb3w_some hf
  rcases hf with ⟨c1, g1, h1, hf⟩ | ⟨r_1, g1, h1, hf⟩
  · by_cases h2 : c1 = 1
    · replace hf := zif_pos h2 hf
      subst h2
      refine z_callV_c hX ok_X11_astray q1267 q1268 q1269 (zrm_ok hR (by decide)) (ct_X11_astray h1) (zrec_Post hX zq_0) dL_astray_4 rfl rfl ?_
      refine z_catch hX hTb [] [] rfl (fun z hz => absurd hz List.not_mem_nil) (by decide) (by decide) q968 qn984 (fun q9 => ?_)
      refine z_astore_n (lv' := [(3, .ref q9), (0, .ref (zB X + 0)), (1, .int v1), (2, .ref (zB X + 508))]) hX dL_astray_12 hn (by decide) rfl ?_
      refine z_iconst hX dL_astray_13 ci_1 ?_
      obtain rfl := Option.some.inj hf
      exact z_iret hX hr rfl (zl rfl) (zl rfl) dL_astray_14
    · replace hf := zif_neg h2 hf
      exact zno hf
  refine z_callV1 hX ok_X11_astray q1267 q1268 q1269 (zrm_ok hR (by decide)) (ct_X11_astray h1) (zrec_Post hX zq_0) dL_astray_4 rfl rfl ?_
  refine z_i2l hX dL_astray_7 ?_
  replace hf := zchk_some hf
  obtain ⟨h3, hf⟩ := hf
  replace hf := zput_some hf
  obtain ⟨g4, eg4, hf⟩ := hf
  refine z_last hX zq_508 rfl h3 dL_astray_8 (zW.eqg eg4 ?_)
  refine z_goto hX 15 dL_astray_9 (by decide) ?_
  refine z_iconst hX dL_astray_15 ci_0 ?_
  obtain rfl := Option.some.inj hf
  exact z_iret hX hr rfl (zl rfl) (zl rfl) dL_astray_16
set_option maxHeartbeats 4000000 in
set_option maxRecDepth 100000 in
theorem ct_L_astray {E : zE} {v1 : Int32} {g : zM} {r : Int32 × zM} (hf : fL_astray v1 g = some r) : zCtW yL_astray cL_astray 4 (some .int) [(0, 9, 12, 24)] 5 1 E [.ref (E.1 + 0), .int v1, .ref (E.1 + 508)] g (some (.int r.1)) r.2 := by
  refine zmetW (by decide) (zl rfl) (fun X hE hX hTb hR hr hn => ?_)
  subst hE
  exact fL_astray_ok hX hTb hR hr hn hf
def fL_written (v1 : Int32) (g : zM) : Option (Int32 × zM) := zb3w (fX11_written v1 g) (fun r_1 g1 => zchk 0 1 (zput g1 508 (0 : Int32).toNatClampNeg r_1 (fun g4 => some (0, g4)))) (fun c1 g1 => if c1 = 1 then some (1, g1) else none)
theorem okw_L_written : zOKW yL_written cL_written 4 (some .int) [(0, 9, 12, 24)] 3 := ⟨q1278, q114, by decide, by decide, by decide +kernel⟩
set_option maxHeartbeats 4000000 in
set_option maxRecDepth 100000 in
theorem fL_written_ok {X : zX} (hX : zCX X cL_written RL) (hTb : zTab X [(0, 9, 12, 24)]) (hR : X.2.2.2.1 = zrm 5 1) (hr : X.2.2.2.2.2.2.2.2.1.sig.returnType = (some .int)) (hn : X.2.2.2.2.2.2.2.2.2.1.maxLocals = 4) {v1 : Int32} {g : zM} {r : Int32 × zM} (hf : fL_written v1 g = some r) : zW X (zQ X (.inl (some (.int r.1), r.2)) 1) 0 0 0 [(0, .ref (zB X + 0)), (1, .int v1), (2, .ref (zB X + 508))] [] g := by
  unfold fL_written at hf
  refine z_aload_n hX dL_written_0 2 rfl ?_
  refine z_iconst hX dL_written_1 ci_0 ?_
  refine z_aload_n hX dL_written_2 0 rfl ?_
  refine z_iload_n hX dL_written_3 1 rfl ?_
  replace hf := zb3w_some hf
  rcases hf with ⟨c1, g1, h1, hf⟩ | ⟨r_1, g1, h1, hf⟩
  · by_cases h2 : c1 = 1
    · replace hf := zif_pos h2 hf
      subst h2
      refine z_callV_c hX ok_X11_written q1279 q1280 q1281 (zrm_ok hR (by decide)) (ct_X11_written h1) (zrec_Post hX zq_0) dL_written_4 rfl rfl ?_
      refine z_catch hX hTb [] [] rfl (fun z hz => absurd hz List.not_mem_nil) (by decide) (by decide) q968 qn984 (fun q9 => ?_)
      refine z_astore_n (lv' := [(3, .ref q9), (0, .ref (zB X + 0)), (1, .int v1), (2, .ref (zB X + 508))]) hX dL_written_12 hn (by decide) rfl ?_
      refine z_iconst hX dL_written_13 ci_1 ?_
      obtain rfl := Option.some.inj hf
      exact z_iret hX hr rfl (zl rfl) (zl rfl) dL_written_14
    · replace hf := zif_neg h2 hf
      exact zno hf
  refine z_callV1 hX ok_X11_written q1279 q1280 q1281 (zrm_ok hR (by decide)) (ct_X11_written h1) (zrec_Post hX zq_0) dL_written_4 rfl rfl ?_
  refine z_i2l hX dL_written_7 ?_
  replace hf := zchk_some hf
  obtain ⟨h3, hf⟩ := hf
  replace hf := zput_some hf
  obtain ⟨g4, eg4, hf⟩ := hf
  refine z_last hX zq_508 rfl h3 dL_written_8 (zW.eqg eg4 ?_)
  refine z_goto hX 15 dL_written_9 (by decide) ?_
  refine z_iconst hX dL_written_15 ci_0 ?_
  obtain rfl := Option.some.inj hf
  exact z_iret hX hr rfl (zl rfl) (zl rfl) dL_written_16
set_option maxHeartbeats 4000000 in
set_option maxRecDepth 100000 in
theorem ct_L_written {E : zE} {v1 : Int32} {g : zM} {r : Int32 × zM} (hf : fL_written v1 g = some r) : zCtW yL_written cL_written 4 (some .int) [(0, 9, 12, 24)] 5 1 E [.ref (E.1 + 0), .int v1, .ref (E.1 + 508)] g (some (.int r.1)) r.2 := by
  refine zmetW (by decide) (zl rfl) (fun X hE hX hTb hR hr hn => ?_)
  subst hE
  exact fL_written_ok hX hTb hR hr hn hf
def fL_senseless (v1 : Int32) (g : zM) : Option (Int32 × zM) := zb3w (fX11_senseless v1 g) (fun r_1 g1 => zchk 0 1 (zput g1 508 (0 : Int32).toNatClampNeg r_1 (fun g4 => some (0, g4)))) (fun c1 g1 => if c1 = 1 then some (1, g1) else none)
theorem okw_L_senseless : zOKW yL_senseless cL_senseless 4 (some .int) [(0, 9, 12, 24)] 3 := ⟨q1285, q114, by decide, by decide, by decide +kernel⟩
set_option maxHeartbeats 4000000 in
set_option maxRecDepth 100000 in
theorem fL_senseless_ok {X : zX} (hX : zCX X cL_senseless RL) (hTb : zTab X [(0, 9, 12, 24)]) (hR : X.2.2.2.1 = zrm 3 1) (hr : X.2.2.2.2.2.2.2.2.1.sig.returnType = (some .int)) (hn : X.2.2.2.2.2.2.2.2.2.1.maxLocals = 4) {v1 : Int32} {g : zM} {r : Int32 × zM} (hf : fL_senseless v1 g = some r) : zW X (zQ X (.inl (some (.int r.1), r.2)) 1) 0 0 0 [(0, .ref (zB X + 0)), (1, .int v1), (2, .ref (zB X + 508))] [] g := by
  unfold fL_senseless at hf
  refine z_aload_n hX dL_senseless_0 2 rfl ?_
  refine z_iconst hX dL_senseless_1 ci_0 ?_
  refine z_aload_n hX dL_senseless_2 0 rfl ?_
  refine z_iload_n hX dL_senseless_3 1 rfl ?_
  replace hf := zb3w_some hf
  rcases hf with ⟨c1, g1, h1, hf⟩ | ⟨r_1, g1, h1, hf⟩
  · by_cases h2 : c1 = 1
    · replace hf := zif_pos h2 hf
      subst h2
      refine z_callV_c hX ok_X11_senseless q1286 q1287 q1288 (zrm_ok hR (by decide)) (ct_X11_senseless h1) (zrec_Post hX zq_0) dL_senseless_4 rfl rfl ?_
      refine z_catch hX hTb [] [] rfl (fun z hz => absurd hz List.not_mem_nil) (by decide) (by decide) q968 qn984 (fun q9 => ?_)
      refine z_astore_n (lv' := [(3, .ref q9), (0, .ref (zB X + 0)), (1, .int v1), (2, .ref (zB X + 508))]) hX dL_senseless_12 hn (by decide) rfl ?_
      refine z_iconst hX dL_senseless_13 ci_1 ?_
      obtain rfl := Option.some.inj hf
      exact z_iret hX hr rfl (zl rfl) (zl rfl) dL_senseless_14
    · replace hf := zif_neg h2 hf
      exact zno hf
  refine z_callV1 hX ok_X11_senseless q1286 q1287 q1288 (zrm_ok hR (by decide)) (ct_X11_senseless h1) (zrec_Post hX zq_0) dL_senseless_4 rfl rfl ?_
  refine z_i2l hX dL_senseless_7 ?_
  replace hf := zchk_some hf
  obtain ⟨h3, hf⟩ := hf
  replace hf := zput_some hf
  obtain ⟨g4, eg4, hf⟩ := hf
  refine z_last hX zq_508 rfl h3 dL_senseless_8 (zW.eqg eg4 ?_)
  refine z_goto hX 15 dL_senseless_9 (by decide) ?_
  refine z_iconst hX dL_senseless_15 ci_0 ?_
  obtain rfl := Option.some.inj hf
  exact z_iret hX hr rfl (zl rfl) (zl rfl) dL_senseless_16
set_option maxHeartbeats 4000000 in
set_option maxRecDepth 100000 in
theorem ct_L_senseless {E : zE} {v1 : Int32} {g : zM} {r : Int32 × zM} (hf : fL_senseless v1 g = some r) : zCtW yL_senseless cL_senseless 4 (some .int) [(0, 9, 12, 24)] 3 1 E [.ref (E.1 + 0), .int v1, .ref (E.1 + 508)] g (some (.int r.1)) r.2 := by
  refine zmetW (by decide) (zl rfl) (fun X hE hX hTb hR hr hn => ?_)
  subst hE
  exact fL_senseless_ok hX hTb hR hr hn hf
def fL_meet (v1 : Int32) (v2 : Int32) (v3 : Int32) (g : zM) : Option (Int32 × zM) := zb3w (fX11_meet v1 v2 v3 g) (fun r_1 g1 => zchk 0 1 (zput g1 508 (0 : Int32).toNatClampNeg r_1 (fun g5 => some (0, g5)))) (fun c1 g1 => if c1 = 1 then some (1, g1) else if c1 = 2 then some (2, g1) else none)
theorem okw_L_meet : zOKW yL_meet cL_meet 6 (some .int) [(0, 12, 15, 24), (0, 12, 19, 13)] 5 := ⟨q1296, q114, by decide, by decide, by decide +kernel⟩
set_option maxHeartbeats 4000000 in
set_option maxRecDepth 100000 in
theorem fL_meet_ok {X : zX} (hX : zCX X cL_meet RL) (hTb : zTab X [(0, 12, 15, 24), (0, 12, 19, 13)]) (hR : X.2.2.2.1 = zrm 8 3) (hr : X.2.2.2.2.2.2.2.2.1.sig.returnType = (some .int)) (hn : X.2.2.2.2.2.2.2.2.2.1.maxLocals = 6) {v1 : Int32} {v2 : Int32} {v3 : Int32} {g : zM} {r : Int32 × zM} (hf : fL_meet v1 v2 v3 g = some r) : zW X (zQ X (.inl (some (.int r.1), r.2)) 3) 0 0 0 [(0, .ref (zB X + 0)), (1, .int v1), (2, .int v2), (3, .int v3), (4, .ref (zB X + 508))] [] g := by
  unfold fL_meet at hf
  refine z_aload hX dL_meet_0 4 rfl ?_
  refine z_iconst hX dL_meet_2 ci_0 ?_
  refine z_aload_n hX dL_meet_3 0 rfl ?_
  refine z_iload_n hX dL_meet_4 1 rfl ?_
  refine z_iload_n hX dL_meet_5 2 rfl ?_
  refine z_iload_n hX dL_meet_6 3 rfl ?_
  replace hf := zb3w_some hf
  rcases hf with ⟨c1, g1, h1, hf⟩ | ⟨r_1, g1, h1, hf⟩
  · by_cases h2 : c1 = 1
    · replace hf := zif_pos h2 hf
      subst h2
      refine z_callV_c hX ok_X11_meet q1297 q1298 q1299 (zrm_ok hR (by decide)) (ct_X11_meet h1) (zrec_Post hX zq_0) dL_meet_7 rfl rfl ?_
      refine z_catch hX hTb [] [(0, 12, 19, 13)] rfl (fun z hz => absurd hz List.not_mem_nil) (by decide) (by decide) q968 qn984 (fun q9 => ?_)
      refine z_astore (lv' := [(5, .ref q9), (0, .ref (zB X + 0)), (1, .int v1), (2, .int v2), (3, .int v3), (4, .ref (zB X + 508))]) hX dL_meet_15 hn (by decide) rfl ?_
      refine z_iconst hX dL_meet_17 ci_1 ?_
      obtain rfl := Option.some.inj hf
      exact z_iret hX hr rfl (zl rfl) (zl rfl) dL_meet_18
    · replace hf := zif_neg h2 hf
      by_cases h3 : c1 = 2
      · replace hf := zif_pos h3 hf
        subst h3
        refine z_callV_c hX ok_X11_meet q1297 q1298 q1299 (zrm_ok hR (by decide)) (ct_X11_meet h1) (zrec_Post hX zq_0) dL_meet_7 rfl rfl ?_
        refine z_catch hX hTb [(0, 12, 15, 24)] [] rfl (zpass1 ⟨by decide, _, q968, by decide⟩) (by decide) (by decide) q647 qn865 (fun q9 => ?_)
        refine z_astore (lv' := [(5, .ref q9), (0, .ref (zB X + 0)), (1, .int v1), (2, .int v2), (3, .int v3), (4, .ref (zB X + 508))]) hX dL_meet_19 hn (by decide) rfl ?_
        refine z_iconst hX dL_meet_21 ci_2 ?_
        obtain rfl := Option.some.inj hf
        exact z_iret hX hr rfl (zl rfl) (zl rfl) dL_meet_22
      · replace hf := zif_neg h3 hf
        exact zno hf
  refine z_callV1 hX ok_X11_meet q1297 q1298 q1299 (zrm_ok hR (by decide)) (ct_X11_meet h1) (zrec_Post hX zq_0) dL_meet_7 rfl rfl ?_
  refine z_i2l hX dL_meet_10 ?_
  replace hf := zchk_some hf
  obtain ⟨h4, hf⟩ := hf
  replace hf := zput_some hf
  obtain ⟨g5, eg5, hf⟩ := hf
  refine z_last hX zq_508 rfl h4 dL_meet_11 (zW.eqg eg5 ?_)
  refine z_goto hX 23 dL_meet_12 (by decide) ?_
  refine z_iconst hX dL_meet_23 ci_0 ?_
  obtain rfl := Option.some.inj hf
  exact z_iret hX hr rfl (zl rfl) (zl rfl) dL_meet_24
set_option maxHeartbeats 4000000 in
set_option maxRecDepth 100000 in
theorem ct_L_meet {E : zE} {v1 : Int32} {v2 : Int32} {v3 : Int32} {g : zM} {r : Int32 × zM} (hf : fL_meet v1 v2 v3 g = some r) : zCtW yL_meet cL_meet 6 (some .int) [(0, 12, 15, 24), (0, 12, 19, 13)] 8 3 E [.ref (E.1 + 0), .int v1, .int v2, .int v3, .ref (E.1 + 508)] g (some (.int r.1)) r.2 := by
  refine zmetW (by decide) (zl rfl) (fun X hE hX hTb hR hr hn => ?_)
  subst hE
  exact fL_meet_ok hX hTb hR hr hn hf
def fL_part (v1 : Int32) (v2 : Int32) (g : zM) : Option (Int32 × zM) := zb3w (fX11_part v1 v2 g) (fun r_1 g1 => zchk 0 1 (zput g1 508 (0 : Int32).toNatClampNeg r_1 (fun g5 => some (0, g5)))) (fun c1 g1 => if c1 = 1 then some (1, g1) else if c1 = 2 then some (2, g1) else none)
theorem okw_L_part : zOKW yL_part cL_part 5 (some .int) [(0, 10, 13, 24), (0, 10, 17, 13)] 4 := ⟨q1314, q114, by decide, by decide, by decide +kernel⟩
set_option maxHeartbeats 4000000 in
set_option maxRecDepth 100000 in
theorem fL_part_ok {X : zX} (hX : zCX X cL_part RL) (hTb : zTab X [(0, 10, 13, 24), (0, 10, 17, 13)]) (hR : X.2.2.2.1 = zrm 7 3) (hr : X.2.2.2.2.2.2.2.2.1.sig.returnType = (some .int)) (hn : X.2.2.2.2.2.2.2.2.2.1.maxLocals = 5) {v1 : Int32} {v2 : Int32} {g : zM} {r : Int32 × zM} (hf : fL_part v1 v2 g = some r) : zW X (zQ X (.inl (some (.int r.1), r.2)) 3) 0 0 0 [(0, .ref (zB X + 0)), (1, .int v1), (2, .int v2), (3, .ref (zB X + 508))] [] g := by
  unfold fL_part at hf
  refine z_aload_n hX dL_part_0 3 rfl ?_
  refine z_iconst hX dL_part_1 ci_0 ?_
  refine z_aload_n hX dL_part_2 0 rfl ?_
  refine z_iload_n hX dL_part_3 1 rfl ?_
  refine z_iload_n hX dL_part_4 2 rfl ?_
  replace hf := zb3w_some hf
  rcases hf with ⟨c1, g1, h1, hf⟩ | ⟨r_1, g1, h1, hf⟩
  · by_cases h2 : c1 = 1
    · replace hf := zif_pos h2 hf
      subst h2
      refine z_callV_c hX ok_X11_part q1315 q1316 q1317 (zrm_ok hR (by decide)) (ct_X11_part h1) (zrec_Post hX zq_0) dL_part_5 rfl rfl ?_
      refine z_catch hX hTb [] [(0, 10, 17, 13)] rfl (fun z hz => absurd hz List.not_mem_nil) (by decide) (by decide) q968 qn984 (fun q9 => ?_)
      refine z_astore (lv' := [(4, .ref q9), (0, .ref (zB X + 0)), (1, .int v1), (2, .int v2), (3, .ref (zB X + 508))]) hX dL_part_13 hn (by decide) rfl ?_
      refine z_iconst hX dL_part_15 ci_1 ?_
      obtain rfl := Option.some.inj hf
      exact z_iret hX hr rfl (zl rfl) (zl rfl) dL_part_16
    · replace hf := zif_neg h2 hf
      by_cases h3 : c1 = 2
      · replace hf := zif_pos h3 hf
        subst h3
        refine z_callV_c hX ok_X11_part q1315 q1316 q1317 (zrm_ok hR (by decide)) (ct_X11_part h1) (zrec_Post hX zq_0) dL_part_5 rfl rfl ?_
        refine z_catch hX hTb [(0, 10, 13, 24)] [] rfl (zpass1 ⟨by decide, _, q968, by decide⟩) (by decide) (by decide) q647 qn865 (fun q9 => ?_)
        refine z_astore (lv' := [(4, .ref q9), (0, .ref (zB X + 0)), (1, .int v1), (2, .int v2), (3, .ref (zB X + 508))]) hX dL_part_17 hn (by decide) rfl ?_
        refine z_iconst hX dL_part_19 ci_2 ?_
        obtain rfl := Option.some.inj hf
        exact z_iret hX hr rfl (zl rfl) (zl rfl) dL_part_20
      · replace hf := zif_neg h3 hf
        exact zno hf
  refine z_callV1 hX ok_X11_part q1315 q1316 q1317 (zrm_ok hR (by decide)) (ct_X11_part h1) (zrec_Post hX zq_0) dL_part_5 rfl rfl ?_
  refine z_i2l hX dL_part_8 ?_
  replace hf := zchk_some hf
  obtain ⟨h4, hf⟩ := hf
  replace hf := zput_some hf
  obtain ⟨g5, eg5, hf⟩ := hf
  refine z_last hX zq_508 rfl h4 dL_part_9 (zW.eqg eg5 ?_)
  refine z_goto hX 21 dL_part_10 (by decide) ?_
  refine z_iconst hX dL_part_21 ci_0 ?_
  obtain rfl := Option.some.inj hf
  exact z_iret hX hr rfl (zl rfl) (zl rfl) dL_part_22
set_option maxHeartbeats 4000000 in
set_option maxRecDepth 100000 in
theorem ct_L_part {E : zE} {v1 : Int32} {v2 : Int32} {g : zM} {r : Int32 × zM} (hf : fL_part v1 v2 g = some r) : zCtW yL_part cL_part 5 (some .int) [(0, 10, 13, 24), (0, 10, 17, 13)] 7 3 E [.ref (E.1 + 0), .int v1, .int v2, .ref (E.1 + 508)] g (some (.int r.1)) r.2 := by
  refine zmetW (by decide) (zl rfl) (fun X hE hX hTb hR hr hn => ?_)
  subst hE
  exact fL_part_ok hX hTb hR hr hn hf
def fL_bound (v1 : Int32) (v2 : Int32) (g : zM) : Option (Int32 × zM) := zb3w (fX11_bound v1 v2 g) (fun r_1 g1 => zchk 0 1 (zput g1 508 (0 : Int32).toNatClampNeg r_1 (fun g5 => some (0, g5)))) (fun c1 g1 => if c1 = 1 then some (1, g1) else if c1 = 2 then some (2, g1) else none)
theorem okw_L_bound : zOKW yL_bound cL_bound 5 (some .int) [(0, 10, 13, 24), (0, 10, 17, 13)] 4 := ⟨q1321, q114, by decide, by decide, by decide +kernel⟩
set_option maxHeartbeats 4000000 in
set_option maxRecDepth 100000 in
theorem fL_bound_ok {X : zX} (hX : zCX X cL_bound RL) (hTb : zTab X [(0, 10, 13, 24), (0, 10, 17, 13)]) (hR : X.2.2.2.1 = zrm 8 2) (hr : X.2.2.2.2.2.2.2.2.1.sig.returnType = (some .int)) (hn : X.2.2.2.2.2.2.2.2.2.1.maxLocals = 5) {v1 : Int32} {v2 : Int32} {g : zM} {r : Int32 × zM} (hf : fL_bound v1 v2 g = some r) : zW X (zQ X (.inl (some (.int r.1), r.2)) 2) 0 0 0 [(0, .ref (zB X + 0)), (1, .int v1), (2, .int v2), (3, .ref (zB X + 508))] [] g := by
  unfold fL_bound at hf
  refine z_aload_n hX dL_bound_0 3 rfl ?_
  refine z_iconst hX dL_bound_1 ci_0 ?_
  refine z_aload_n hX dL_bound_2 0 rfl ?_
  refine z_iload_n hX dL_bound_3 1 rfl ?_
  refine z_iload_n hX dL_bound_4 2 rfl ?_
  replace hf := zb3w_some hf
  rcases hf with ⟨c1, g1, h1, hf⟩ | ⟨r_1, g1, h1, hf⟩
  · by_cases h2 : c1 = 1
    · replace hf := zif_pos h2 hf
      subst h2
      refine z_callV_c hX ok_X11_bound q1322 q1323 q1324 (zrm_ok hR (by decide)) (ct_X11_bound h1) (zrec_Post hX zq_0) dL_bound_5 rfl rfl ?_
      refine z_catch hX hTb [] [(0, 10, 17, 13)] rfl (fun z hz => absurd hz List.not_mem_nil) (by decide) (by decide) q968 qn984 (fun q9 => ?_)
      refine z_astore (lv' := [(4, .ref q9), (0, .ref (zB X + 0)), (1, .int v1), (2, .int v2), (3, .ref (zB X + 508))]) hX dL_bound_13 hn (by decide) rfl ?_
      refine z_iconst hX dL_bound_15 ci_1 ?_
      obtain rfl := Option.some.inj hf
      exact z_iret hX hr rfl (zl rfl) (zl rfl) dL_bound_16
    · replace hf := zif_neg h2 hf
      by_cases h3 : c1 = 2
      · replace hf := zif_pos h3 hf
        subst h3
        refine z_callV_c hX ok_X11_bound q1322 q1323 q1324 (zrm_ok hR (by decide)) (ct_X11_bound h1) (zrec_Post hX zq_0) dL_bound_5 rfl rfl ?_
        refine z_catch hX hTb [(0, 10, 13, 24)] [] rfl (zpass1 ⟨by decide, _, q968, by decide⟩) (by decide) (by decide) q647 qn865 (fun q9 => ?_)
        refine z_astore (lv' := [(4, .ref q9), (0, .ref (zB X + 0)), (1, .int v1), (2, .int v2), (3, .ref (zB X + 508))]) hX dL_bound_17 hn (by decide) rfl ?_
        refine z_iconst hX dL_bound_19 ci_2 ?_
        obtain rfl := Option.some.inj hf
        exact z_iret hX hr rfl (zl rfl) (zl rfl) dL_bound_20
      · replace hf := zif_neg h3 hf
        exact zno hf
  refine z_callV1 hX ok_X11_bound q1322 q1323 q1324 (zrm_ok hR (by decide)) (ct_X11_bound h1) (zrec_Post hX zq_0) dL_bound_5 rfl rfl ?_
  refine z_i2l hX dL_bound_8 ?_
  replace hf := zchk_some hf
  obtain ⟨h4, hf⟩ := hf
  replace hf := zput_some hf
  obtain ⟨g5, eg5, hf⟩ := hf
  refine z_last hX zq_508 rfl h4 dL_bound_9 (zW.eqg eg5 ?_)
  refine z_goto hX 21 dL_bound_10 (by decide) ?_
  refine z_iconst hX dL_bound_21 ci_0 ?_
  obtain rfl := Option.some.inj hf
  exact z_iret hX hr rfl (zl rfl) (zl rfl) dL_bound_22
set_option maxHeartbeats 4000000 in
set_option maxRecDepth 100000 in
theorem ct_L_bound {E : zE} {v1 : Int32} {v2 : Int32} {g : zM} {r : Int32 × zM} (hf : fL_bound v1 v2 g = some r) : zCtW yL_bound cL_bound 5 (some .int) [(0, 10, 13, 24), (0, 10, 17, 13)] 8 2 E [.ref (E.1 + 0), .int v1, .int v2, .ref (E.1 + 508)] g (some (.int r.1)) r.2 := by
  refine zmetW (by decide) (zl rfl) (fun X hE hX hTb hR hr hn => ?_)
  subst hE
  exact fL_bound_ok hX hTb hR hr hn hf
def fL_when (v1 : Int32) (v2 : Int32) (g : zM) : Option (Int32 × zM) := zb3w (fX11_when v1 v2 g) (fun r_1 g1 => zchk 0 1 (zput g1 508 (0 : Int32).toNatClampNeg r_1 (fun g4 => some (0, g4)))) (fun c1 g1 => if c1 = 1 then some (1, g1) else none)
theorem okw_L_when : zOKW yL_when cL_when 5 (some .int) [(0, 10, 13, 24)] 4 := ⟨q1336, q114, by decide, by decide, by decide +kernel⟩
set_option maxHeartbeats 4000000 in
set_option maxRecDepth 100000 in
theorem fL_when_ok {X : zX} (hX : zCX X cL_when RL) (hTb : zTab X [(0, 10, 13, 24)]) (hR : X.2.2.2.1 = zrm 9 2) (hr : X.2.2.2.2.2.2.2.2.1.sig.returnType = (some .int)) (hn : X.2.2.2.2.2.2.2.2.2.1.maxLocals = 5) {v1 : Int32} {v2 : Int32} {g : zM} {r : Int32 × zM} (hf : fL_when v1 v2 g = some r) : zW X (zQ X (.inl (some (.int r.1), r.2)) 2) 0 0 0 [(0, .ref (zB X + 0)), (1, .int v1), (2, .int v2), (3, .ref (zB X + 508))] [] g := by
  unfold fL_when at hf
  refine z_aload_n hX dL_when_0 3 rfl ?_
  refine z_iconst hX dL_when_1 ci_0 ?_
  refine z_aload_n hX dL_when_2 0 rfl ?_
  refine z_iload_n hX dL_when_3 1 rfl ?_
  refine z_iload_n hX dL_when_4 2 rfl ?_
  replace hf := zb3w_some hf
  rcases hf with ⟨c1, g1, h1, hf⟩ | ⟨r_1, g1, h1, hf⟩
  · by_cases h2 : c1 = 1
    · replace hf := zif_pos h2 hf
      subst h2
      refine z_callV_c hX ok_X11_when q1337 q1338 q1339 (zrm_ok hR (by decide)) (ct_X11_when h1) (zrec_Post hX zq_0) dL_when_5 rfl rfl ?_
      refine z_catch hX hTb [] [] rfl (fun z hz => absurd hz List.not_mem_nil) (by decide) (by decide) q968 qn984 (fun q9 => ?_)
      refine z_astore (lv' := [(4, .ref q9), (0, .ref (zB X + 0)), (1, .int v1), (2, .int v2), (3, .ref (zB X + 508))]) hX dL_when_13 hn (by decide) rfl ?_
      refine z_iconst hX dL_when_15 ci_1 ?_
      obtain rfl := Option.some.inj hf
      exact z_iret hX hr rfl (zl rfl) (zl rfl) dL_when_16
    · replace hf := zif_neg h2 hf
      exact zno hf
  refine z_callV1 hX ok_X11_when q1337 q1338 q1339 (zrm_ok hR (by decide)) (ct_X11_when h1) (zrec_Post hX zq_0) dL_when_5 rfl rfl ?_
  refine z_i2l hX dL_when_8 ?_
  replace hf := zchk_some hf
  obtain ⟨h3, hf⟩ := hf
  replace hf := zput_some hf
  obtain ⟨g4, eg4, hf⟩ := hf
  refine z_last hX zq_508 rfl h3 dL_when_9 (zW.eqg eg4 ?_)
  refine z_goto hX 17 dL_when_10 (by decide) ?_
  refine z_iconst hX dL_when_17 ci_0 ?_
  obtain rfl := Option.some.inj hf
  exact z_iret hX hr rfl (zl rfl) (zl rfl) dL_when_18
set_option maxHeartbeats 4000000 in
set_option maxRecDepth 100000 in
theorem ct_L_when {E : zE} {v1 : Int32} {v2 : Int32} {g : zM} {r : Int32 × zM} (hf : fL_when v1 v2 g = some r) : zCtW yL_when cL_when 5 (some .int) [(0, 10, 13, 24)] 9 2 E [.ref (E.1 + 0), .int v1, .int v2, .ref (E.1 + 508)] g (some (.int r.1)) r.2 := by
  refine zmetW (by decide) (zl rfl) (fun X hE hX hTb hR hr hn => ?_)
  subst hE
  exact fL_when_ok hX hTb hR hr hn hf
def fL_soonest (v1 : Int32) (g : zM) : Option (Int32 × zM) := zb3w (fX11_soonest v1 g) (fun r_1 g1 => zchk 0 1 (zput g1 508 (0 : Int32).toNatClampNeg r_1 (fun g4 => some (0, g4)))) (fun c1 g1 => if c1 = 1 then some (1, g1) else none)
theorem okw_L_soonest : zOKW yL_soonest cL_soonest 4 (some .int) [(0, 9, 12, 24)] 3 := ⟨q1347, q114, by decide, by decide, by decide +kernel⟩
set_option maxHeartbeats 4000000 in
set_option maxRecDepth 100000 in
theorem fL_soonest_ok {X : zX} (hX : zCX X cL_soonest RL) (hTb : zTab X [(0, 9, 12, 24)]) (hR : X.2.2.2.1 = zrm 9 1) (hr : X.2.2.2.2.2.2.2.2.1.sig.returnType = (some .int)) (hn : X.2.2.2.2.2.2.2.2.2.1.maxLocals = 4) {v1 : Int32} {g : zM} {r : Int32 × zM} (hf : fL_soonest v1 g = some r) : zW X (zQ X (.inl (some (.int r.1), r.2)) 1) 0 0 0 [(0, .ref (zB X + 0)), (1, .int v1), (2, .ref (zB X + 508))] [] g := by
  unfold fL_soonest at hf
  refine z_aload_n hX dL_soonest_0 2 rfl ?_
  refine z_iconst hX dL_soonest_1 ci_0 ?_
  refine z_aload_n hX dL_soonest_2 0 rfl ?_
  refine z_iload_n hX dL_soonest_3 1 rfl ?_
  replace hf := zb3w_some hf
  rcases hf with ⟨c1, g1, h1, hf⟩ | ⟨r_1, g1, h1, hf⟩
  · by_cases h2 : c1 = 1
    · replace hf := zif_pos h2 hf
      subst h2
      refine z_callV_c hX ok_X11_soonest q1348 q1349 q1350 (zrm_ok hR (by decide)) (ct_X11_soonest h1) (zrec_Post hX zq_0) dL_soonest_4 rfl rfl ?_
      refine z_catch hX hTb [] [] rfl (fun z hz => absurd hz List.not_mem_nil) (by decide) (by decide) q968 qn984 (fun q9 => ?_)
      refine z_astore_n (lv' := [(3, .ref q9), (0, .ref (zB X + 0)), (1, .int v1), (2, .ref (zB X + 508))]) hX dL_soonest_12 hn (by decide) rfl ?_
      refine z_iconst hX dL_soonest_13 ci_1 ?_
      obtain rfl := Option.some.inj hf
      exact z_iret hX hr rfl (zl rfl) (zl rfl) dL_soonest_14
    · replace hf := zif_neg h2 hf
      exact zno hf
  refine z_callV1 hX ok_X11_soonest q1348 q1349 q1350 (zrm_ok hR (by decide)) (ct_X11_soonest h1) (zrec_Post hX zq_0) dL_soonest_4 rfl rfl ?_
  refine z_i2l hX dL_soonest_7 ?_
  replace hf := zchk_some hf
  obtain ⟨h3, hf⟩ := hf
  replace hf := zput_some hf
  obtain ⟨g4, eg4, hf⟩ := hf
  refine z_last hX zq_508 rfl h3 dL_soonest_8 (zW.eqg eg4 ?_)
  refine z_goto hX 15 dL_soonest_9 (by decide) ?_
  refine z_iconst hX dL_soonest_15 ci_0 ?_
  obtain rfl := Option.some.inj hf
  exact z_iret hX hr rfl (zl rfl) (zl rfl) dL_soonest_16
set_option maxHeartbeats 4000000 in
set_option maxRecDepth 100000 in
theorem ct_L_soonest {E : zE} {v1 : Int32} {g : zM} {r : Int32 × zM} (hf : fL_soonest v1 g = some r) : zCtW yL_soonest cL_soonest 4 (some .int) [(0, 9, 12, 24)] 9 1 E [.ref (E.1 + 0), .int v1, .ref (E.1 + 508)] g (some (.int r.1)) r.2 := by
  refine zmetW (by decide) (zl rfl) (fun X hE hX hTb hR hr hn => ?_)
  subst hE
  exact fL_soonest_ok hX hTb hR hr hn hf
def fL_guess (v1 : Int32) (g : zM) : Option (Int32 × zM) := zb3w (fX11_guess v1 g) (fun r_1 g1 => zchk 0 1 (zput g1 508 (0 : Int32).toNatClampNeg r_1 (fun g4 => some (0, g4)))) (fun c1 g1 => if c1 = 1 then some (1, g1) else none)
theorem okw_L_guess : zOKW yL_guess cL_guess 4 (some .int) [(0, 9, 12, 24)] 3 := ⟨q1354, q114, by decide, by decide, by decide +kernel⟩
set_option maxHeartbeats 4000000 in
set_option maxRecDepth 100000 in
theorem fL_guess_ok {X : zX} (hX : zCX X cL_guess RL) (hTb : zTab X [(0, 9, 12, 24)]) (hR : X.2.2.2.1 = zrm 3 1) (hr : X.2.2.2.2.2.2.2.2.1.sig.returnType = (some .int)) (hn : X.2.2.2.2.2.2.2.2.2.1.maxLocals = 4) {v1 : Int32} {g : zM} {r : Int32 × zM} (hf : fL_guess v1 g = some r) : zW X (zQ X (.inl (some (.int r.1), r.2)) 1) 0 0 0 [(0, .ref (zB X + 0)), (1, .int v1), (2, .ref (zB X + 508))] [] g := by
  unfold fL_guess at hf
  refine z_aload_n hX dL_guess_0 2 rfl ?_
  refine z_iconst hX dL_guess_1 ci_0 ?_
  refine z_aload_n hX dL_guess_2 0 rfl ?_
  refine z_iload_n hX dL_guess_3 1 rfl ?_
  replace hf := zb3w_some hf
  rcases hf with ⟨c1, g1, h1, hf⟩ | ⟨r_1, g1, h1, hf⟩
  · by_cases h2 : c1 = 1
    · replace hf := zif_pos h2 hf
      subst h2
      refine z_callV_c hX ok_X11_guess q1355 q1356 q1357 (zrm_ok hR (by decide)) (ct_X11_guess h1) (zrec_Post hX zq_0) dL_guess_4 rfl rfl ?_
      refine z_catch hX hTb [] [] rfl (fun z hz => absurd hz List.not_mem_nil) (by decide) (by decide) q968 qn984 (fun q9 => ?_)
      refine z_astore_n (lv' := [(3, .ref q9), (0, .ref (zB X + 0)), (1, .int v1), (2, .ref (zB X + 508))]) hX dL_guess_12 hn (by decide) rfl ?_
      refine z_iconst hX dL_guess_13 ci_1 ?_
      obtain rfl := Option.some.inj hf
      exact z_iret hX hr rfl (zl rfl) (zl rfl) dL_guess_14
    · replace hf := zif_neg h2 hf
      exact zno hf
  refine z_callV1 hX ok_X11_guess q1355 q1356 q1357 (zrm_ok hR (by decide)) (ct_X11_guess h1) (zrec_Post hX zq_0) dL_guess_4 rfl rfl ?_
  refine z_i2l hX dL_guess_7 ?_
  replace hf := zchk_some hf
  obtain ⟨h3, hf⟩ := hf
  replace hf := zput_some hf
  obtain ⟨g4, eg4, hf⟩ := hf
  refine z_last hX zq_508 rfl h3 dL_guess_8 (zW.eqg eg4 ?_)
  refine z_goto hX 15 dL_guess_9 (by decide) ?_
  refine z_iconst hX dL_guess_15 ci_0 ?_
  obtain rfl := Option.some.inj hf
  exact z_iret hX hr rfl (zl rfl) (zl rfl) dL_guess_16
set_option maxHeartbeats 4000000 in
set_option maxRecDepth 100000 in
theorem ct_L_guess {E : zE} {v1 : Int32} {g : zM} {r : Int32 × zM} (hf : fL_guess v1 g = some r) : zCtW yL_guess cL_guess 4 (some .int) [(0, 9, 12, 24)] 3 1 E [.ref (E.1 + 0), .int v1, .ref (E.1 + 508)] g (some (.int r.1)) r.2 := by
  refine zmetW (by decide) (zl rfl) (fun X hE hX hTb hR hr hn => ?_)
  subst hE
  exact fL_guess_ok hX hTb hR hr hn hf
def fL_postage (v1 : Int32) (v2 : Int32) (v3 : Int32) (g : zM) : Option (Int32 × zM) := zb3w (fX11_postage v1 v2 v3 g) (fun r_1 g1 => zchk 0 1 (zput g1 508 (0 : Int32).toNatClampNeg r_1 (fun g5 => some (0, g5)))) (fun c1 g1 => if c1 = 1 then some (1, g1) else if c1 = 2 then some (2, g1) else none)
theorem okw_L_postage : zOKW yL_postage cL_postage 6 (some .int) [(0, 12, 15, 24), (0, 12, 19, 13)] 5 := ⟨q1361, q114, by decide, by decide, by decide +kernel⟩
set_option maxHeartbeats 4000000 in
set_option maxRecDepth 100000 in
theorem fL_postage_ok {X : zX} (hX : zCX X cL_postage RL) (hTb : zTab X [(0, 12, 15, 24), (0, 12, 19, 13)]) (hR : X.2.2.2.1 = zrm 8 2) (hr : X.2.2.2.2.2.2.2.2.1.sig.returnType = (some .int)) (hn : X.2.2.2.2.2.2.2.2.2.1.maxLocals = 6) {v1 : Int32} {v2 : Int32} {v3 : Int32} {g : zM} {r : Int32 × zM} (hf : fL_postage v1 v2 v3 g = some r) : zW X (zQ X (.inl (some (.int r.1), r.2)) 2) 0 0 0 [(0, .ref (zB X + 0)), (1, .int v1), (2, .int v2), (3, .int v3), (4, .ref (zB X + 508))] [] g := by
  unfold fL_postage at hf
  refine z_aload hX dL_postage_0 4 rfl ?_
  refine z_iconst hX dL_postage_2 ci_0 ?_
  refine z_aload_n hX dL_postage_3 0 rfl ?_
  refine z_iload_n hX dL_postage_4 1 rfl ?_
  refine z_iload_n hX dL_postage_5 2 rfl ?_
  refine z_iload_n hX dL_postage_6 3 rfl ?_
  replace hf := zb3w_some hf
  rcases hf with ⟨c1, g1, h1, hf⟩ | ⟨r_1, g1, h1, hf⟩
  · by_cases h2 : c1 = 1
    · replace hf := zif_pos h2 hf
      subst h2
      refine z_callV_c hX ok_X11_postage q1362 q1363 q1364 (zrm_ok hR (by decide)) (ct_X11_postage h1) (zrec_Post hX zq_0) dL_postage_7 rfl rfl ?_
      refine z_catch hX hTb [] [(0, 12, 19, 13)] rfl (fun z hz => absurd hz List.not_mem_nil) (by decide) (by decide) q968 qn984 (fun q9 => ?_)
      refine z_astore (lv' := [(5, .ref q9), (0, .ref (zB X + 0)), (1, .int v1), (2, .int v2), (3, .int v3), (4, .ref (zB X + 508))]) hX dL_postage_15 hn (by decide) rfl ?_
      refine z_iconst hX dL_postage_17 ci_1 ?_
      obtain rfl := Option.some.inj hf
      exact z_iret hX hr rfl (zl rfl) (zl rfl) dL_postage_18
    · replace hf := zif_neg h2 hf
      by_cases h3 : c1 = 2
      · replace hf := zif_pos h3 hf
        subst h3
        refine z_callV_c hX ok_X11_postage q1362 q1363 q1364 (zrm_ok hR (by decide)) (ct_X11_postage h1) (zrec_Post hX zq_0) dL_postage_7 rfl rfl ?_
        refine z_catch hX hTb [(0, 12, 15, 24)] [] rfl (zpass1 ⟨by decide, _, q968, by decide⟩) (by decide) (by decide) q647 qn865 (fun q9 => ?_)
        refine z_astore (lv' := [(5, .ref q9), (0, .ref (zB X + 0)), (1, .int v1), (2, .int v2), (3, .int v3), (4, .ref (zB X + 508))]) hX dL_postage_19 hn (by decide) rfl ?_
        refine z_iconst hX dL_postage_21 ci_2 ?_
        obtain rfl := Option.some.inj hf
        exact z_iret hX hr rfl (zl rfl) (zl rfl) dL_postage_22
      · replace hf := zif_neg h3 hf
        exact zno hf
  refine z_callV1 hX ok_X11_postage q1362 q1363 q1364 (zrm_ok hR (by decide)) (ct_X11_postage h1) (zrec_Post hX zq_0) dL_postage_7 rfl rfl ?_
  refine z_i2l hX dL_postage_10 ?_
  replace hf := zchk_some hf
  obtain ⟨h4, hf⟩ := hf
  replace hf := zput_some hf
  obtain ⟨g5, eg5, hf⟩ := hf
  refine z_last hX zq_508 rfl h4 dL_postage_11 (zW.eqg eg5 ?_)
  refine z_goto hX 23 dL_postage_12 (by decide) ?_
  refine z_iconst hX dL_postage_23 ci_0 ?_
  obtain rfl := Option.some.inj hf
  exact z_iret hX hr rfl (zl rfl) (zl rfl) dL_postage_24
set_option maxHeartbeats 4000000 in
set_option maxRecDepth 100000 in
theorem ct_L_postage {E : zE} {v1 : Int32} {v2 : Int32} {v3 : Int32} {g : zM} {r : Int32 × zM} (hf : fL_postage v1 v2 v3 g = some r) : zCtW yL_postage cL_postage 6 (some .int) [(0, 12, 15, 24), (0, 12, 19, 13)] 8 2 E [.ref (E.1 + 0), .int v1, .int v2, .int v3, .ref (E.1 + 508)] g (some (.int r.1)) r.2 := by
  refine zmetW (by decide) (zl rfl) (fun X hE hX hTb hR hr hn => ?_)
  subst hE
  exact fL_postage_ok hX hTb hR hr hn hf
def fL_forks (v1 : Int32) (v2 : Int32) (g : zM) : Option (Int32 × zM) := zb3w (fX11_forks v1 v2 g) (fun r_1 g1 => zchk 0 1 (zput g1 508 (0 : Int32).toNatClampNeg r_1 (fun g5 => some (0, g5)))) (fun c1 g1 => if c1 = 1 then some (1, g1) else if c1 = 2 then some (2, g1) else none)
theorem okw_L_forks : zOKW yL_forks cL_forks 5 (some .int) [(0, 10, 13, 24), (0, 10, 17, 13)] 4 := ⟨q1380, q114, by decide, by decide, by decide +kernel⟩
set_option maxHeartbeats 4000000 in
set_option maxRecDepth 100000 in
theorem fL_forks_ok {X : zX} (hX : zCX X cL_forks RL) (hTb : zTab X [(0, 10, 13, 24), (0, 10, 17, 13)]) (hR : X.2.2.2.1 = zrm 8 2) (hr : X.2.2.2.2.2.2.2.2.1.sig.returnType = (some .int)) (hn : X.2.2.2.2.2.2.2.2.2.1.maxLocals = 5) {v1 : Int32} {v2 : Int32} {g : zM} {r : Int32 × zM} (hf : fL_forks v1 v2 g = some r) : zW X (zQ X (.inl (some (.int r.1), r.2)) 2) 0 0 0 [(0, .ref (zB X + 0)), (1, .int v1), (2, .int v2), (3, .ref (zB X + 508))] [] g := by
  unfold fL_forks at hf
  refine z_aload_n hX dL_forks_0 3 rfl ?_
  refine z_iconst hX dL_forks_1 ci_0 ?_
  refine z_aload_n hX dL_forks_2 0 rfl ?_
  refine z_iload_n hX dL_forks_3 1 rfl ?_
  refine z_iload_n hX dL_forks_4 2 rfl ?_
  replace hf := zb3w_some hf
  rcases hf with ⟨c1, g1, h1, hf⟩ | ⟨r_1, g1, h1, hf⟩
  · by_cases h2 : c1 = 1
    · replace hf := zif_pos h2 hf
      subst h2
      refine z_callV_c hX ok_X11_forks q1381 q1382 q1383 (zrm_ok hR (by decide)) (ct_X11_forks h1) (zrec_Post hX zq_0) dL_forks_5 rfl rfl ?_
      refine z_catch hX hTb [] [(0, 10, 17, 13)] rfl (fun z hz => absurd hz List.not_mem_nil) (by decide) (by decide) q968 qn984 (fun q9 => ?_)
      refine z_astore (lv' := [(4, .ref q9), (0, .ref (zB X + 0)), (1, .int v1), (2, .int v2), (3, .ref (zB X + 508))]) hX dL_forks_13 hn (by decide) rfl ?_
      refine z_iconst hX dL_forks_15 ci_1 ?_
      obtain rfl := Option.some.inj hf
      exact z_iret hX hr rfl (zl rfl) (zl rfl) dL_forks_16
    · replace hf := zif_neg h2 hf
      by_cases h3 : c1 = 2
      · replace hf := zif_pos h3 hf
        subst h3
        refine z_callV_c hX ok_X11_forks q1381 q1382 q1383 (zrm_ok hR (by decide)) (ct_X11_forks h1) (zrec_Post hX zq_0) dL_forks_5 rfl rfl ?_
        refine z_catch hX hTb [(0, 10, 13, 24)] [] rfl (zpass1 ⟨by decide, _, q968, by decide⟩) (by decide) (by decide) q647 qn865 (fun q9 => ?_)
        refine z_astore (lv' := [(4, .ref q9), (0, .ref (zB X + 0)), (1, .int v1), (2, .int v2), (3, .ref (zB X + 508))]) hX dL_forks_17 hn (by decide) rfl ?_
        refine z_iconst hX dL_forks_19 ci_2 ?_
        obtain rfl := Option.some.inj hf
        exact z_iret hX hr rfl (zl rfl) (zl rfl) dL_forks_20
      · replace hf := zif_neg h3 hf
        exact zno hf
  refine z_callV1 hX ok_X11_forks q1381 q1382 q1383 (zrm_ok hR (by decide)) (ct_X11_forks h1) (zrec_Post hX zq_0) dL_forks_5 rfl rfl ?_
  refine z_i2l hX dL_forks_8 ?_
  replace hf := zchk_some hf
  obtain ⟨h4, hf⟩ := hf
  replace hf := zput_some hf
  obtain ⟨g5, eg5, hf⟩ := hf
  refine z_last hX zq_508 rfl h4 dL_forks_9 (zW.eqg eg5 ?_)
  refine z_goto hX 21 dL_forks_10 (by decide) ?_
  refine z_iconst hX dL_forks_21 ci_0 ?_
  obtain rfl := Option.some.inj hf
  exact z_iret hX hr rfl (zl rfl) (zl rfl) dL_forks_22
set_option maxHeartbeats 4000000 in
set_option maxRecDepth 100000 in
theorem ct_L_forks {E : zE} {v1 : Int32} {v2 : Int32} {g : zM} {r : Int32 × zM} (hf : fL_forks v1 v2 g = some r) : zCtW yL_forks cL_forks 5 (some .int) [(0, 10, 13, 24), (0, 10, 17, 13)] 8 2 E [.ref (E.1 + 0), .int v1, .int v2, .ref (E.1 + 508)] g (some (.int r.1)) r.2 := by
  refine zmetW (by decide) (zl rfl) (fun X hE hX hTb hR hr hn => ?_)
  subst hE
  exact fL_forks_ok hX hTb hR hr hn hf
def fL_ripe (v1 : Int32) (v2 : Int32) (g : zM) : Option (Int32 × zM) := zb3w (fX11_ripe v1 v2 g) (fun r_1 g1 => zchk 0 1 (zput g1 508 (0 : Int32).toNatClampNeg r_1 (fun g4 => some (0, g4)))) (fun c1 g1 => if c1 = 1 then some (1, g1) else none)
theorem okw_L_ripe : zOKW yL_ripe cL_ripe 5 (some .int) [(0, 10, 13, 24)] 4 := ⟨q1387, q114, by decide, by decide, by decide +kernel⟩
set_option maxHeartbeats 4000000 in
set_option maxRecDepth 100000 in
theorem fL_ripe_ok {X : zX} (hX : zCX X cL_ripe RL) (hTb : zTab X [(0, 10, 13, 24)]) (hR : X.2.2.2.1 = zrm 8 1) (hr : X.2.2.2.2.2.2.2.2.1.sig.returnType = (some .int)) (hn : X.2.2.2.2.2.2.2.2.2.1.maxLocals = 5) {v1 : Int32} {v2 : Int32} {g : zM} {r : Int32 × zM} (hf : fL_ripe v1 v2 g = some r) : zW X (zQ X (.inl (some (.int r.1), r.2)) 1) 0 0 0 [(0, .ref (zB X + 0)), (1, .int v1), (2, .int v2), (3, .ref (zB X + 508))] [] g := by
  unfold fL_ripe at hf
  refine z_aload_n hX dL_ripe_0 3 rfl ?_
  refine z_iconst hX dL_ripe_1 ci_0 ?_
  refine z_aload_n hX dL_ripe_2 0 rfl ?_
  refine z_iload_n hX dL_ripe_3 1 rfl ?_
  refine z_iload_n hX dL_ripe_4 2 rfl ?_
  replace hf := zb3w_some hf
  rcases hf with ⟨c1, g1, h1, hf⟩ | ⟨r_1, g1, h1, hf⟩
  · by_cases h2 : c1 = 1
    · replace hf := zif_pos h2 hf
      subst h2
      refine z_callV_c hX ok_X11_ripe q1388 q1389 q1390 (zrm_ok hR (by decide)) (ct_X11_ripe h1) (zrec_Post hX zq_0) dL_ripe_5 rfl rfl ?_
      refine z_catch hX hTb [] [] rfl (fun z hz => absurd hz List.not_mem_nil) (by decide) (by decide) q968 qn984 (fun q9 => ?_)
      refine z_astore (lv' := [(4, .ref q9), (0, .ref (zB X + 0)), (1, .int v1), (2, .int v2), (3, .ref (zB X + 508))]) hX dL_ripe_13 hn (by decide) rfl ?_
      refine z_iconst hX dL_ripe_15 ci_1 ?_
      obtain rfl := Option.some.inj hf
      exact z_iret hX hr rfl (zl rfl) (zl rfl) dL_ripe_16
    · replace hf := zif_neg h2 hf
      exact zno hf
  refine z_callV1 hX ok_X11_ripe q1388 q1389 q1390 (zrm_ok hR (by decide)) (ct_X11_ripe h1) (zrec_Post hX zq_0) dL_ripe_5 rfl rfl ?_
  refine z_i2l hX dL_ripe_8 ?_
  replace hf := zchk_some hf
  obtain ⟨h3, hf⟩ := hf
  replace hf := zput_some hf
  obtain ⟨g4, eg4, hf⟩ := hf
  refine z_last hX zq_508 rfl h3 dL_ripe_9 (zW.eqg eg4 ?_)
  refine z_goto hX 17 dL_ripe_10 (by decide) ?_
  refine z_iconst hX dL_ripe_17 ci_0 ?_
  obtain rfl := Option.some.inj hf
  exact z_iret hX hr rfl (zl rfl) (zl rfl) dL_ripe_18
set_option maxHeartbeats 4000000 in
set_option maxRecDepth 100000 in
theorem ct_L_ripe {E : zE} {v1 : Int32} {v2 : Int32} {g : zM} {r : Int32 × zM} (hf : fL_ripe v1 v2 g = some r) : zCtW yL_ripe cL_ripe 5 (some .int) [(0, 10, 13, 24)] 8 1 E [.ref (E.1 + 0), .int v1, .int v2, .ref (E.1 + 508)] g (some (.int r.1)) r.2 := by
  refine zmetW (by decide) (zl rfl) (fun X hE hX hTb hR hr hn => ?_)
  subst hE
  exact fL_ripe_ok hX hTb hR hr hn hf
def fL_has (v1 : Int32) (g : zM) : Option (Int32 × zM) := zb3w (fX11_has v1 g) (fun r_1 g1 => zchk 0 1 (zput g1 508 (0 : Int32).toNatClampNeg r_1 (fun g4 => some (0, g4)))) (fun c1 g1 => if c1 = 1 then some (1, g1) else none)
theorem okw_L_has : zOKW yL_has cL_has 4 (some .int) [(0, 9, 12, 24)] 3 := ⟨q1395, q114, by decide, by decide, by decide +kernel⟩
set_option maxHeartbeats 4000000 in
set_option maxRecDepth 100000 in
theorem fL_has_ok {X : zX} (hX : zCX X cL_has RL) (hTb : zTab X [(0, 9, 12, 24)]) (hR : X.2.2.2.1 = zrm 3 1) (hr : X.2.2.2.2.2.2.2.2.1.sig.returnType = (some .int)) (hn : X.2.2.2.2.2.2.2.2.2.1.maxLocals = 4) {v1 : Int32} {g : zM} {r : Int32 × zM} (hf : fL_has v1 g = some r) : zW X (zQ X (.inl (some (.int r.1), r.2)) 1) 0 0 0 [(0, .ref (zB X + 0)), (1, .int v1), (2, .ref (zB X + 508))] [] g := by
  unfold fL_has at hf
  refine z_aload_n hX dL_has_0 2 rfl ?_
  refine z_iconst hX dL_has_1 ci_0 ?_
  refine z_aload_n hX dL_has_2 0 rfl ?_
  refine z_iload_n hX dL_has_3 1 rfl ?_
  replace hf := zb3w_some hf
  rcases hf with ⟨c1, g1, h1, hf⟩ | ⟨r_1, g1, h1, hf⟩
  · by_cases h2 : c1 = 1
    · replace hf := zif_pos h2 hf
      subst h2
      refine z_callV_c hX ok_X11_has q1396 q1397 q1398 (zrm_ok hR (by decide)) (ct_X11_has h1) (zrec_Post hX zq_0) dL_has_4 rfl rfl ?_
      refine z_catch hX hTb [] [] rfl (fun z hz => absurd hz List.not_mem_nil) (by decide) (by decide) q968 qn984 (fun q9 => ?_)
      refine z_astore_n (lv' := [(3, .ref q9), (0, .ref (zB X + 0)), (1, .int v1), (2, .ref (zB X + 508))]) hX dL_has_12 hn (by decide) rfl ?_
      refine z_iconst hX dL_has_13 ci_1 ?_
      obtain rfl := Option.some.inj hf
      exact z_iret hX hr rfl (zl rfl) (zl rfl) dL_has_14
    · replace hf := zif_neg h2 hf
      exact zno hf
  refine z_callV1 hX ok_X11_has q1396 q1397 q1398 (zrm_ok hR (by decide)) (ct_X11_has h1) (zrec_Post hX zq_0) dL_has_4 rfl rfl ?_
  refine z_i2l hX dL_has_7 ?_
  replace hf := zchk_some hf
  obtain ⟨h3, hf⟩ := hf
  replace hf := zput_some hf
  obtain ⟨g4, eg4, hf⟩ := hf
  refine z_last hX zq_508 rfl h3 dL_has_8 (zW.eqg eg4 ?_)
  refine z_goto hX 15 dL_has_9 (by decide) ?_
  refine z_iconst hX dL_has_15 ci_0 ?_
  obtain rfl := Option.some.inj hf
  exact z_iret hX hr rfl (zl rfl) (zl rfl) dL_has_16
set_option maxHeartbeats 4000000 in
set_option maxRecDepth 100000 in
theorem ct_L_has {E : zE} {v1 : Int32} {g : zM} {r : Int32 × zM} (hf : fL_has v1 g = some r) : zCtW yL_has cL_has 4 (some .int) [(0, 9, 12, 24)] 3 1 E [.ref (E.1 + 0), .int v1, .ref (E.1 + 508)] g (some (.int r.1)) r.2 := by
  refine zmetW (by decide) (zl rfl) (fun X hE hX hTb hR hr hn => ?_)
  subst hE
  exact fL_has_ok hX hTb hR hr hn hf
def fL_echo (v1 : Int32) (g : zM) : Option (Int32 × zM) := zb3w (fX11_echo v1 g) (fun r_1 g1 => zchk 0 1 (zput g1 508 (0 : Int32).toNatClampNeg r_1 (fun g4 => some (0, g4)))) (fun c1 g1 => if c1 = 1 then some (1, g1) else none)
theorem okw_L_echo : zOKW yL_echo cL_echo 4 (some .int) [(0, 9, 12, 24)] 3 := ⟨q1403, q114, by decide, by decide, by decide +kernel⟩
set_option maxHeartbeats 4000000 in
set_option maxRecDepth 100000 in
theorem fL_echo_ok {X : zX} (hX : zCX X cL_echo RL) (hTb : zTab X [(0, 9, 12, 24)]) (hR : X.2.2.2.1 = zrm 6 1) (hr : X.2.2.2.2.2.2.2.2.1.sig.returnType = (some .int)) (hn : X.2.2.2.2.2.2.2.2.2.1.maxLocals = 4) {v1 : Int32} {g : zM} {r : Int32 × zM} (hf : fL_echo v1 g = some r) : zW X (zQ X (.inl (some (.int r.1), r.2)) 1) 0 0 0 [(0, .ref (zB X + 0)), (1, .int v1), (2, .ref (zB X + 508))] [] g := by
  unfold fL_echo at hf
  refine z_aload_n hX dL_echo_0 2 rfl ?_
  refine z_iconst hX dL_echo_1 ci_0 ?_
  refine z_aload_n hX dL_echo_2 0 rfl ?_
  refine z_iload_n hX dL_echo_3 1 rfl ?_
  replace hf := zb3w_some hf
  rcases hf with ⟨c1, g1, h1, hf⟩ | ⟨r_1, g1, h1, hf⟩
  · by_cases h2 : c1 = 1
    · replace hf := zif_pos h2 hf
      subst h2
      refine z_callV_c hX ok_X11_echo q1404 q1405 q1406 (zrm_ok hR (by decide)) (ct_X11_echo h1) (zrec_Post hX zq_0) dL_echo_4 rfl rfl ?_
      refine z_catch hX hTb [] [] rfl (fun z hz => absurd hz List.not_mem_nil) (by decide) (by decide) q968 qn984 (fun q9 => ?_)
      refine z_astore_n (lv' := [(3, .ref q9), (0, .ref (zB X + 0)), (1, .int v1), (2, .ref (zB X + 508))]) hX dL_echo_12 hn (by decide) rfl ?_
      refine z_iconst hX dL_echo_13 ci_1 ?_
      obtain rfl := Option.some.inj hf
      exact z_iret hX hr rfl (zl rfl) (zl rfl) dL_echo_14
    · replace hf := zif_neg h2 hf
      exact zno hf
  refine z_callV1 hX ok_X11_echo q1404 q1405 q1406 (zrm_ok hR (by decide)) (ct_X11_echo h1) (zrec_Post hX zq_0) dL_echo_4 rfl rfl ?_
  refine z_i2l hX dL_echo_7 ?_
  replace hf := zchk_some hf
  obtain ⟨h3, hf⟩ := hf
  replace hf := zput_some hf
  obtain ⟨g4, eg4, hf⟩ := hf
  refine z_last hX zq_508 rfl h3 dL_echo_8 (zW.eqg eg4 ?_)
  refine z_goto hX 15 dL_echo_9 (by decide) ?_
  refine z_iconst hX dL_echo_15 ci_0 ?_
  obtain rfl := Option.some.inj hf
  exact z_iret hX hr rfl (zl rfl) (zl rfl) dL_echo_16
set_option maxHeartbeats 4000000 in
set_option maxRecDepth 100000 in
theorem ct_L_echo {E : zE} {v1 : Int32} {g : zM} {r : Int32 × zM} (hf : fL_echo v1 g = some r) : zCtW yL_echo cL_echo 4 (some .int) [(0, 9, 12, 24)] 6 1 E [.ref (E.1 + 0), .int v1, .ref (E.1 + 508)] g (some (.int r.1)) r.2 := by
  refine zmetW (by decide) (zl rfl) (fun X hE hX hTb hR hr hn => ?_)
  subst hE
  exact fL_echo_ok hX hTb hR hr hn hf
def fL_common (v1 : Int32) (v2 : Int32) (g : zM) : Option (Int32 × zM) := zb3w (fX11_common v1 v2 g) (fun r_1 g1 => zchk 0 1 (zput g1 508 (0 : Int32).toNatClampNeg r_1 (fun g5 => some (0, g5)))) (fun c1 g1 => if c1 = 1 then some (1, g1) else if c1 = 2 then some (2, g1) else none)
theorem okw_L_common : zOKW yL_common cL_common 5 (some .int) [(0, 10, 13, 24), (0, 10, 17, 13)] 4 := ⟨q1415, q114, by decide, by decide, by decide +kernel⟩
set_option maxHeartbeats 4000000 in
set_option maxRecDepth 100000 in
theorem fL_common_ok {X : zX} (hX : zCX X cL_common RL) (hTb : zTab X [(0, 10, 13, 24), (0, 10, 17, 13)]) (hR : X.2.2.2.1 = zrm 6 3) (hr : X.2.2.2.2.2.2.2.2.1.sig.returnType = (some .int)) (hn : X.2.2.2.2.2.2.2.2.2.1.maxLocals = 5) {v1 : Int32} {v2 : Int32} {g : zM} {r : Int32 × zM} (hf : fL_common v1 v2 g = some r) : zW X (zQ X (.inl (some (.int r.1), r.2)) 3) 0 0 0 [(0, .ref (zB X + 0)), (1, .int v1), (2, .int v2), (3, .ref (zB X + 508))] [] g := by
  unfold fL_common at hf
  refine z_aload_n hX dL_common_0 3 rfl ?_
  refine z_iconst hX dL_common_1 ci_0 ?_
  refine z_aload_n hX dL_common_2 0 rfl ?_
  refine z_iload_n hX dL_common_3 1 rfl ?_
  refine z_iload_n hX dL_common_4 2 rfl ?_
  replace hf := zb3w_some hf
  rcases hf with ⟨c1, g1, h1, hf⟩ | ⟨r_1, g1, h1, hf⟩
  · by_cases h2 : c1 = 1
    · replace hf := zif_pos h2 hf
      subst h2
      refine z_callV_c hX ok_X11_common q1416 q1417 q1418 (zrm_ok hR (by decide)) (ct_X11_common h1) (zrec_Post hX zq_0) dL_common_5 rfl rfl ?_
      refine z_catch hX hTb [] [(0, 10, 17, 13)] rfl (fun z hz => absurd hz List.not_mem_nil) (by decide) (by decide) q968 qn984 (fun q9 => ?_)
      refine z_astore (lv' := [(4, .ref q9), (0, .ref (zB X + 0)), (1, .int v1), (2, .int v2), (3, .ref (zB X + 508))]) hX dL_common_13 hn (by decide) rfl ?_
      refine z_iconst hX dL_common_15 ci_1 ?_
      obtain rfl := Option.some.inj hf
      exact z_iret hX hr rfl (zl rfl) (zl rfl) dL_common_16
    · replace hf := zif_neg h2 hf
      by_cases h3 : c1 = 2
      · replace hf := zif_pos h3 hf
        subst h3
        refine z_callV_c hX ok_X11_common q1416 q1417 q1418 (zrm_ok hR (by decide)) (ct_X11_common h1) (zrec_Post hX zq_0) dL_common_5 rfl rfl ?_
        refine z_catch hX hTb [(0, 10, 13, 24)] [] rfl (zpass1 ⟨by decide, _, q968, by decide⟩) (by decide) (by decide) q647 qn865 (fun q9 => ?_)
        refine z_astore (lv' := [(4, .ref q9), (0, .ref (zB X + 0)), (1, .int v1), (2, .int v2), (3, .ref (zB X + 508))]) hX dL_common_17 hn (by decide) rfl ?_
        refine z_iconst hX dL_common_19 ci_2 ?_
        obtain rfl := Option.some.inj hf
        exact z_iret hX hr rfl (zl rfl) (zl rfl) dL_common_20
      · replace hf := zif_neg h3 hf
        exact zno hf
  refine z_callV1 hX ok_X11_common q1416 q1417 q1418 (zrm_ok hR (by decide)) (ct_X11_common h1) (zrec_Post hX zq_0) dL_common_5 rfl rfl ?_
  refine z_i2l hX dL_common_8 ?_
  replace hf := zchk_some hf
  obtain ⟨h4, hf⟩ := hf
  replace hf := zput_some hf
  obtain ⟨g5, eg5, hf⟩ := hf
  refine z_last hX zq_508 rfl h4 dL_common_9 (zW.eqg eg5 ?_)
  refine z_goto hX 21 dL_common_10 (by decide) ?_
  refine z_iconst hX dL_common_21 ci_0 ?_
  obtain rfl := Option.some.inj hf
  exact z_iret hX hr rfl (zl rfl) (zl rfl) dL_common_22
set_option maxHeartbeats 4000000 in
set_option maxRecDepth 100000 in
theorem ct_L_common {E : zE} {v1 : Int32} {v2 : Int32} {g : zM} {r : Int32 × zM} (hf : fL_common v1 v2 g = some r) : zCtW yL_common cL_common 5 (some .int) [(0, 10, 13, 24), (0, 10, 17, 13)] 6 3 E [.ref (E.1 + 0), .int v1, .int v2, .ref (E.1 + 508)] g (some (.int r.1)) r.2 := by
  refine zmetW (by decide) (zl rfl) (fun X hE hX hTb hR hr hn => ?_)
  subst hE
  exact fL_common_ok hX hTb hR hr hn hf
def fL_author (v1 : Int32) (v2 : Int32) (g : zM) : Option (Int32 × zM) := zb3w (fX11_author v1 v2 g) (fun r_1 g1 => zchk 0 1 (zput g1 508 (0 : Int32).toNatClampNeg r_1 (fun g4 => some (0, g4)))) (fun c1 g1 => if c1 = 1 then some (1, g1) else none)
theorem okw_L_author : zOKW yL_author cL_author 5 (some .int) [(0, 10, 13, 24)] 4 := ⟨q1422, q114, by decide, by decide, by decide +kernel⟩
set_option maxHeartbeats 4000000 in
set_option maxRecDepth 100000 in
theorem fL_author_ok {X : zX} (hX : zCX X cL_author RL) (hTb : zTab X [(0, 10, 13, 24)]) (hR : X.2.2.2.1 = zrm 8 1) (hr : X.2.2.2.2.2.2.2.2.1.sig.returnType = (some .int)) (hn : X.2.2.2.2.2.2.2.2.2.1.maxLocals = 5) {v1 : Int32} {v2 : Int32} {g : zM} {r : Int32 × zM} (hf : fL_author v1 v2 g = some r) : zW X (zQ X (.inl (some (.int r.1), r.2)) 1) 0 0 0 [(0, .ref (zB X + 0)), (1, .int v1), (2, .int v2), (3, .ref (zB X + 508))] [] g := by
  unfold fL_author at hf
  refine z_aload_n hX dL_author_0 3 rfl ?_
  refine z_iconst hX dL_author_1 ci_0 ?_
  refine z_aload_n hX dL_author_2 0 rfl ?_
  refine z_iload_n hX dL_author_3 1 rfl ?_
  refine z_iload_n hX dL_author_4 2 rfl ?_
  replace hf := zb3w_some hf
  rcases hf with ⟨c1, g1, h1, hf⟩ | ⟨r_1, g1, h1, hf⟩
  · by_cases h2 : c1 = 1
    · replace hf := zif_pos h2 hf
      subst h2
      refine z_callV_c hX ok_X11_author q1423 q1424 q1425 (zrm_ok hR (by decide)) (ct_X11_author h1) (zrec_Post hX zq_0) dL_author_5 rfl rfl ?_
      refine z_catch hX hTb [] [] rfl (fun z hz => absurd hz List.not_mem_nil) (by decide) (by decide) q968 qn984 (fun q9 => ?_)
      refine z_astore (lv' := [(4, .ref q9), (0, .ref (zB X + 0)), (1, .int v1), (2, .int v2), (3, .ref (zB X + 508))]) hX dL_author_13 hn (by decide) rfl ?_
      refine z_iconst hX dL_author_15 ci_1 ?_
      obtain rfl := Option.some.inj hf
      exact z_iret hX hr rfl (zl rfl) (zl rfl) dL_author_16
    · replace hf := zif_neg h2 hf
      exact zno hf
  refine z_callV1 hX ok_X11_author q1423 q1424 q1425 (zrm_ok hR (by decide)) (ct_X11_author h1) (zrec_Post hX zq_0) dL_author_5 rfl rfl ?_
  refine z_i2l hX dL_author_8 ?_
  replace hf := zchk_some hf
  obtain ⟨h3, hf⟩ := hf
  replace hf := zput_some hf
  obtain ⟨g4, eg4, hf⟩ := hf
  refine z_last hX zq_508 rfl h3 dL_author_9 (zW.eqg eg4 ?_)
  refine z_goto hX 17 dL_author_10 (by decide) ?_
  refine z_iconst hX dL_author_17 ci_0 ?_
  obtain rfl := Option.some.inj hf
  exact z_iret hX hr rfl (zl rfl) (zl rfl) dL_author_18
set_option maxHeartbeats 4000000 in
set_option maxRecDepth 100000 in
theorem ct_L_author {E : zE} {v1 : Int32} {v2 : Int32} {g : zM} {r : Int32 × zM} (hf : fL_author v1 v2 g = some r) : zCtW yL_author cL_author 5 (some .int) [(0, 10, 13, 24)] 8 1 E [.ref (E.1 + 0), .int v1, .int v2, .ref (E.1 + 508)] g (some (.int r.1)) r.2 := by
  refine zmetW (by decide) (zl rfl) (fun X hE hX hTb hR hr hn => ?_)
  subst hE
  exact fL_author_ok hX hTb hR hr hn hf
def fL_shelves (v1 : Int32) (v2 : Int32) (v3 : Int32) (g : zM) : Option (Int32 × zM) := zb3w (fX11_shelves v1 v2 v3 g) (fun r_1 g1 => zchk 0 1 (zput g1 508 (0 : Int32).toNatClampNeg r_1 (fun g4 => some (0, g4)))) (fun c1 g1 => if c1 = 2 then some (1, g1) else none)
theorem okw_L_shelves : zOKW yL_shelves cL_shelves 6 (some .int) [(0, 12, 15, 13)] 5 := ⟨q1429, q114, by decide, by decide, by decide +kernel⟩
set_option maxHeartbeats 4000000 in
set_option maxRecDepth 100000 in
theorem fL_shelves_ok {X : zX} (hX : zCX X cL_shelves RL) (hTb : zTab X [(0, 12, 15, 13)]) (hR : X.2.2.2.1 = zrm 8 2) (hr : X.2.2.2.2.2.2.2.2.1.sig.returnType = (some .int)) (hn : X.2.2.2.2.2.2.2.2.2.1.maxLocals = 6) {v1 : Int32} {v2 : Int32} {v3 : Int32} {g : zM} {r : Int32 × zM} (hf : fL_shelves v1 v2 v3 g = some r) : zW X (zQ X (.inl (some (.int r.1), r.2)) 2) 0 0 0 [(0, .ref (zB X + 0)), (1, .int v1), (2, .int v2), (3, .int v3), (4, .ref (zB X + 508))] [] g := by
  unfold fL_shelves at hf
  refine z_aload hX dL_shelves_0 4 rfl ?_
  refine z_iconst hX dL_shelves_2 ci_0 ?_
  refine z_aload_n hX dL_shelves_3 0 rfl ?_
  refine z_iload_n hX dL_shelves_4 1 rfl ?_
  refine z_iload_n hX dL_shelves_5 2 rfl ?_
  refine z_iload_n hX dL_shelves_6 3 rfl ?_
  replace hf := zb3w_some hf
  rcases hf with ⟨c1, g1, h1, hf⟩ | ⟨r_1, g1, h1, hf⟩
  · by_cases h2 : c1 = 2
    · replace hf := zif_pos h2 hf
      subst h2
      refine z_callV_c hX ok_X11_shelves q1430 q1431 q1432 (zrm_ok hR (by decide)) (ct_X11_shelves h1) (zrec_Post hX zq_0) dL_shelves_7 rfl rfl ?_
      refine z_catch hX hTb [] [] rfl (fun z hz => absurd hz List.not_mem_nil) (by decide) (by decide) q647 qn865 (fun q9 => ?_)
      refine z_astore (lv' := [(5, .ref q9), (0, .ref (zB X + 0)), (1, .int v1), (2, .int v2), (3, .int v3), (4, .ref (zB X + 508))]) hX dL_shelves_15 hn (by decide) rfl ?_
      refine z_iconst hX dL_shelves_17 ci_1 ?_
      obtain rfl := Option.some.inj hf
      exact z_iret hX hr rfl (zl rfl) (zl rfl) dL_shelves_18
    · replace hf := zif_neg h2 hf
      exact zno hf
  refine z_callV1 hX ok_X11_shelves q1430 q1431 q1432 (zrm_ok hR (by decide)) (ct_X11_shelves h1) (zrec_Post hX zq_0) dL_shelves_7 rfl rfl ?_
  refine z_i2l hX dL_shelves_10 ?_
  replace hf := zchk_some hf
  obtain ⟨h3, hf⟩ := hf
  replace hf := zput_some hf
  obtain ⟨g4, eg4, hf⟩ := hf
  refine z_last hX zq_508 rfl h3 dL_shelves_11 (zW.eqg eg4 ?_)
  refine z_goto hX 19 dL_shelves_12 (by decide) ?_
  refine z_iconst hX dL_shelves_19 ci_0 ?_
  obtain rfl := Option.some.inj hf
  exact z_iret hX hr rfl (zl rfl) (zl rfl) dL_shelves_20
set_option maxHeartbeats 4000000 in
set_option maxRecDepth 100000 in
theorem ct_L_shelves {E : zE} {v1 : Int32} {v2 : Int32} {v3 : Int32} {g : zM} {r : Int32 × zM} (hf : fL_shelves v1 v2 v3 g = some r) : zCtW yL_shelves cL_shelves 6 (some .int) [(0, 12, 15, 13)] 8 2 E [.ref (E.1 + 0), .int v1, .int v2, .int v3, .ref (E.1 + 508)] g (some (.int r.1)) r.2 := by
  refine zmetW (by decide) (zl rfl) (fun X hE hX hTb hR hr hn => ?_)
  subst hE
  exact fL_shelves_ok hX hTb hR hr hn hf
def fL_tempers (v1 : Int32) (v2 : Int32) (v3 : Int32) (g : zM) : Option (Int32 × zM) := zb3w (fX11_tempers v1 v2 v3 g) (fun r_1 g1 => zchk 0 1 (zput g1 508 (0 : Int32).toNatClampNeg r_1 (fun g5 => some (0, g5)))) (fun c1 g1 => if c1 = 1 then some (1, g1) else if c1 = 2 then some (2, g1) else none)
theorem okw_L_tempers : zOKW yL_tempers cL_tempers 6 (some .int) [(0, 12, 15, 24), (0, 12, 19, 13)] 5 := ⟨q1455, q114, by decide, by decide, by decide +kernel⟩
set_option maxHeartbeats 4000000 in
set_option maxRecDepth 100000 in
theorem fL_tempers_ok {X : zX} (hX : zCX X cL_tempers RL) (hTb : zTab X [(0, 12, 15, 24), (0, 12, 19, 13)]) (hR : X.2.2.2.1 = zrm 9 3) (hr : X.2.2.2.2.2.2.2.2.1.sig.returnType = (some .int)) (hn : X.2.2.2.2.2.2.2.2.2.1.maxLocals = 6) {v1 : Int32} {v2 : Int32} {v3 : Int32} {g : zM} {r : Int32 × zM} (hf : fL_tempers v1 v2 v3 g = some r) : zW X (zQ X (.inl (some (.int r.1), r.2)) 3) 0 0 0 [(0, .ref (zB X + 0)), (1, .int v1), (2, .int v2), (3, .int v3), (4, .ref (zB X + 508))] [] g := by
  unfold fL_tempers at hf
  refine z_aload hX dL_tempers_0 4 rfl ?_
  refine z_iconst hX dL_tempers_2 ci_0 ?_
  refine z_aload_n hX dL_tempers_3 0 rfl ?_
  refine z_iload_n hX dL_tempers_4 1 rfl ?_
  refine z_iload_n hX dL_tempers_5 2 rfl ?_
  refine z_iload_n hX dL_tempers_6 3 rfl ?_
  replace hf := zb3w_some hf
  rcases hf with ⟨c1, g1, h1, hf⟩ | ⟨r_1, g1, h1, hf⟩
  · by_cases h2 : c1 = 1
    · replace hf := zif_pos h2 hf
      subst h2
      refine z_callV_c hX ok_X11_tempers q1456 q1457 q1458 (zrm_ok hR (by decide)) (ct_X11_tempers h1) (zrec_Post hX zq_0) dL_tempers_7 rfl rfl ?_
      refine z_catch hX hTb [] [(0, 12, 19, 13)] rfl (fun z hz => absurd hz List.not_mem_nil) (by decide) (by decide) q968 qn984 (fun q9 => ?_)
      refine z_astore (lv' := [(5, .ref q9), (0, .ref (zB X + 0)), (1, .int v1), (2, .int v2), (3, .int v3), (4, .ref (zB X + 508))]) hX dL_tempers_15 hn (by decide) rfl ?_
      refine z_iconst hX dL_tempers_17 ci_1 ?_
      obtain rfl := Option.some.inj hf
      exact z_iret hX hr rfl (zl rfl) (zl rfl) dL_tempers_18
    · replace hf := zif_neg h2 hf
      by_cases h3 : c1 = 2
      · replace hf := zif_pos h3 hf
        subst h3
        refine z_callV_c hX ok_X11_tempers q1456 q1457 q1458 (zrm_ok hR (by decide)) (ct_X11_tempers h1) (zrec_Post hX zq_0) dL_tempers_7 rfl rfl ?_
        refine z_catch hX hTb [(0, 12, 15, 24)] [] rfl (zpass1 ⟨by decide, _, q968, by decide⟩) (by decide) (by decide) q647 qn865 (fun q9 => ?_)
        refine z_astore (lv' := [(5, .ref q9), (0, .ref (zB X + 0)), (1, .int v1), (2, .int v2), (3, .int v3), (4, .ref (zB X + 508))]) hX dL_tempers_19 hn (by decide) rfl ?_
        refine z_iconst hX dL_tempers_21 ci_2 ?_
        obtain rfl := Option.some.inj hf
        exact z_iret hX hr rfl (zl rfl) (zl rfl) dL_tempers_22
      · replace hf := zif_neg h3 hf
        exact zno hf
  refine z_callV1 hX ok_X11_tempers q1456 q1457 q1458 (zrm_ok hR (by decide)) (ct_X11_tempers h1) (zrec_Post hX zq_0) dL_tempers_7 rfl rfl ?_
  refine z_i2l hX dL_tempers_10 ?_
  replace hf := zchk_some hf
  obtain ⟨h4, hf⟩ := hf
  replace hf := zput_some hf
  obtain ⟨g5, eg5, hf⟩ := hf
  refine z_last hX zq_508 rfl h4 dL_tempers_11 (zW.eqg eg5 ?_)
  refine z_goto hX 23 dL_tempers_12 (by decide) ?_
  refine z_iconst hX dL_tempers_23 ci_0 ?_
  obtain rfl := Option.some.inj hf
  exact z_iret hX hr rfl (zl rfl) (zl rfl) dL_tempers_24
set_option maxHeartbeats 4000000 in
set_option maxRecDepth 100000 in
theorem ct_L_tempers {E : zE} {v1 : Int32} {v2 : Int32} {v3 : Int32} {g : zM} {r : Int32 × zM} (hf : fL_tempers v1 v2 v3 g = some r) : zCtW yL_tempers cL_tempers 6 (some .int) [(0, 12, 15, 24), (0, 12, 19, 13)] 9 3 E [.ref (E.1 + 0), .int v1, .int v2, .int v3, .ref (E.1 + 508)] g (some (.int r.1)) r.2 := by
  refine zmetW (by decide) (zl rfl) (fun X hE hX hTb hR hr hn => ?_)
  subst hE
  exact fL_tempers_ok hX hTb hR hr hn hf
def fL_trial (v1 : Int32) (v2 : Int32) (g : zM) : Option (Int32 × zM) := zb3w (fX11_trial v1 v2 g) (fun r_1 g1 => zchk 0 1 (zput g1 508 (0 : Int32).toNatClampNeg r_1 (fun g5 => some (0, g5)))) (fun c1 g1 => if c1 = 1 then some (1, g1) else if c1 = 2 then some (2, g1) else none)
theorem okw_L_trial : zOKW yL_trial cL_trial 5 (some .int) [(0, 10, 13, 24), (0, 10, 17, 13)] 4 := ⟨q1466, q114, by decide, by decide, by decide +kernel⟩
set_option maxHeartbeats 4000000 in
set_option maxRecDepth 100000 in
theorem fL_trial_ok {X : zX} (hX : zCX X cL_trial RL) (hTb : zTab X [(0, 10, 13, 24), (0, 10, 17, 13)]) (hR : X.2.2.2.1 = zrm 9 2) (hr : X.2.2.2.2.2.2.2.2.1.sig.returnType = (some .int)) (hn : X.2.2.2.2.2.2.2.2.2.1.maxLocals = 5) {v1 : Int32} {v2 : Int32} {g : zM} {r : Int32 × zM} (hf : fL_trial v1 v2 g = some r) : zW X (zQ X (.inl (some (.int r.1), r.2)) 2) 0 0 0 [(0, .ref (zB X + 0)), (1, .int v1), (2, .int v2), (3, .ref (zB X + 508))] [] g := by
  unfold fL_trial at hf
  refine z_aload_n hX dL_trial_0 3 rfl ?_
  refine z_iconst hX dL_trial_1 ci_0 ?_
  refine z_aload_n hX dL_trial_2 0 rfl ?_
  refine z_iload_n hX dL_trial_3 1 rfl ?_
  refine z_iload_n hX dL_trial_4 2 rfl ?_
  replace hf := zb3w_some hf
  rcases hf with ⟨c1, g1, h1, hf⟩ | ⟨r_1, g1, h1, hf⟩
  · by_cases h2 : c1 = 1
    · replace hf := zif_pos h2 hf
      subst h2
      refine z_callV_c hX ok_X11_trial q1467 q1468 q1469 (zrm_ok hR (by decide)) (ct_X11_trial h1) (zrec_Post hX zq_0) dL_trial_5 rfl rfl ?_
      refine z_catch hX hTb [] [(0, 10, 17, 13)] rfl (fun z hz => absurd hz List.not_mem_nil) (by decide) (by decide) q968 qn984 (fun q9 => ?_)
      refine z_astore (lv' := [(4, .ref q9), (0, .ref (zB X + 0)), (1, .int v1), (2, .int v2), (3, .ref (zB X + 508))]) hX dL_trial_13 hn (by decide) rfl ?_
      refine z_iconst hX dL_trial_15 ci_1 ?_
      obtain rfl := Option.some.inj hf
      exact z_iret hX hr rfl (zl rfl) (zl rfl) dL_trial_16
    · replace hf := zif_neg h2 hf
      by_cases h3 : c1 = 2
      · replace hf := zif_pos h3 hf
        subst h3
        refine z_callV_c hX ok_X11_trial q1467 q1468 q1469 (zrm_ok hR (by decide)) (ct_X11_trial h1) (zrec_Post hX zq_0) dL_trial_5 rfl rfl ?_
        refine z_catch hX hTb [(0, 10, 13, 24)] [] rfl (zpass1 ⟨by decide, _, q968, by decide⟩) (by decide) (by decide) q647 qn865 (fun q9 => ?_)
        refine z_astore (lv' := [(4, .ref q9), (0, .ref (zB X + 0)), (1, .int v1), (2, .int v2), (3, .ref (zB X + 508))]) hX dL_trial_17 hn (by decide) rfl ?_
        refine z_iconst hX dL_trial_19 ci_2 ?_
        obtain rfl := Option.some.inj hf
        exact z_iret hX hr rfl (zl rfl) (zl rfl) dL_trial_20
      · replace hf := zif_neg h3 hf
        exact zno hf
  refine z_callV1 hX ok_X11_trial q1467 q1468 q1469 (zrm_ok hR (by decide)) (ct_X11_trial h1) (zrec_Post hX zq_0) dL_trial_5 rfl rfl ?_
  refine z_i2l hX dL_trial_8 ?_
  replace hf := zchk_some hf
  obtain ⟨h4, hf⟩ := hf
  replace hf := zput_some hf
  obtain ⟨g5, eg5, hf⟩ := hf
  refine z_last hX zq_508 rfl h4 dL_trial_9 (zW.eqg eg5 ?_)
  refine z_goto hX 21 dL_trial_10 (by decide) ?_
  refine z_iconst hX dL_trial_21 ci_0 ?_
  obtain rfl := Option.some.inj hf
  exact z_iret hX hr rfl (zl rfl) (zl rfl) dL_trial_22
set_option maxHeartbeats 4000000 in
set_option maxRecDepth 100000 in
theorem ct_L_trial {E : zE} {v1 : Int32} {v2 : Int32} {g : zM} {r : Int32 × zM} (hf : fL_trial v1 v2 g = some r) : zCtW yL_trial cL_trial 5 (some .int) [(0, 10, 13, 24), (0, 10, 17, 13)] 9 2 E [.ref (E.1 + 0), .int v1, .int v2, .ref (E.1 + 508)] g (some (.int r.1)) r.2 := by
  refine zmetW (by decide) (zl rfl) (fun X hE hX hTb hR hr hn => ?_)
  subst hE
  exact fL_trial_ok hX hTb hR hr hn hf
def fL_span (v1 : Int32) (v2 : Int32) (g : zM) : Option (Int32 × zM) := zb3w (fX11_span v1 v2 g) (fun r_1 g1 => zchk 0 1 (zput g1 508 (0 : Int32).toNatClampNeg r_1 (fun g4 => some (0, g4)))) (fun c1 g1 => if c1 = 2 then some (1, g1) else none)
theorem okw_L_span : zOKW yL_span cL_span 5 (some .int) [(0, 10, 13, 13)] 4 := ⟨q1478, q114, by decide, by decide, by decide +kernel⟩
set_option maxHeartbeats 4000000 in
set_option maxRecDepth 100000 in
theorem fL_span_ok {X : zX} (hX : zCX X cL_span RL) (hTb : zTab X [(0, 10, 13, 13)]) (hR : X.2.2.2.1 = zrm 9 1) (hr : X.2.2.2.2.2.2.2.2.1.sig.returnType = (some .int)) (hn : X.2.2.2.2.2.2.2.2.2.1.maxLocals = 5) {v1 : Int32} {v2 : Int32} {g : zM} {r : Int32 × zM} (hf : fL_span v1 v2 g = some r) : zW X (zQ X (.inl (some (.int r.1), r.2)) 1) 0 0 0 [(0, .ref (zB X + 0)), (1, .int v1), (2, .int v2), (3, .ref (zB X + 508))] [] g := by
  unfold fL_span at hf
  refine z_aload_n hX dL_span_0 3 rfl ?_
  refine z_iconst hX dL_span_1 ci_0 ?_
  refine z_aload_n hX dL_span_2 0 rfl ?_
  refine z_iload_n hX dL_span_3 1 rfl ?_
  refine z_iload_n hX dL_span_4 2 rfl ?_
  replace hf := zb3w_some hf
  rcases hf with ⟨c1, g1, h1, hf⟩ | ⟨r_1, g1, h1, hf⟩
  · by_cases h2 : c1 = 2
    · replace hf := zif_pos h2 hf
      subst h2
      refine z_callV_c hX ok_X11_span q1479 q1480 q1481 (zrm_ok hR (by decide)) (ct_X11_span h1) (zrec_Post hX zq_0) dL_span_5 rfl rfl ?_
      refine z_catch hX hTb [] [] rfl (fun z hz => absurd hz List.not_mem_nil) (by decide) (by decide) q647 qn865 (fun q9 => ?_)
      refine z_astore (lv' := [(4, .ref q9), (0, .ref (zB X + 0)), (1, .int v1), (2, .int v2), (3, .ref (zB X + 508))]) hX dL_span_13 hn (by decide) rfl ?_
      refine z_iconst hX dL_span_15 ci_1 ?_
      obtain rfl := Option.some.inj hf
      exact z_iret hX hr rfl (zl rfl) (zl rfl) dL_span_16
    · replace hf := zif_neg h2 hf
      exact zno hf
  refine z_callV1 hX ok_X11_span q1479 q1480 q1481 (zrm_ok hR (by decide)) (ct_X11_span h1) (zrec_Post hX zq_0) dL_span_5 rfl rfl ?_
  refine z_i2l hX dL_span_8 ?_
  replace hf := zchk_some hf
  obtain ⟨h3, hf⟩ := hf
  replace hf := zput_some hf
  obtain ⟨g4, eg4, hf⟩ := hf
  refine z_last hX zq_508 rfl h3 dL_span_9 (zW.eqg eg4 ?_)
  refine z_goto hX 17 dL_span_10 (by decide) ?_
  refine z_iconst hX dL_span_17 ci_0 ?_
  obtain rfl := Option.some.inj hf
  exact z_iret hX hr rfl (zl rfl) (zl rfl) dL_span_18
set_option maxHeartbeats 4000000 in
set_option maxRecDepth 100000 in
theorem ct_L_span {E : zE} {v1 : Int32} {v2 : Int32} {g : zM} {r : Int32 × zM} (hf : fL_span v1 v2 g = some r) : zCtW yL_span cL_span 5 (some .int) [(0, 10, 13, 13)] 9 1 E [.ref (E.1 + 0), .int v1, .int v2, .ref (E.1 + 508)] g (some (.int r.1)) r.2 := by
  refine zmetW (by decide) (zl rfl) (fun X hE hX hTb hR hr hn => ?_)
  subst hE
  exact fL_span_ok hX hTb hR hr hn hf
