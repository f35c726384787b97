def fLc_0 (L : Nat) (xs : Nat → Int32) (kk : zM → Option Unit) (v4 : Int32) (g : zM) : Option Unit := zchk (v4 + 1) L (zchk (v4 + 2) L (zchk (v4 + 3) L (zchk (v4 + 4) L (zchk (v4 + 5) L (zb2 (fX11_feed (xs (v4 + 1).toNatClampNeg) (xs (v4 + 2).toNatClampNeg) (xs (v4 + 3).toNatClampNeg) (xs (v4 + 4).toNatClampNeg) (xs (v4 + 5).toNatClampNeg) g) (fun r_6 g6 => zchk (v4 + 1) L (zchk (v4 + 2) L (zchk (v4 + 3) L (zchk (v4 + 4) L (zchk (v4 + 5) L (zb2 (fX12_feed (xs (v4 + 1).toNatClampNeg) (xs (v4 + 2).toNatClampNeg) (xs (v4 + 3).toNatClampNeg) (xs (v4 + 4).toNatClampNeg) (xs (v4 + 5).toNatClampNeg) g6) (fun r_12 g12 => if r_6 = r_12 then kk g12 else none))))))))))))
set_option maxHeartbeats 4000000 in
set_option maxRecDepth 100000 in
theorem fLc_0_ok {X : zX} (hX : zCX X cL_law_ RL) (hR : X.2.2.2.1 = room_1) (hn : X.2.2.2.2.2.2.2.2.2.1.maxLocals = 7) {b L : Nat} {xs : Nat → Int32} (hs : zSc X b L xs) {Q : State → Prop} {k n K N : Nat} (hKa : K ≤ 601024) (hNa : N ≤ 7293034) (hKb : k + 12 ≤ K) (hNb : n + 72 ≤ N) {kk : zM → Option Unit} {v4 : Int32} {g : zM} {r : Unit} (hkk : ∀ g, kk g = some r → zW X Q K N 3587 [(0, .ref b), (1, .ref (zB X + 0)), (2, .ref (zB X + 493)), (3, .ref (zB X + 508)), (4, .int v4)] [] g) (hf : fLc_0 L xs kk v4 g = some r) : zW X Q k n 268 [(0, .ref b), (1, .ref (zB X + 0)), (2, .ref (zB X + 493)), (3, .ref (zB X + 508)), (4, .int v4)] [] g := by
  unfold fLc_0 at hf
  refine z_aload_n hX dL_law__268 1 rfl ?_
  refine z_aload_n hX dL_law__269 0 rfl ?_
  refine z_iload hX dL_law__270 4 rfl ?_
  refine z_iconst hX dL_law__272 ci_1 ?_
  refine z_iadd hX dL_law__273 ?_
  replace hf := zchk_some hf
  obtain ⟨h1, hf⟩ := hf
  refine z_sld hX hs h1 dL_law__274 ?_
  refine z_aload_n hX dL_law__275 0 rfl ?_
  refine z_iload hX dL_law__276 4 rfl ?_
  refine z_iconst hX dL_law__278 ci_2 ?_
  refine z_iadd hX dL_law__279 ?_
  replace hf := zchk_some hf
  obtain ⟨h2, hf⟩ := hf
  refine z_sld hX hs h2 dL_law__280 ?_
  refine z_aload_n hX dL_law__281 0 rfl ?_
  refine z_iload hX dL_law__282 4 rfl ?_
  refine z_iconst hX dL_law__284 ci_3 ?_
  refine z_iadd hX dL_law__285 ?_
  replace hf := zchk_some hf
  obtain ⟨h3, hf⟩ := hf
  refine z_sld hX hs h3 dL_law__286 ?_
  refine z_aload_n hX dL_law__287 0 rfl ?_
  refine z_iload hX dL_law__288 4 rfl ?_
  refine z_iconst hX dL_law__290 ci_4 ?_
  refine z_iadd hX dL_law__291 ?_
  replace hf := zchk_some hf
  obtain ⟨h4, hf⟩ := hf
  refine z_sld hX hs h4 dL_law__292 ?_
  refine z_aload_n hX dL_law__293 0 rfl ?_
  refine z_iload hX dL_law__294 4 rfl ?_
  refine z_iconst hX dL_law__296 ci_5 ?_
  refine z_iadd hX dL_law__297 ?_
  replace hf := zchk_some hf
  obtain ⟨h5, hf⟩ := hf
  refine z_sld hX hs h5 dL_law__298 ?_
  replace hf := zb2_some hf
  obtain ⟨r_6, g6, h6, hf⟩ := hf
  refine z_callV1 hX ok_X11_feed q482 q483 q484 (zrm_law hR (by decide) hKa hNa (by omega) (by omega)) (ct_X11_feed  h6) (zrec_Post hX zq_0) dL_law__299 rfl rfl ?_
  refine z_aload_n hX dL_law__302 2 rfl ?_
  refine z_aload_n hX dL_law__303 0 rfl ?_
  refine z_iload hX dL_law__304 4 rfl ?_
  refine z_iconst hX dL_law__306 ci_1 ?_
  refine z_iadd hX dL_law__307 ?_
  replace hf := zchk_some hf
  obtain ⟨h7, hf⟩ := hf
  refine z_sld hX hs h7 dL_law__308 ?_
  refine z_aload_n hX dL_law__309 0 rfl ?_
  refine z_iload hX dL_law__310 4 rfl ?_
  refine z_iconst hX dL_law__312 ci_2 ?_
  refine z_iadd hX dL_law__313 ?_
  replace hf := zchk_some hf
  obtain ⟨h8, hf⟩ := hf
  refine z_sld hX hs h8 dL_law__314 ?_
  refine z_aload_n hX dL_law__315 0 rfl ?_
  refine z_iload hX dL_law__316 4 rfl ?_
  refine z_iconst hX dL_law__318 ci_3 ?_
  refine z_iadd hX dL_law__319 ?_
  replace hf := zchk_some hf
  obtain ⟨h9, hf⟩ := hf
  refine z_sld hX hs h9 dL_law__320 ?_
  refine z_aload_n hX dL_law__321 0 rfl ?_
  refine z_iload hX dL_law__322 4 rfl ?_
  refine z_iconst hX dL_law__324 ci_4 ?_
  refine z_iadd hX dL_law__325 ?_
  replace hf := zchk_some hf
  obtain ⟨h10, hf⟩ := hf
  refine z_sld hX hs h10 dL_law__326 ?_
  refine z_aload_n hX dL_law__327 0 rfl ?_
  refine z_iload hX dL_law__328 4 rfl ?_
  refine z_iconst hX dL_law__330 ci_5 ?_
  refine z_iadd hX dL_law__331 ?_
  replace hf := zchk_some hf
  obtain ⟨h11, hf⟩ := hf
  refine z_sld hX hs h11 dL_law__332 ?_
  replace hf := zb2_some hf
  obtain ⟨r_12, g12, h12, hf⟩ := hf
  refine z_callV1 hX ok_X12_feed q1597 q1598 q1599 (zrm_law hR (by decide) hKa hNa (by omega) (by omega)) (ct_X12_feed  h12) (zrec_Model hX zq_493) dL_law__333 rfl rfl ?_
  refine z_icmp_eq hX 3587 dL_law__336 (by decide) (fun h13 => ?_) (fun h13 => ?_)
  · replace hf := zif_pos h13 hf
    refine zW.widen (k' := K) (n' := N) (by omega) (by omega) ?_
    exact hkk g12 hf
  · replace hf := zif_neg h13 hf
    exact zno hf
def fLc_1 (L : Nat) (xs : Nat → Int32) (kk : zM → Option Unit) (v4 : Int32) (g : zM) : Option Unit := zchk (v4 + 1) L (zb2 (fX11_end (xs (v4 + 1).toNatClampNeg) g) (fun r_2 g2 => zchk (v4 + 1) L (zb2 (fX12_end (xs (v4 + 1).toNatClampNeg) g2) (fun r_4 g4 => if r_2 = r_4 then kk g4 else none))))
set_option maxHeartbeats 4000000 in
set_option maxRecDepth 100000 in
theorem fLc_1_ok {X : zX} (hX : zCX X cL_law_ RL) (hR : X.2.2.2.1 = room_1) (hn : X.2.2.2.2.2.2.2.2.2.1.maxLocals = 7) {b L : Nat} {xs : Nat → Int32} (hs : zSc X b L xs) {Q : State → Prop} {k n K N : Nat} (hKa : K ≤ 601024) (hNa : N ≤ 7293034) (hKb : k + 12 ≤ K) (hNb : n + 72 ≤ N) {kk : zM → Option Unit} {v4 : Int32} {g : zM} {r : Unit} (hkk : ∀ g, kk g = some r → zW X Q K N 3587 [(0, .ref b), (1, .ref (zB X + 0)), (2, .ref (zB X + 493)), (3, .ref (zB X + 508)), (4, .int v4)] [] g) (hf : fLc_1 L xs kk v4 g = some r) : zW X Q k n 341 [(0, .ref b), (1, .ref (zB X + 0)), (2, .ref (zB X + 493)), (3, .ref (zB X + 508)), (4, .int v4)] [] g := by
  unfold fLc_1 at hf
  refine z_aload_n hX dL_law__341 1 rfl ?_
  refine z_aload_n hX dL_law__342 0 rfl ?_
  refine z_iload hX dL_law__343 4 rfl ?_
  refine z_iconst hX dL_law__345 ci_1 ?_
  refine z_iadd hX dL_law__346 ?_
  replace hf := zchk_some hf
  obtain ⟨h1, hf⟩ := hf
  refine z_sld hX hs h1 dL_law__347 ?_
  replace hf := zb2_some hf
  obtain ⟨r_2, g2, h2, hf⟩ := hf
  refine z_callV1 hX ok_X11_end q490 q491 q492 (zrm_law hR (by decide) hKa hNa (by omega) (by omega)) (ct_X11_end  h2) (zrec_Post hX zq_0) dL_law__348 rfl rfl ?_
  refine z_aload_n hX dL_law__351 2 rfl ?_
  refine z_aload_n hX dL_law__352 0 rfl ?_
  refine z_iload hX dL_law__353 4 rfl ?_
  refine z_iconst hX dL_law__355 ci_1 ?_
  refine z_iadd hX dL_law__356 ?_
  replace hf := zchk_some hf
  obtain ⟨h3, hf⟩ := hf
  refine z_sld hX hs h3 dL_law__357 ?_
  replace hf := zb2_some hf
  obtain ⟨r_4, g4, h4, hf⟩ := hf
  refine z_callV1 hX ok_X12_end q1601 q1602 q1603 (zrm_law hR (by decide) hKa hNa (by omega) (by omega)) (ct_X12_end  h4) (zrec_Model hX zq_493) dL_law__358 rfl rfl ?_
  refine z_icmp_eq hX 3587 dL_law__361 (by decide) (fun h5 => ?_) (fun h5 => ?_)
  · replace hf := zif_pos h5 hf
    refine zW.widen (k' := K) (n' := N) (by omega) (by omega) ?_
    exact hkk g4 hf
  · replace hf := zif_neg h5 hf
    exact zno hf
def fLc_2 (L : Nat) (xs : Nat → Int32) (kk : zM → Option Unit) (v4 : Int32) (g : zM) : Option Unit := zb2 (fL_post g) (fun r_1 g1 => zb2 (fX12_post g1) (fun r_2 g2 => zb (fX12_thrown g2) (fun r_3 => if r_3 = r_1 then if r_1 = 0 then zchk 0 1 (if (lg_cmp ((g2 508 (0 : Int32).toNatClampNeg).toInt64) r_2.toInt64) = 0 then kk g2 else none) else kk g2 else none)))
set_option maxHeartbeats 4000000 in
set_option maxRecDepth 100000 in
theorem fLc_2_ok {X : zX} (hX : zCX X cL_law_ RL) (hR : X.2.2.2.1 = room_1) (hn : X.2.2.2.2.2.2.2.2.2.1.maxLocals = 7) {b L : Nat} {xs : Nat → Int32} (hs : zSc X b L xs) {Q : State → Prop} {k n K N : Nat} (hKa : K ≤ 601024) (hNa : N ≤ 7293034) (hKb : k + 12 ≤ K) (hNb : n + 72 ≤ N) {kk : zM → Option Unit} {v4 : Int32} {g : zM} {r : Unit} (hkk : ∀ g, kk g = some r → zW X Q K N 3587 [(0, .ref b), (1, .ref (zB X + 0)), (2, .ref (zB X + 493)), (3, .ref (zB X + 508)), (4, .int v4)] [] g) (hf : fLc_2 L xs kk v4 g = some r) : zW X Q k n 366 [(0, .ref b), (1, .ref (zB X + 0)), (2, .ref (zB X + 493)), (3, .ref (zB X + 508)), (4, .int v4)] [] g := by
  unfold fLc_2 at hf
  refine z_aload_n hX dL_law__366 1 rfl ?_
  refine z_aload_n hX dL_law__367 3 rfl ?_
  replace hf := zb2_some hf
  obtain ⟨r_1, g1, h1, hf⟩ := hf
  refine z_callW1 hX okw_L_post q644 q645 (zrm_law hR (by decide) hKa hNa (by omega) (by omega)) (ct_L_post h1) dL_law__368 rfl rfl ?_
  refine z_istore (lv' := [(5, .int r_1), (0, .ref b), (1, .ref (zB X + 0)), (2, .ref (zB X + 493)), (3, .ref (zB X + 508)), (4, .int v4)]) hX dL_law__371 hn (by decide) rfl ?_
  refine z_aload_n hX dL_law__373 3 rfl ?_
  replace hf := zb2_some hf
  obtain ⟨r_2, g2, h2, hf⟩ := hf
  refine z_callV1 hX ok_X12_post q1609 q1610 q1611 (zrm_law hR (by decide) hKa hNa (by omega) (by omega)) (ct_X12_post  h2) (zrec_Model hX zq_493) dL_law__374 rfl rfl ?_
  refine z_istore (lv' := [(6, .int r_2), (5, .int r_1), (0, .ref b), (1, .ref (zB X + 0)), (2, .ref (zB X + 493)), (3, .ref (zB X + 508)), (4, .int v4)]) hX dL_law__377 hn (by decide) rfl ?_
  refine z_aload_n hX dL_law__379 4 rfl ?_
  replace hf := zb_some hf
  obtain ⟨r_3, h3, hf⟩ := hf
  refine z_callV1 hX ok_X12_thrown q1484 q1485 q1486 (zrm_law hR (by decide) hKa hNa (by omega) (by omega)) (ct_X12_thrown  h3) (zrec_Model hX zq_493) dL_law__380 rfl rfl ?_
  refine z_iload hX dL_law__383 1 rfl ?_
  refine z_icmp_eq hX 390 dL_law__385 (by decide) (fun h4 => ?_) (fun h4 => ?_)
  · replace hf := zif_pos h4 hf
    refine z_iload hX dL_law__390 1 rfl ?_
    refine z_if_ne hX 407 dL_law__392 (by decide) (fun h5 => ?_) (fun h5 => ?_)
    · replace hf := zif_neg h5 hf
      refine z_goto hX 3587 dL_law__407 (by decide) ?_
      refine zW.sub [2, 3, 4, 5, 6] rfl ?_
      refine zW.widen (k' := K) (n' := N) (by omega) (by omega) ?_
      exact hkk g2 hf
    · replace hf := zif_pos h5 hf
      refine z_aload_n hX dL_law__395 5 rfl ?_
      refine z_iconst hX dL_law__396 ci_0 ?_
      replace hf := zchk_some hf
      obtain ⟨h6, hf⟩ := hf
      refine z_lald hX zq_508 h6 dL_law__397 ?_
      refine z_iload hX dL_law__398 0 rfl ?_
      refine z_i2l hX dL_law__400 ?_
      refine z_lcmp hX dL_law__401 ?_
      refine z_if_eq hX 407 dL_law__402 (by decide) (fun h7 => ?_) (fun h7 => ?_)
      · replace hf := zif_pos h7 hf
        refine z_goto hX 3587 dL_law__407 (by decide) ?_
        refine zW.sub [2, 3, 4, 5, 6] rfl ?_
        refine zW.widen (k' := K) (n' := N) (by omega) (by omega) ?_
        exact hkk g2 hf
      · replace hf := zif_neg h7 hf
        exact zno hf
  · replace hf := zif_neg h4 hf
    exact zno hf
def fLc_3 (L : Nat) (xs : Nat → Int32) (kk : zM → Option Unit) (v4 : Int32) (g : zM) : Option Unit := zb2 (fL_law g) (fun r_1 g1 => zb2 (fX12_law g1) (fun r_2 g2 => zb (fX12_thrown g2) (fun r_3 => if r_3 = r_1 then if r_1 = 0 then zchk 0 1 (if (lg_cmp ((g2 508 (0 : Int32).toNatClampNeg).toInt64) r_2.toInt64) = 0 then kk g2 else none) else kk g2 else none)))
set_option maxHeartbeats 4000000 in
set_option maxRecDepth 100000 in
theorem fLc_3_ok {X : zX} (hX : zCX X cL_law_ RL) (hR : X.2.2.2.1 = room_1) (hn : X.2.2.2.2.2.2.2.2.2.1.maxLocals = 7) {b L : Nat} {xs : Nat → Int32} (hs : zSc X b L xs) {Q : State → Prop} {k n K N : Nat} (hKa : K ≤ 601024) (hNa : N ≤ 7293034) (hKb : k + 12 ≤ K) (hNb : n + 72 ≤ N) {kk : zM → Option Unit} {v4 : Int32} {g : zM} {r : Unit} (hkk : ∀ g, kk g = some r → zW X Q K N 3587 [(0, .ref b), (1, .ref (zB X + 0)), (2, .ref (zB X + 493)), (3, .ref (zB X + 508)), (4, .int v4)] [] g) (hf : fLc_3 L xs kk v4 g = some r) : zW X Q k n 410 [(0, .ref b), (1, .ref (zB X + 0)), (2, .ref (zB X + 493)), (3, .ref (zB X + 508)), (4, .int v4)] [] g := by
  unfold fLc_3 at hf
  refine z_aload_n hX dL_law__410 1 rfl ?_
  refine z_aload_n hX dL_law__411 3 rfl ?_
  replace hf := zb2_some hf
  obtain ⟨r_1, g1, h1, hf⟩ := hf
  refine z_callW1 hX okw_L_law q949 q950 (zrm_law hR (by decide) hKa hNa (by omega) (by omega)) (ct_L_law h1) dL_law__412 rfl rfl ?_
  refine z_istore (lv' := [(5, .int r_1), (0, .ref b), (1, .ref (zB X + 0)), (2, .ref (zB X + 493)), (3, .ref (zB X + 508)), (4, .int v4)]) hX dL_law__415 hn (by decide) rfl ?_
  refine z_aload_n hX dL_law__417 3 rfl ?_
  replace hf := zb2_some hf
  obtain ⟨r_2, g2, h2, hf⟩ := hf
  refine z_callV1 hX ok_X12_law q1779 q1780 q1781 (zrm_law hR (by decide) hKa hNa (by omega) (by omega)) (ct_X12_law  h2) (zrec_Model hX zq_493) dL_law__418 rfl rfl ?_
  refine z_istore (lv' := [(6, .int r_2), (5, .int r_1), (0, .ref b), (1, .ref (zB X + 0)), (2, .ref (zB X + 493)), (3, .ref (zB X + 508)), (4, .int v4)]) hX dL_law__421 hn (by decide) rfl ?_
  refine z_aload_n hX dL_law__423 4 rfl ?_
  replace hf := zb_some hf
  obtain ⟨r_3, h3, hf⟩ := hf
  refine z_callV1 hX ok_X12_thrown q1484 q1485 q1486 (zrm_law hR (by decide) hKa hNa (by omega) (by omega)) (ct_X12_thrown  h3) (zrec_Model hX zq_493) dL_law__424 rfl rfl ?_
  refine z_iload hX dL_law__427 1 rfl ?_
  refine z_icmp_eq hX 434 dL_law__429 (by decide) (fun h4 => ?_) (fun h4 => ?_)
  · replace hf := zif_pos h4 hf
    refine z_iload hX dL_law__434 1 rfl ?_
    refine z_if_ne hX 451 dL_law__436 (by decide) (fun h5 => ?_) (fun h5 => ?_)
    · replace hf := zif_neg h5 hf
      refine z_goto hX 3587 dL_law__451 (by decide) ?_
      refine zW.sub [2, 3, 4, 5, 6] rfl ?_
      refine zW.widen (k' := K) (n' := N) (by omega) (by omega) ?_
      exact hkk g2 hf
    · replace hf := zif_pos h5 hf
      refine z_aload_n hX dL_law__439 5 rfl ?_
      refine z_iconst hX dL_law__440 ci_0 ?_
      replace hf := zchk_some hf
      obtain ⟨h6, hf⟩ := hf
      refine z_lald hX zq_508 h6 dL_law__441 ?_
      refine z_iload hX dL_law__442 0 rfl ?_
      refine z_i2l hX dL_law__444 ?_
      refine z_lcmp hX dL_law__445 ?_
      refine z_if_eq hX 451 dL_law__446 (by decide) (fun h7 => ?_) (fun h7 => ?_)
      · replace hf := zif_pos h7 hf
        refine z_goto hX 3587 dL_law__451 (by decide) ?_
        refine zW.sub [2, 3, 4, 5, 6] rfl ?_
        refine zW.widen (k' := K) (n' := N) (by omega) (by omega) ?_
        exact hkk g2 hf
      · replace hf := zif_neg h7 hf
        exact zno hf
  · replace hf := zif_neg h4 hf
    exact zno hf
def fLc_4 (L : Nat) (xs : Nat → Int32) (kk : zM → Option Unit) (v4 : Int32) (g : zM) : Option Unit := zb (fX11_fault g) (fun r_1 => zb2 (fX12_fault g) (fun r_2 g2 => if r_1 = r_2 then kk g2 else none))
set_option maxHeartbeats 4000000 in
set_option maxRecDepth 100000 in
theorem fLc_4_ok {X : zX} (hX : zCX X cL_law_ RL) (hR : X.2.2.2.1 = room_1) (hn : X.2.2.2.2.2.2.2.2.2.1.maxLocals = 7) {b L : Nat} {xs : Nat → Int32} (hs : zSc X b L xs) {Q : State → Prop} {k n K N : Nat} (hKa : K ≤ 601024) (hNa : N ≤ 7293034) (hKb : k + 12 ≤ K) (hNb : n + 72 ≤ N) {kk : zM → Option Unit} {v4 : Int32} {g : zM} {r : Unit} (hkk : ∀ g, kk g = some r → zW X Q K N 3587 [(0, .ref b), (1, .ref (zB X + 0)), (2, .ref (zB X + 493)), (3, .ref (zB X + 508)), (4, .int v4)] [] g) (hf : fLc_4 L xs kk v4 g = some r) : zW X Q k n 454 [(0, .ref b), (1, .ref (zB X + 0)), (2, .ref (zB X + 493)), (3, .ref (zB X + 508)), (4, .int v4)] [] g := by
  unfold fLc_4 at hf
  refine z_aload_n hX dL_law__454 1 rfl ?_
  replace hf := zb_some hf
  obtain ⟨r_1, h1, hf⟩ := hf
  refine z_callV1 hX ok_X11_fault q494 q495 q496 (zrm_law hR (by decide) hKa hNa (by omega) (by omega)) (ct_X11_fault  h1) (zrec_Post hX zq_0) dL_law__455 rfl rfl ?_
  refine z_aload_n hX dL_law__458 2 rfl ?_
  replace hf := zb2_some hf
  obtain ⟨r_2, g2, h2, hf⟩ := hf
  refine z_callV1 hX ok_X12_fault q1605 q1606 q1607 (zrm_law hR (by decide) hKa hNa (by omega) (by omega)) (ct_X12_fault  h2) (zrec_Model hX zq_493) dL_law__459 rfl rfl ?_
  refine z_icmp_eq hX 3587 dL_law__462 (by decide) (fun h3 => ?_) (fun h3 => ?_)
  · replace hf := zif_pos h3 hf
    refine zW.widen (k' := K) (n' := N) (by omega) (by omega) ?_
    exact hkk g2 hf
  · replace hf := zif_neg h3 hf
    exact zno hf
def fLc_5 (L : Nat) (xs : Nat → Int32) (kk : zM → Option Unit) (v4 : Int32) (g : zM) : Option Unit := zchk (v4 + 1) L (zchk (v4 + 2) L (zb2 (fL_letter (xs (v4 + 1).toNatClampNeg) (xs (v4 + 2).toNatClampNeg) g) (fun r_3 g3 => zchk (v4 + 1) L (zchk (v4 + 2) L (zb2 (fX12_letter (xs (v4 + 1).toNatClampNeg) (xs (v4 + 2).toNatClampNeg) g3) (fun r_6 g6 => zb (fX12_thrown g6) (fun r_7 => if r_7 = r_3 then if r_3 = 0 then zchk 0 1 (if (lg_cmp ((g6 508 (0 : Int32).toNatClampNeg).toInt64) r_6.toInt64) = 0 then kk g6 else none) else kk g6 else none)))))))
set_option maxHeartbeats 4000000 in
set_option maxRecDepth 100000 in
theorem fLc_5_ok {X : zX} (hX : zCX X cL_law_ RL) (hR : X.2.2.2.1 = room_1) (hn : X.2.2.2.2.2.2.2.2.2.1.maxLocals = 7) {b L : Nat} {xs : Nat → Int32} (hs : zSc X b L xs) {Q : State → Prop} {k n K N : Nat} (hKa : K ≤ 601024) (hNa : N ≤ 7293034) (hKb : k + 12 ≤ K) (hNb : n + 72 ≤ N) {kk : zM → Option Unit} {v4 : Int32} {g : zM} {r : Unit} (hkk : ∀ g, kk g = some r → zW X Q K N 3587 [(0, .ref b), (1, .ref (zB X + 0)), (2, .ref (zB X + 493)), (3, .ref (zB X + 508)), (4, .int v4)] [] g) (hf : fLc_5 L xs kk v4 g = some r) : zW X Q k n 467 [(0, .ref b), (1, .ref (zB X + 0)), (2, .ref (zB X + 493)), (3, .ref (zB X + 508)), (4, .int v4)] [] g := by
  unfold fLc_5 at hf
  refine z_aload_n hX dL_law__467 1 rfl ?_
  refine z_aload_n hX dL_law__468 0 rfl ?_
  refine z_iload hX dL_law__469 4 rfl ?_
  refine z_iconst hX dL_law__471 ci_1 ?_
  refine z_iadd hX dL_law__472 ?_
  replace hf := zchk_some hf
  obtain ⟨h1, hf⟩ := hf
  refine z_sld hX hs h1 dL_law__473 ?_
  refine z_aload_n hX dL_law__474 0 rfl ?_
  refine z_iload hX dL_law__475 4 rfl ?_
  refine z_iconst hX dL_law__477 ci_2 ?_
  refine z_iadd hX dL_law__478 ?_
  replace hf := zchk_some hf
  obtain ⟨h2, hf⟩ := hf
  refine z_sld hX hs h2 dL_law__479 ?_
  refine z_aload_n hX dL_law__480 3 rfl ?_
  replace hf := zb2_some hf
  obtain ⟨r_3, g3, h3, hf⟩ := hf
  refine z_callW1 hX okw_L_letter q965 q966 (zrm_law hR (by decide) hKa hNa (by omega) (by omega)) (ct_L_letter h3) dL_law__481 rfl rfl ?_
  refine z_istore (lv' := [(5, .int r_3), (0, .ref b), (1, .ref (zB X + 0)), (2, .ref (zB X + 493)), (3, .ref (zB X + 508)), (4, .int v4)]) hX dL_law__484 hn (by decide) rfl ?_
  refine z_aload_n hX dL_law__486 3 rfl ?_
  refine z_aload_n hX dL_law__487 1 rfl ?_
  refine z_iload hX dL_law__488 5 rfl ?_
  refine z_iconst hX dL_law__490 ci_1 ?_
  refine z_iadd hX dL_law__491 ?_
  replace hf := zchk_some hf
  obtain ⟨h4, hf⟩ := hf
  refine z_sld hX hs h4 dL_law__492 ?_
  refine z_aload_n hX dL_law__493 1 rfl ?_
  refine z_iload hX dL_law__494 5 rfl ?_
  refine z_iconst hX dL_law__496 ci_2 ?_
  refine z_iadd hX dL_law__497 ?_
  replace hf := zchk_some hf
  obtain ⟨h5, hf⟩ := hf
  refine z_sld hX hs h5 dL_law__498 ?_
  replace hf := zb2_some hf
  obtain ⟨r_6, g6, h6, hf⟩ := hf
  refine z_callV1 hX ok_X12_letter q1783 q1784 q1785 (zrm_law hR (by decide) hKa hNa (by omega) (by omega)) (ct_X12_letter  h6) (zrec_Model hX zq_493) dL_law__499 rfl rfl ?_
  refine z_istore (lv' := [(6, .int r_6), (5, .int r_3), (0, .ref b), (1, .ref (zB X + 0)), (2, .ref (zB X + 493)), (3, .ref (zB X + 508)), (4, .int v4)]) hX dL_law__502 hn (by decide) rfl ?_
  refine z_aload_n hX dL_law__504 4 rfl ?_
  replace hf := zb_some hf
  obtain ⟨r_7, h7, hf⟩ := hf
  refine z_callV1 hX ok_X12_thrown q1484 q1485 q1486 (zrm_law hR (by decide) hKa hNa (by omega) (by omega)) (ct_X12_thrown  h7) (zrec_Model hX zq_493) dL_law__505 rfl rfl ?_
  refine z_iload hX dL_law__508 1 rfl ?_
  refine z_icmp_eq hX 515 dL_law__510 (by decide) (fun h8 => ?_) (fun h8 => ?_)
  · replace hf := zif_pos h8 hf
    refine z_iload hX dL_law__515 1 rfl ?_
    refine z_if_ne hX 532 dL_law__517 (by decide) (fun h9 => ?_) (fun h9 => ?_)
    · replace hf := zif_neg h9 hf
      refine z_goto hX 3587 dL_law__532 (by decide) ?_
      refine zW.sub [2, 3, 4, 5, 6] rfl ?_
      refine zW.widen (k' := K) (n' := N) (by omega) (by omega) ?_
      exact hkk g6 hf
    · replace hf := zif_pos h9 hf
      refine z_aload_n hX dL_law__520 5 rfl ?_
      refine z_iconst hX dL_law__521 ci_0 ?_
      replace hf := zchk_some hf
      obtain ⟨h10, hf⟩ := hf
      refine z_lald hX zq_508 h10 dL_law__522 ?_
      refine z_iload hX dL_law__523 0 rfl ?_
      refine z_i2l hX dL_law__525 ?_
      refine z_lcmp hX dL_law__526 ?_
      refine z_if_eq hX 532 dL_law__527 (by decide) (fun h11 => ?_) (fun h11 => ?_)
      · replace hf := zif_pos h11 hf
        refine z_goto hX 3587 dL_law__532 (by decide) ?_
        refine zW.sub [2, 3, 4, 5, 6] rfl ?_
        refine zW.widen (k' := K) (n' := N) (by omega) (by omega) ?_
        exact hkk g6 hf
      · replace hf := zif_neg h11 hf
        exact zno hf
  · replace hf := zif_neg h8 hf
    exact zno hf
def fLc_6 (L : Nat) (xs : Nat → Int32) (kk : zM → Option Unit) (v4 : Int32) (g : zM) : Option Unit := zchk (v4 + 1) L (zchk (v4 + 2) L (zchk (v4 + 3) L (if (xs (v4 + 3).toNatClampNeg) = 0 then zb2 (fL_line (xs (v4 + 1).toNatClampNeg) (xs (v4 + 2).toNatClampNeg) 0 g) (fun r_5 g5 => zchk (v4 + 1) L (zchk (v4 + 2) L (zchk (v4 + 3) L (if (xs (v4 + 3).toNatClampNeg) = 0 then zb2 (fX12_line (xs (v4 + 1).toNatClampNeg) (xs (v4 + 2).toNatClampNeg) 0 g5) (fun r_10 g10 => zb (fX12_thrown g10) (fun r_11 => if r_11 = r_5 then if r_5 = 0 then zchk 0 1 (if (lg_cmp ((g10 508 (0 : Int32).toNatClampNeg).toInt64) r_10.toInt64) = 0 then kk g10 else none) else kk g10 else none)) else zb2 (fX12_line (xs (v4 + 1).toNatClampNeg) (xs (v4 + 2).toNatClampNeg) 1 g5) (fun r_16 g16 => zb (fX12_thrown g16) (fun r_17 => if r_17 = r_5 then if r_5 = 0 then zchk 0 1 (if (lg_cmp ((g16 508 (0 : Int32).toNatClampNeg).toInt64) r_16.toInt64) = 0 then kk g16 else none) else kk g16 else none)))))) else zb2 (fL_line (xs (v4 + 1).toNatClampNeg) (xs (v4 + 2).toNatClampNeg) 1 g) (fun r_22 g22 => zchk (v4 + 1) L (zchk (v4 + 2) L (zchk (v4 + 3) L (if (xs (v4 + 3).toNatClampNeg) = 0 then zb2 (fX12_line (xs (v4 + 1).toNatClampNeg) (xs (v4 + 2).toNatClampNeg) 0 g22) (fun r_27 g27 => zb (fX12_thrown g27) (fun r_28 => if r_28 = r_22 then if r_22 = 0 then zchk 0 1 (if (lg_cmp ((g27 508 (0 : Int32).toNatClampNeg).toInt64) r_27.toInt64) = 0 then kk g27 else none) else kk g27 else none)) else zb2 (fX12_line (xs (v4 + 1).toNatClampNeg) (xs (v4 + 2).toNatClampNeg) 1 g22) (fun r_33 g33 => zb (fX12_thrown g33) (fun r_34 => if r_34 = r_22 then if r_22 = 0 then zchk 0 1 (if (lg_cmp ((g33 508 (0 : Int32).toNatClampNeg).toInt64) r_33.toInt64) = 0 then kk g33 else none) else kk g33 else none)))))))))
set_option maxHeartbeats 4000000 in
set_option maxRecDepth 100000 in
theorem fLc_6_ok {X : zX} (hX : zCX X cL_law_ RL) (hR : X.2.2.2.1 = room_1) (hn : X.2.2.2.2.2.2.2.2.2.1.maxLocals = 7) {b L : Nat} {xs : Nat → Int32} (hs : zSc X b L xs) {Q : State → Prop} {k n K N : Nat} (hKa : K ≤ 601024) (hNa : N ≤ 7293034) (hKb : k + 12 ≤ K) (hNb : n + 72 ≤ N) {kk : zM → Option Unit} {v4 : Int32} {g : zM} {r : Unit} (hkk : ∀ g, kk g = some r → zW X Q K N 3587 [(0, .ref b), (1, .ref (zB X + 0)), (2, .ref (zB X + 493)), (3, .ref (zB X + 508)), (4, .int v4)] [] g) (hf : fLc_6 L xs kk v4 g = some r) : zW X Q k n 535 [(0, .ref b), (1, .ref (zB X + 0)), (2, .ref (zB X + 493)), (3, .ref (zB X + 508)), (4, .int v4)] [] g := by
  unfold fLc_6 at hf
  refine z_aload_n hX dL_law__535 1 rfl ?_
  refine z_aload_n hX dL_law__536 0 rfl ?_
  refine z_iload hX dL_law__537 4 rfl ?_
  refine z_iconst hX dL_law__539 ci_1 ?_
  refine z_iadd hX dL_law__540 ?_
  replace hf := zchk_some hf
  obtain ⟨h1, hf⟩ := hf
  refine z_sld hX hs h1 dL_law__541 ?_
  refine z_aload_n hX dL_law__542 0 rfl ?_
  refine z_iload hX dL_law__543 4 rfl ?_
  refine z_iconst hX dL_law__545 ci_2 ?_
  refine z_iadd hX dL_law__546 ?_
  replace hf := zchk_some hf
  obtain ⟨h2, hf⟩ := hf
  refine z_sld hX hs h2 dL_law__547 ?_
  refine z_aload_n hX dL_law__548 0 rfl ?_
  refine z_iload hX dL_law__549 4 rfl ?_
  refine z_iconst hX dL_law__551 ci_3 ?_
  refine z_iadd hX dL_law__552 ?_
  replace hf := zchk_some hf
  obtain ⟨h3, hf⟩ := hf
  refine z_sld hX hs h3 dL_law__553 ?_
  refine z_if_eq hX 561 dL_law__554 (by decide) (fun h4 => ?_) (fun h4 => ?_)
  · replace hf := zif_pos h4 hf
    refine z_iconst hX dL_law__561 ci_0 ?_
    refine z_aload_n hX dL_law__562 3 rfl ?_
    replace hf := zb2_some hf
    obtain ⟨r_5, g5, h5, hf⟩ := hf
    refine z_callW1 hX okw_L_line q1015 q1016 (zrm_law hR (by decide) hKa hNa (by omega) (by omega)) (ct_L_line h5) dL_law__563 rfl rfl ?_
    refine z_istore (lv' := [(5, .int r_5), (0, .ref b), (1, .ref (zB X + 0)), (2, .ref (zB X + 493)), (3, .ref (zB X + 508)), (4, .int v4)]) hX dL_law__566 hn (by decide) rfl ?_
    refine z_aload_n hX dL_law__568 3 rfl ?_
    refine z_aload_n hX dL_law__569 1 rfl ?_
    refine z_iload hX dL_law__570 5 rfl ?_
    refine z_iconst hX dL_law__572 ci_1 ?_
    refine z_iadd hX dL_law__573 ?_
    replace hf := zchk_some hf
    obtain ⟨h6, hf⟩ := hf
    refine z_sld hX hs h6 dL_law__574 ?_
    refine z_aload_n hX dL_law__575 1 rfl ?_
    refine z_iload hX dL_law__576 5 rfl ?_
    refine z_iconst hX dL_law__578 ci_2 ?_
    refine z_iadd hX dL_law__579 ?_
    replace hf := zchk_some hf
    obtain ⟨h7, hf⟩ := hf
    refine z_sld hX hs h7 dL_law__580 ?_
    refine z_aload_n hX dL_law__581 1 rfl ?_
    refine z_iload hX dL_law__582 5 rfl ?_
    refine z_iconst hX dL_law__584 ci_3 ?_
    refine z_iadd hX dL_law__585 ?_
    replace hf := zchk_some hf
    obtain ⟨h8, hf⟩ := hf
    refine z_sld hX hs h8 dL_law__586 ?_
    refine z_if_eq hX 594 dL_law__587 (by decide) (fun h9 => ?_) (fun h9 => ?_)
    · replace hf := zif_pos h9 hf
      refine z_iconst hX dL_law__594 ci_0 ?_
      replace hf := zb2_some hf
      obtain ⟨r_10, g10, h10, hf⟩ := hf
      refine z_callV1 hX ok_X12_line q1842 q1843 q1844 (zrm_law hR (by decide) hKa hNa (by omega) (by omega)) (ct_X12_line  h10) (zrec_Model hX zq_493) dL_law__595 rfl rfl ?_
      refine z_istore (lv' := [(6, .int r_10), (5, .int r_5), (0, .ref b), (1, .ref (zB X + 0)), (2, .ref (zB X + 493)), (3, .ref (zB X + 508)), (4, .int v4)]) hX dL_law__598 hn (by decide) rfl ?_
      refine z_aload_n hX dL_law__600 4 rfl ?_
      replace hf := zb_some hf
      obtain ⟨r_11, h11, hf⟩ := hf
      refine z_callV1 hX ok_X12_thrown q1484 q1485 q1486 (zrm_law hR (by decide) hKa hNa (by omega) (by omega)) (ct_X12_thrown  h11) (zrec_Model hX zq_493) dL_law__601 rfl rfl ?_
      refine z_iload hX dL_law__604 1 rfl ?_
      refine z_icmp_eq hX 611 dL_law__606 (by decide) (fun h12 => ?_) (fun h12 => ?_)
      · replace hf := zif_pos h12 hf
        refine z_iload hX dL_law__611 1 rfl ?_
        refine z_if_ne hX 628 dL_law__613 (by decide) (fun h13 => ?_) (fun h13 => ?_)
        · replace hf := zif_neg h13 hf
          refine z_goto hX 3587 dL_law__628 (by decide) ?_
          refine zW.sub [2, 3, 4, 5, 6] rfl ?_
          refine zW.widen (k' := K) (n' := N) (by omega) (by omega) ?_
          exact hkk g10 hf
        · replace hf := zif_pos h13 hf
          refine z_aload_n hX dL_law__616 5 rfl ?_
          refine z_iconst hX dL_law__617 ci_0 ?_
          replace hf := zchk_some hf
          obtain ⟨h14, hf⟩ := hf
          refine z_lald hX zq_508 h14 dL_law__618 ?_
          refine z_iload hX dL_law__619 0 rfl ?_
          refine z_i2l hX dL_law__621 ?_
          refine z_lcmp hX dL_law__622 ?_
          refine z_if_eq hX 628 dL_law__623 (by decide) (fun h15 => ?_) (fun h15 => ?_)
          · replace hf := zif_pos h15 hf
            refine z_goto hX 3587 dL_law__628 (by decide) ?_
            refine zW.sub [2, 3, 4, 5, 6] rfl ?_
            refine zW.widen (k' := K) (n' := N) (by omega) (by omega) ?_
            exact hkk g10 hf
          · replace hf := zif_neg h15 hf
            exact zno hf
      · replace hf := zif_neg h12 hf
        exact zno hf
    · replace hf := zif_neg h9 hf
      refine z_iconst hX dL_law__590 ci_1 ?_
      refine z_goto hX 595 dL_law__591 (by decide) ?_
      replace hf := zb2_some hf
      obtain ⟨r_16, g16, h16, hf⟩ := hf
      refine z_callV1 hX ok_X12_line q1842 q1843 q1844 (zrm_law hR (by decide) hKa hNa (by omega) (by omega)) (ct_X12_line  h16) (zrec_Model hX zq_493) dL_law__595 rfl rfl ?_
      refine z_istore (lv' := [(6, .int r_16), (5, .int r_5), (0, .ref b), (1, .ref (zB X + 0)), (2, .ref (zB X + 493)), (3, .ref (zB X + 508)), (4, .int v4)]) hX dL_law__598 hn (by decide) rfl ?_
      refine z_aload_n hX dL_law__600 4 rfl ?_
      replace hf := zb_some hf
      obtain ⟨r_17, h17, hf⟩ := hf
      refine z_callV1 hX ok_X12_thrown q1484 q1485 q1486 (zrm_law hR (by decide) hKa hNa (by omega) (by omega)) (ct_X12_thrown  h17) (zrec_Model hX zq_493) dL_law__601 rfl rfl ?_
      refine z_iload hX dL_law__604 1 rfl ?_
      refine z_icmp_eq hX 611 dL_law__606 (by decide) (fun h18 => ?_) (fun h18 => ?_)
      · replace hf := zif_pos h18 hf
        refine z_iload hX dL_law__611 1 rfl ?_
        refine z_if_ne hX 628 dL_law__613 (by decide) (fun h19 => ?_) (fun h19 => ?_)
        · replace hf := zif_neg h19 hf
          refine z_goto hX 3587 dL_law__628 (by decide) ?_
          refine zW.sub [2, 3, 4, 5, 6] rfl ?_
          refine zW.widen (k' := K) (n' := N) (by omega) (by omega) ?_
          exact hkk g16 hf
        · replace hf := zif_pos h19 hf
          refine z_aload_n hX dL_law__616 5 rfl ?_
          refine z_iconst hX dL_law__617 ci_0 ?_
          replace hf := zchk_some hf
          obtain ⟨h20, hf⟩ := hf
          refine z_lald hX zq_508 h20 dL_law__618 ?_
          refine z_iload hX dL_law__619 0 rfl ?_
          refine z_i2l hX dL_law__621 ?_
          refine z_lcmp hX dL_law__622 ?_
          refine z_if_eq hX 628 dL_law__623 (by decide) (fun h21 => ?_) (fun h21 => ?_)
          · replace hf := zif_pos h21 hf
            refine z_goto hX 3587 dL_law__628 (by decide) ?_
            refine zW.sub [2, 3, 4, 5, 6] rfl ?_
            refine zW.widen (k' := K) (n' := N) (by omega) (by omega) ?_
            exact hkk g16 hf
          · replace hf := zif_neg h21 hf
            exact zno hf
      · replace hf := zif_neg h18 hf
        exact zno hf
  · replace hf := zif_neg h4 hf
    refine z_iconst hX dL_law__557 ci_1 ?_
    refine z_goto hX 562 dL_law__558 (by decide) ?_
    refine z_aload_n hX dL_law__562 3 rfl ?_
    replace hf := zb2_some hf
    obtain ⟨r_22, g22, h22, hf⟩ := hf
    refine z_callW1 hX okw_L_line q1015 q1016 (zrm_law hR (by decide) hKa hNa (by omega) (by omega)) (ct_L_line h22) dL_law__563 rfl rfl ?_
    refine z_istore (lv' := [(5, .int r_22), (0, .ref b), (1, .ref (zB X + 0)), (2, .ref (zB X + 493)), (3, .ref (zB X + 508)), (4, .int v4)]) hX dL_law__566 hn (by decide) rfl ?_
    refine z_aload_n hX dL_law__568 3 rfl ?_
    refine z_aload_n hX dL_law__569 1 rfl ?_
    refine z_iload hX dL_law__570 5 rfl ?_
    refine z_iconst hX dL_law__572 ci_1 ?_
    refine z_iadd hX dL_law__573 ?_
    replace hf := zchk_some hf
    obtain ⟨h23, hf⟩ := hf
    refine z_sld hX hs h23 dL_law__574 ?_
    refine z_aload_n hX dL_law__575 1 rfl ?_
    refine z_iload hX dL_law__576 5 rfl ?_
    refine z_iconst hX dL_law__578 ci_2 ?_
    refine z_iadd hX dL_law__579 ?_
    replace hf := zchk_some hf
    obtain ⟨h24, hf⟩ := hf
    refine z_sld hX hs h24 dL_law__580 ?_
    refine z_aload_n hX dL_law__581 1 rfl ?_
    refine z_iload hX dL_law__582 5 rfl ?_
    refine z_iconst hX dL_law__584 ci_3 ?_
    refine z_iadd hX dL_law__585 ?_
    replace hf := zchk_some hf
    obtain ⟨h25, hf⟩ := hf
    refine z_sld hX hs h25 dL_law__586 ?_
    refine z_if_eq hX 594 dL_law__587 (by decide) (fun h26 => ?_) (fun h26 => ?_)
    · replace hf := zif_pos h26 hf
      refine z_iconst hX dL_law__594 ci_0 ?_
      replace hf := zb2_some hf
      obtain ⟨r_27, g27, h27, hf⟩ := hf
      refine z_callV1 hX ok_X12_line q1842 q1843 q1844 (zrm_law hR (by decide) hKa hNa (by omega) (by omega)) (ct_X12_line  h27) (zrec_Model hX zq_493) dL_law__595 rfl rfl ?_
      refine z_istore (lv' := [(6, .int r_27), (5, .int r_22), (0, .ref b), (1, .ref (zB X + 0)), (2, .ref (zB X + 493)), (3, .ref (zB X + 508)), (4, .int v4)]) hX dL_law__598 hn (by decide) rfl ?_
      refine z_aload_n hX dL_law__600 4 rfl ?_
      replace hf := zb_some hf
      obtain ⟨r_28, h28, hf⟩ := hf
      refine z_callV1 hX ok_X12_thrown q1484 q1485 q1486 (zrm_law hR (by decide) hKa hNa (by omega) (by omega)) (ct_X12_thrown  h28) (zrec_Model hX zq_493) dL_law__601 rfl rfl ?_
      refine z_iload hX dL_law__604 1 rfl ?_
      refine z_icmp_eq hX 611 dL_law__606 (by decide) (fun h29 => ?_) (fun h29 => ?_)
      · replace hf := zif_pos h29 hf
        refine z_iload hX dL_law__611 1 rfl ?_
        refine z_if_ne hX 628 dL_law__613 (by decide) (fun h30 => ?_) (fun h30 => ?_)
        · replace hf := zif_neg h30 hf
          refine z_goto hX 3587 dL_law__628 (by decide) ?_
          refine zW.sub [2, 3, 4, 5, 6] rfl ?_
          refine zW.widen (k' := K) (n' := N) (by omega) (by omega) ?_
          exact hkk g27 hf
        · replace hf := zif_pos h30 hf
          refine z_aload_n hX dL_law__616 5 rfl ?_
          refine z_iconst hX dL_law__617 ci_0 ?_
          replace hf := zchk_some hf
          obtain ⟨h31, hf⟩ := hf
          refine z_lald hX zq_508 h31 dL_law__618 ?_
          refine z_iload hX dL_law__619 0 rfl ?_
          refine z_i2l hX dL_law__621 ?_
          refine z_lcmp hX dL_law__622 ?_
          refine z_if_eq hX 628 dL_law__623 (by decide) (fun h32 => ?_) (fun h32 => ?_)
          · replace hf := zif_pos h32 hf
            refine z_goto hX 3587 dL_law__628 (by decide) ?_
            refine zW.sub [2, 3, 4, 5, 6] rfl ?_
            refine zW.widen (k' := K) (n' := N) (by omega) (by omega) ?_
            exact hkk g27 hf
          · replace hf := zif_neg h32 hf
            exact zno hf
      · replace hf := zif_neg h29 hf
        exact zno hf
    · replace hf := zif_neg h26 hf
      refine z_iconst hX dL_law__590 ci_1 ?_
      refine z_goto hX 595 dL_law__591 (by decide) ?_
      replace hf := zb2_some hf
      obtain ⟨r_33, g33, h33, hf⟩ := hf
      refine z_callV1 hX ok_X12_line q1842 q1843 q1844 (zrm_law hR (by decide) hKa hNa (by omega) (by omega)) (ct_X12_line  h33) (zrec_Model hX zq_493) dL_law__595 rfl rfl ?_
      refine z_istore (lv' := [(6, .int r_33), (5, .int r_22), (0, .ref b), (1, .ref (zB X + 0)), (2, .ref (zB X + 493)), (3, .ref (zB X + 508)), (4, .int v4)]) hX dL_law__598 hn (by decide) rfl ?_
      refine z_aload_n hX dL_law__600 4 rfl ?_
      replace hf := zb_some hf
      obtain ⟨r_34, h34, hf⟩ := hf
      refine z_callV1 hX ok_X12_thrown q1484 q1485 q1486 (zrm_law hR (by decide) hKa hNa (by omega) (by omega)) (ct_X12_thrown  h34) (zrec_Model hX zq_493) dL_law__601 rfl rfl ?_
      refine z_iload hX dL_law__604 1 rfl ?_
      refine z_icmp_eq hX 611 dL_law__606 (by decide) (fun h35 => ?_) (fun h35 => ?_)
      · replace hf := zif_pos h35 hf
        refine z_iload hX dL_law__611 1 rfl ?_
        refine z_if_ne hX 628 dL_law__613 (by decide) (fun h36 => ?_) (fun h36 => ?_)
        · replace hf := zif_neg h36 hf
          refine z_goto hX 3587 dL_law__628 (by decide) ?_
          refine zW.sub [2, 3, 4, 5, 6] rfl ?_
          refine zW.widen (k' := K) (n' := N) (by omega) (by omega) ?_
          exact hkk g33 hf
        · replace hf := zif_pos h36 hf
          refine z_aload_n hX dL_law__616 5 rfl ?_
          refine z_iconst hX dL_law__617 ci_0 ?_
          replace hf := zchk_some hf
          obtain ⟨h37, hf⟩ := hf
          refine z_lald hX zq_508 h37 dL_law__618 ?_
          refine z_iload hX dL_law__619 0 rfl ?_
          refine z_i2l hX dL_law__621 ?_
          refine z_lcmp hX dL_law__622 ?_
          refine z_if_eq hX 628 dL_law__623 (by decide) (fun h38 => ?_) (fun h38 => ?_)
          · replace hf := zif_pos h38 hf
            refine z_goto hX 3587 dL_law__628 (by decide) ?_
            refine zW.sub [2, 3, 4, 5, 6] rfl ?_
            refine zW.widen (k' := K) (n' := N) (by omega) (by omega) ?_
            exact hkk g33 hf
          · replace hf := zif_neg h38 hf
            exact zno hf
      · replace hf := zif_neg h35 hf
        exact zno hf
def fLc_7 (L : Nat) (xs : Nat → Int32) (kk : zM → Option Unit) (v4 : Int32) (g : zM) : Option Unit := zchk (v4 + 1) L (zb2 (fL_words (xs (v4 + 1).toNatClampNeg) g) (fun r_2 g2 => zchk (v4 + 1) L (zb2 (fX12_words (xs (v4 + 1).toNatClampNeg) g2) (fun r_4 g4 => zb (fX12_thrown g4) (fun r_5 => if r_5 = r_2 then if r_2 = 0 then zchk 0 1 (if (lg_cmp ((g4 508 (0 : Int32).toNatClampNeg).toInt64) r_4.toInt64) = 0 then kk g4 else none) else kk g4 else none)))))
set_option maxHeartbeats 4000000 in
set_option maxRecDepth 100000 in
theorem fLc_7_ok {X : zX} (hX : zCX X cL_law_ RL) (hR : X.2.2.2.1 = room_1) (hn : X.2.2.2.2.2.2.2.2.2.1.maxLocals = 7) {b L : Nat} {xs : Nat → Int32} (hs : zSc X b L xs) {Q : State → Prop} {k n K N : Nat} (hKa : K ≤ 601024) (hNa : N ≤ 7293034) (hKb : k + 12 ≤ K) (hNb : n + 72 ≤ N) {kk : zM → Option Unit} {v4 : Int32} {g : zM} {r : Unit} (hkk : ∀ g, kk g = some r → zW X Q K N 3587 [(0, .ref b), (1, .ref (zB X + 0)), (2, .ref (zB X + 493)), (3, .ref (zB X + 508)), (4, .int v4)] [] g) (hf : fLc_7 L xs kk v4 g = some r) : zW X Q k n 631 [(0, .ref b), (1, .ref (zB X + 0)), (2, .ref (zB X + 493)), (3, .ref (zB X + 508)), (4, .int v4)] [] g := by
  unfold fLc_7 at hf
  refine z_aload_n hX dL_law__631 1 rfl ?_
  refine z_aload_n hX dL_law__632 0 rfl ?_
  refine z_iload hX dL_law__633 4 rfl ?_
  refine z_iconst hX dL_law__635 ci_1 ?_
  refine z_iadd hX dL_law__636 ?_
  replace hf := zchk_some hf
  obtain ⟨h1, hf⟩ := hf
  refine z_sld hX hs h1 dL_law__637 ?_
  refine z_aload_n hX dL_law__638 3 rfl ?_
  replace hf := zb2_some hf
  obtain ⟨r_2, g2, h2, hf⟩ := hf
  refine z_callW1 hX okw_L_words q1031 q1032 (zrm_law hR (by decide) hKa hNa (by omega) (by omega)) (ct_L_words h2) dL_law__639 rfl rfl ?_
  refine z_istore (lv' := [(5, .int r_2), (0, .ref b), (1, .ref (zB X + 0)), (2, .ref (zB X + 493)), (3, .ref (zB X + 508)), (4, .int v4)]) hX dL_law__642 hn (by decide) rfl ?_
  refine z_aload_n hX dL_law__644 3 rfl ?_
  refine z_aload_n hX dL_law__645 1 rfl ?_
  refine z_iload hX dL_law__646 5 rfl ?_
  refine z_iconst hX dL_law__648 ci_1 ?_
  refine z_iadd hX dL_law__649 ?_
  replace hf := zchk_some hf
  obtain ⟨h3, hf⟩ := hf
  refine z_sld hX hs h3 dL_law__650 ?_
  replace hf := zb2_some hf
  obtain ⟨r_4, g4, h4, hf⟩ := hf
  refine z_callV1 hX ok_X12_words q1850 q1851 q1852 (zrm_law hR (by decide) hKa hNa (by omega) (by omega)) (ct_X12_words  h4) (zrec_Model hX zq_493) dL_law__651 rfl rfl ?_
  refine z_istore (lv' := [(6, .int r_4), (5, .int r_2), (0, .ref b), (1, .ref (zB X + 0)), (2, .ref (zB X + 493)), (3, .ref (zB X + 508)), (4, .int v4)]) hX dL_law__654 hn (by decide) rfl ?_
  refine z_aload_n hX dL_law__656 4 rfl ?_
  replace hf := zb_some hf
  obtain ⟨r_5, h5, hf⟩ := hf
  refine z_callV1 hX ok_X12_thrown q1484 q1485 q1486 (zrm_law hR (by decide) hKa hNa (by omega) (by omega)) (ct_X12_thrown  h5) (zrec_Model hX zq_493) dL_law__657 rfl rfl ?_
  refine z_iload hX dL_law__660 1 rfl ?_
  refine z_icmp_eq hX 667 dL_law__662 (by decide) (fun h6 => ?_) (fun h6 => ?_)
  · replace hf := zif_pos h6 hf
    refine z_iload hX dL_law__667 1 rfl ?_
    refine z_if_ne hX 684 dL_law__669 (by decide) (fun h7 => ?_) (fun h7 => ?_)
    · replace hf := zif_neg h7 hf
      refine z_goto hX 3587 dL_law__684 (by decide) ?_
      refine zW.sub [2, 3, 4, 5, 6] rfl ?_
      refine zW.widen (k' := K) (n' := N) (by omega) (by omega) ?_
      exact hkk g4 hf
    · replace hf := zif_pos h7 hf
      refine z_aload_n hX dL_law__672 5 rfl ?_
      refine z_iconst hX dL_law__673 ci_0 ?_
      replace hf := zchk_some hf
      obtain ⟨h8, hf⟩ := hf
      refine z_lald hX zq_508 h8 dL_law__674 ?_
      refine z_iload hX dL_law__675 0 rfl ?_
      refine z_i2l hX dL_law__677 ?_
      refine z_lcmp hX dL_law__678 ?_
      refine z_if_eq hX 684 dL_law__679 (by decide) (fun h9 => ?_) (fun h9 => ?_)
      · replace hf := zif_pos h9 hf
        refine z_goto hX 3587 dL_law__684 (by decide) ?_
        refine zW.sub [2, 3, 4, 5, 6] rfl ?_
        refine zW.widen (k' := K) (n' := N) (by omega) (by omega) ?_
        exact hkk g4 hf
      · replace hf := zif_neg h9 hf
        exact zno hf
  · replace hf := zif_neg h6 hf
    exact zno hf
def fLc_8 (L : Nat) (xs : Nat → Int32) (kk : zM → Option Unit) (v4 : Int32) (g : zM) : Option Unit := zchk (v4 + 1) L (zchk (v4 + 2) L (if (xs (v4 + 2).toNatClampNeg) = 0 then zb2 (fL_promise (xs (v4 + 1).toNatClampNeg) 0 g) (fun r_4 g4 => zchk (v4 + 1) L (zchk (v4 + 2) L (if (xs (v4 + 2).toNatClampNeg) = 0 then zb2 (fX12_promise (xs (v4 + 1).toNatClampNeg) 0 g4) (fun r_8 g8 => zb (fX12_thrown g8) (fun r_9 => if r_9 = r_4 then if r_4 = 0 then zchk 0 1 (if (lg_cmp ((g8 508 (0 : Int32).toNatClampNeg).toInt64) r_8.toInt64) = 0 then kk g8 else none) else kk g8 else none)) else zb2 (fX12_promise (xs (v4 + 1).toNatClampNeg) 1 g4) (fun r_14 g14 => zb (fX12_thrown g14) (fun r_15 => if r_15 = r_4 then if r_4 = 0 then zchk 0 1 (if (lg_cmp ((g14 508 (0 : Int32).toNatClampNeg).toInt64) r_14.toInt64) = 0 then kk g14 else none) else kk g14 else none))))) else zb2 (fL_promise (xs (v4 + 1).toNatClampNeg) 1 g) (fun r_20 g20 => zchk (v4 + 1) L (zchk (v4 + 2) L (if (xs (v4 + 2).toNatClampNeg) = 0 then zb2 (fX12_promise (xs (v4 + 1).toNatClampNeg) 0 g20) (fun r_24 g24 => zb (fX12_thrown g24) (fun r_25 => if r_25 = r_20 then if r_20 = 0 then zchk 0 1 (if (lg_cmp ((g24 508 (0 : Int32).toNatClampNeg).toInt64) r_24.toInt64) = 0 then kk g24 else none) else kk g24 else none)) else zb2 (fX12_promise (xs (v4 + 1).toNatClampNeg) 1 g20) (fun r_30 g30 => zb (fX12_thrown g30) (fun r_31 => if r_31 = r_20 then if r_20 = 0 then zchk 0 1 (if (lg_cmp ((g30 508 (0 : Int32).toNatClampNeg).toInt64) r_30.toInt64) = 0 then kk g30 else none) else kk g30 else none)))))))
set_option maxHeartbeats 4000000 in
set_option maxRecDepth 100000 in
theorem fLc_8_ok {X : zX} (hX : zCX X cL_law_ RL) (hR : X.2.2.2.1 = room_1) (hn : X.2.2.2.2.2.2.2.2.2.1.maxLocals = 7) {b L : Nat} {xs : Nat → Int32} (hs : zSc X b L xs) {Q : State → Prop} {k n K N : Nat} (hKa : K ≤ 601024) (hNa : N ≤ 7293034) (hKb : k + 12 ≤ K) (hNb : n + 72 ≤ N) {kk : zM → Option Unit} {v4 : Int32} {g : zM} {r : Unit} (hkk : ∀ g, kk g = some r → zW X Q K N 3587 [(0, .ref b), (1, .ref (zB X + 0)), (2, .ref (zB X + 493)), (3, .ref (zB X + 508)), (4, .int v4)] [] g) (hf : fLc_8 L xs kk v4 g = some r) : zW X Q k n 687 [(0, .ref b), (1, .ref (zB X + 0)), (2, .ref (zB X + 493)), (3, .ref (zB X + 508)), (4, .int v4)] [] g := by
  unfold fLc_8 at hf
  refine z_aload_n hX dL_law__687 1 rfl ?_
  refine z_aload_n hX dL_law__688 0 rfl ?_
  refine z_iload hX dL_law__689 4 rfl ?_
  refine z_iconst hX dL_law__691 ci_1 ?_
  refine z_iadd hX dL_law__692 ?_
  replace hf := zchk_some hf
  obtain ⟨h1, hf⟩ := hf
  refine z_sld hX hs h1 dL_law__693 ?_
  refine z_aload_n hX dL_law__694 0 rfl ?_
  refine z_iload hX dL_law__695 4 rfl ?_
  refine z_iconst hX dL_law__697 ci_2 ?_
  refine z_iadd hX dL_law__698 ?_
  replace hf := zchk_some hf
  obtain ⟨h2, hf⟩ := hf
  refine z_sld hX hs h2 dL_law__699 ?_
  refine z_if_eq hX 707 dL_law__700 (by decide) (fun h3 => ?_) (fun h3 => ?_)
  · replace hf := zif_pos h3 hf
    refine z_iconst hX dL_law__707 ci_0 ?_
    refine z_aload_n hX dL_law__708 3 rfl ?_
    replace hf := zb2_some hf
    obtain ⟨r_4, g4, h4, hf⟩ := hf
    refine z_callW1 hX okw_L_promise q1043 q1044 (zrm_law hR (by decide) hKa hNa (by omega) (by omega)) (ct_L_promise h4) dL_law__709 rfl rfl ?_
    refine z_istore (lv' := [(5, .int r_4), (0, .ref b), (1, .ref (zB X + 0)), (2, .ref (zB X + 493)), (3, .ref (zB X + 508)), (4, .int v4)]) hX dL_law__712 hn (by decide) rfl ?_
    refine z_aload_n hX dL_law__714 3 rfl ?_
    refine z_aload_n hX dL_law__715 1 rfl ?_
    refine z_iload hX dL_law__716 5 rfl ?_
    refine z_iconst hX dL_law__718 ci_1 ?_
    refine z_iadd hX dL_law__719 ?_
    replace hf := zchk_some hf
    obtain ⟨h5, hf⟩ := hf
    refine z_sld hX hs h5 dL_law__720 ?_
    refine z_aload_n hX dL_law__721 1 rfl ?_
    refine z_iload hX dL_law__722 5 rfl ?_
    refine z_iconst hX dL_law__724 ci_2 ?_
    refine z_iadd hX dL_law__725 ?_
    replace hf := zchk_some hf
    obtain ⟨h6, hf⟩ := hf
    refine z_sld hX hs h6 dL_law__726 ?_
    refine z_if_eq hX 734 dL_law__727 (by decide) (fun h7 => ?_) (fun h7 => ?_)
    · replace hf := zif_pos h7 hf
      refine z_iconst hX dL_law__734 ci_0 ?_
      replace hf := zb2_some hf
      obtain ⟨r_8, g8, h8, hf⟩ := hf
      refine z_callV1 hX ok_X12_promise q1857 q1858 q1859 (zrm_law hR (by decide) hKa hNa (by omega) (by omega)) (ct_X12_promise  h8) (zrec_Model hX zq_493) dL_law__735 rfl rfl ?_
      refine z_istore (lv' := [(6, .int r_8), (5, .int r_4), (0, .ref b), (1, .ref (zB X + 0)), (2, .ref (zB X + 493)), (3, .ref (zB X + 508)), (4, .int v4)]) hX dL_law__738 hn (by decide) rfl ?_
      refine z_aload_n hX dL_law__740 4 rfl ?_
      replace hf := zb_some hf
      obtain ⟨r_9, h9, hf⟩ := hf
      refine z_callV1 hX ok_X12_thrown q1484 q1485 q1486 (zrm_law hR (by decide) hKa hNa (by omega) (by omega)) (ct_X12_thrown  h9) (zrec_Model hX zq_493) dL_law__741 rfl rfl ?_
      refine z_iload hX dL_law__744 1 rfl ?_
      refine z_icmp_eq hX 751 dL_law__746 (by decide) (fun h10 => ?_) (fun h10 => ?_)
      · replace hf := zif_pos h10 hf
        refine z_iload hX dL_law__751 1 rfl ?_
        refine z_if_ne hX 768 dL_law__753 (by decide) (fun h11 => ?_) (fun h11 => ?_)
        · replace hf := zif_neg h11 hf
          refine z_goto hX 3587 dL_law__768 (by decide) ?_
          refine zW.sub [2, 3, 4, 5, 6] rfl ?_
          refine zW.widen (k' := K) (n' := N) (by omega) (by omega) ?_
          exact hkk g8 hf
        · replace hf := zif_pos h11 hf
          refine z_aload_n hX dL_law__756 5 rfl ?_
          refine z_iconst hX dL_law__757 ci_0 ?_
          replace hf := zchk_some hf
          obtain ⟨h12, hf⟩ := hf
          refine z_lald hX zq_508 h12 dL_law__758 ?_
          refine z_iload hX dL_law__759 0 rfl ?_
          refine z_i2l hX dL_law__761 ?_
          refine z_lcmp hX dL_law__762 ?_
          refine z_if_eq hX 768 dL_law__763 (by decide) (fun h13 => ?_) (fun h13 => ?_)
          · replace hf := zif_pos h13 hf
            refine z_goto hX 3587 dL_law__768 (by decide) ?_
            refine zW.sub [2, 3, 4, 5, 6] rfl ?_
            refine zW.widen (k' := K) (n' := N) (by omega) (by omega) ?_
            exact hkk g8 hf
          · replace hf := zif_neg h13 hf
            exact zno hf
      · replace hf := zif_neg h10 hf
        exact zno hf
    · replace hf := zif_neg h7 hf
      refine z_iconst hX dL_law__730 ci_1 ?_
      refine z_goto hX 735 dL_law__731 (by decide) ?_
      replace hf := zb2_some hf
      obtain ⟨r_14, g14, h14, hf⟩ := hf
      refine z_callV1 hX ok_X12_promise q1857 q1858 q1859 (zrm_law hR (by decide) hKa hNa (by omega) (by omega)) (ct_X12_promise  h14) (zrec_Model hX zq_493) dL_law__735 rfl rfl ?_
      refine z_istore (lv' := [(6, .int r_14), (5, .int r_4), (0, .ref b), (1, .ref (zB X + 0)), (2, .ref (zB X + 493)), (3, .ref (zB X + 508)), (4, .int v4)]) hX dL_law__738 hn (by decide) rfl ?_
      refine z_aload_n hX dL_law__740 4 rfl ?_
      replace hf := zb_some hf
      obtain ⟨r_15, h15, hf⟩ := hf
      refine z_callV1 hX ok_X12_thrown q1484 q1485 q1486 (zrm_law hR (by decide) hKa hNa (by omega) (by omega)) (ct_X12_thrown  h15) (zrec_Model hX zq_493) dL_law__741 rfl rfl ?_
      refine z_iload hX dL_law__744 1 rfl ?_
      refine z_icmp_eq hX 751 dL_law__746 (by decide) (fun h16 => ?_) (fun h16 => ?_)
      · replace hf := zif_pos h16 hf
        refine z_iload hX dL_law__751 1 rfl ?_
        refine z_if_ne hX 768 dL_law__753 (by decide) (fun h17 => ?_) (fun h17 => ?_)
        · replace hf := zif_neg h17 hf
          refine z_goto hX 3587 dL_law__768 (by decide) ?_
          refine zW.sub [2, 3, 4, 5, 6] rfl ?_
          refine zW.widen (k' := K) (n' := N) (by omega) (by omega) ?_
          exact hkk g14 hf
        · replace hf := zif_pos h17 hf
          refine z_aload_n hX dL_law__756 5 rfl ?_
          refine z_iconst hX dL_law__757 ci_0 ?_
          replace hf := zchk_some hf
          obtain ⟨h18, hf⟩ := hf
          refine z_lald hX zq_508 h18 dL_law__758 ?_
          refine z_iload hX dL_law__759 0 rfl ?_
          refine z_i2l hX dL_law__761 ?_
          refine z_lcmp hX dL_law__762 ?_
          refine z_if_eq hX 768 dL_law__763 (by decide) (fun h19 => ?_) (fun h19 => ?_)
          · replace hf := zif_pos h19 hf
            refine z_goto hX 3587 dL_law__768 (by decide) ?_
            refine zW.sub [2, 3, 4, 5, 6] rfl ?_
            refine zW.widen (k' := K) (n' := N) (by omega) (by omega) ?_
            exact hkk g14 hf
          · replace hf := zif_neg h19 hf
            exact zno hf
      · replace hf := zif_neg h16 hf
        exact zno hf
  · replace hf := zif_neg h3 hf
    refine z_iconst hX dL_law__703 ci_1 ?_
    refine z_goto hX 708 dL_law__704 (by decide) ?_
    refine z_aload_n hX dL_law__708 3 rfl ?_
    replace hf := zb2_some hf
    obtain ⟨r_20, g20, h20, hf⟩ := hf
    refine z_callW1 hX okw_L_promise q1043 q1044 (zrm_law hR (by decide) hKa hNa (by omega) (by omega)) (ct_L_promise h20) dL_law__709 rfl rfl ?_
    refine z_istore (lv' := [(5, .int r_20), (0, .ref b), (1, .ref (zB X + 0)), (2, .ref (zB X + 493)), (3, .ref (zB X + 508)), (4, .int v4)]) hX dL_law__712 hn (by decide) rfl ?_
    refine z_aload_n hX dL_law__714 3 rfl ?_
    refine z_aload_n hX dL_law__715 1 rfl ?_
    refine z_iload hX dL_law__716 5 rfl ?_
    refine z_iconst hX dL_law__718 ci_1 ?_
    refine z_iadd hX dL_law__719 ?_
    replace hf := zchk_some hf
    obtain ⟨h21, hf⟩ := hf
    refine z_sld hX hs h21 dL_law__720 ?_
    refine z_aload_n hX dL_law__721 1 rfl ?_
    refine z_iload hX dL_law__722 5 rfl ?_
    refine z_iconst hX dL_law__724 ci_2 ?_
    refine z_iadd hX dL_law__725 ?_
    replace hf := zchk_some hf
    obtain ⟨h22, hf⟩ := hf
    refine z_sld hX hs h22 dL_law__726 ?_
    refine z_if_eq hX 734 dL_law__727 (by decide) (fun h23 => ?_) (fun h23 => ?_)
    · replace hf := zif_pos h23 hf
      refine z_iconst hX dL_law__734 ci_0 ?_
      replace hf := zb2_some hf
      obtain ⟨r_24, g24, h24, hf⟩ := hf
      refine z_callV1 hX ok_X12_promise q1857 q1858 q1859 (zrm_law hR (by decide) hKa hNa (by omega) (by omega)) (ct_X12_promise  h24) (zrec_Model hX zq_493) dL_law__735 rfl rfl ?_
      refine z_istore (lv' := [(6, .int r_24), (5, .int r_20), (0, .ref b), (1, .ref (zB X + 0)), (2, .ref (zB X + 493)), (3, .ref (zB X + 508)), (4, .int v4)]) hX dL_law__738 hn (by decide) rfl ?_
      refine z_aload_n hX dL_law__740 4 rfl ?_
      replace hf := zb_some hf
      obtain ⟨r_25, h25, hf⟩ := hf
      refine z_callV1 hX ok_X12_thrown q1484 q1485 q1486 (zrm_law hR (by decide) hKa hNa (by omega) (by omega)) (ct_X12_thrown  h25) (zrec_Model hX zq_493) dL_law__741 rfl rfl ?_
      refine z_iload hX dL_law__744 1 rfl ?_
      refine z_icmp_eq hX 751 dL_law__746 (by decide) (fun h26 => ?_) (fun h26 => ?_)
      · replace hf := zif_pos h26 hf
        refine z_iload hX dL_law__751 1 rfl ?_
        refine z_if_ne hX 768 dL_law__753 (by decide) (fun h27 => ?_) (fun h27 => ?_)
        · replace hf := zif_neg h27 hf
          refine z_goto hX 3587 dL_law__768 (by decide) ?_
          refine zW.sub [2, 3, 4, 5, 6] rfl ?_
          refine zW.widen (k' := K) (n' := N) (by omega) (by omega) ?_
          exact hkk g24 hf
        · replace hf := zif_pos h27 hf
          refine z_aload_n hX dL_law__756 5 rfl ?_
          refine z_iconst hX dL_law__757 ci_0 ?_
          replace hf := zchk_some hf
          obtain ⟨h28, hf⟩ := hf
          refine z_lald hX zq_508 h28 dL_law__758 ?_
          refine z_iload hX dL_law__759 0 rfl ?_
          refine z_i2l hX dL_law__761 ?_
          refine z_lcmp hX dL_law__762 ?_
          refine z_if_eq hX 768 dL_law__763 (by decide) (fun h29 => ?_) (fun h29 => ?_)
          · replace hf := zif_pos h29 hf
            refine z_goto hX 3587 dL_law__768 (by decide) ?_
            refine zW.sub [2, 3, 4, 5, 6] rfl ?_
            refine zW.widen (k' := K) (n' := N) (by omega) (by omega) ?_
            exact hkk g24 hf
          · replace hf := zif_neg h29 hf
            exact zno hf
      · replace hf := zif_neg h26 hf
        exact zno hf
    · replace hf := zif_neg h23 hf
      refine z_iconst hX dL_law__730 ci_1 ?_
      refine z_goto hX 735 dL_law__731 (by decide) ?_
      replace hf := zb2_some hf
      obtain ⟨r_30, g30, h30, hf⟩ := hf
      refine z_callV1 hX ok_X12_promise q1857 q1858 q1859 (zrm_law hR (by decide) hKa hNa (by omega) (by omega)) (ct_X12_promise  h30) (zrec_Model hX zq_493) dL_law__735 rfl rfl ?_
      refine z_istore (lv' := [(6, .int r_30), (5, .int r_20), (0, .ref b), (1, .ref (zB X + 0)), (2, .ref (zB X + 493)), (3, .ref (zB X + 508)), (4, .int v4)]) hX dL_law__738 hn (by decide) rfl ?_
      refine z_aload_n hX dL_law__740 4 rfl ?_
      replace hf := zb_some hf
      obtain ⟨r_31, h31, hf⟩ := hf
      refine z_callV1 hX ok_X12_thrown q1484 q1485 q1486 (zrm_law hR (by decide) hKa hNa (by omega) (by omega)) (ct_X12_thrown  h31) (zrec_Model hX zq_493) dL_law__741 rfl rfl ?_
      refine z_iload hX dL_law__744 1 rfl ?_
      refine z_icmp_eq hX 751 dL_law__746 (by decide) (fun h32 => ?_) (fun h32 => ?_)
      · replace hf := zif_pos h32 hf
        refine z_iload hX dL_law__751 1 rfl ?_
        refine z_if_ne hX 768 dL_law__753 (by decide) (fun h33 => ?_) (fun h33 => ?_)
        · replace hf := zif_neg h33 hf
          refine z_goto hX 3587 dL_law__768 (by decide) ?_
          refine zW.sub [2, 3, 4, 5, 6] rfl ?_
          refine zW.widen (k' := K) (n' := N) (by omega) (by omega) ?_
          exact hkk g30 hf
        · replace hf := zif_pos h33 hf
          refine z_aload_n hX dL_law__756 5 rfl ?_
          refine z_iconst hX dL_law__757 ci_0 ?_
          replace hf := zchk_some hf
          obtain ⟨h34, hf⟩ := hf
          refine z_lald hX zq_508 h34 dL_law__758 ?_
          refine z_iload hX dL_law__759 0 rfl ?_
          refine z_i2l hX dL_law__761 ?_
          refine z_lcmp hX dL_law__762 ?_
          refine z_if_eq hX 768 dL_law__763 (by decide) (fun h35 => ?_) (fun h35 => ?_)
          · replace hf := zif_pos h35 hf
            refine z_goto hX 3587 dL_law__768 (by decide) ?_
            refine zW.sub [2, 3, 4, 5, 6] rfl ?_
            refine zW.widen (k' := K) (n' := N) (by omega) (by omega) ?_
            exact hkk g30 hf
          · replace hf := zif_neg h35 hf
            exact zno hf
      · replace hf := zif_neg h32 hf
        exact zno hf
def fLc_9 (L : Nat) (xs : Nat → Int32) (kk : zM → Option Unit) (v4 : Int32) (g : zM) : Option Unit := zchk (v4 + 1) L (zb2 (fL_season (xs (v4 + 1).toNatClampNeg) g) (fun r_2 g2 => zchk (v4 + 1) L (zb2 (fX12_season (xs (v4 + 1).toNatClampNeg) g2) (fun r_4 g4 => zb (fX12_thrown g4) (fun r_5 => if r_5 = r_2 then if r_2 = 0 then zchk 0 1 (if (lg_cmp ((g4 508 (0 : Int32).toNatClampNeg).toInt64) r_4.toInt64) = 0 then kk g4 else none) else kk g4 else none)))))
set_option maxHeartbeats 4000000 in
set_option maxRecDepth 100000 in
theorem fLc_9_ok {X : zX} (hX : zCX X cL_law_ RL) (hR : X.2.2.2.1 = room_1) (hn : X.2.2.2.2.2.2.2.2.2.1.maxLocals = 7) {b L : Nat} {xs : Nat → Int32} (hs : zSc X b L xs) {Q : State → Prop} {k n K N : Nat} (hKa : K ≤ 601024) (hNa : N ≤ 7293034) (hKb : k + 12 ≤ K) (hNb : n + 72 ≤ N) {kk : zM → Option Unit} {v4 : Int32} {g : zM} {r : Unit} (hkk : ∀ g, kk g = some r → zW X Q K N 3587 [(0, .ref b), (1, .ref (zB X + 0)), (2, .ref (zB X + 493)), (3, .ref (zB X + 508)), (4, .int v4)] [] g) (hf : fLc_9 L xs kk v4 g = some r) : zW X Q k n 771 [(0, .ref b), (1, .ref (zB X + 0)), (2, .ref (zB X + 493)), (3, .ref (zB X + 508)), (4, .int v4)] [] g := by
  unfold fLc_9 at hf
  refine z_aload_n hX dL_law__771 1 rfl ?_
  refine z_aload_n hX dL_law__772 0 rfl ?_
  refine z_iload hX dL_law__773 4 rfl ?_
  refine z_iconst hX dL_law__775 ci_1 ?_
  refine z_iadd hX dL_law__776 ?_
  replace hf := zchk_some hf
  obtain ⟨h1, hf⟩ := hf
  refine z_sld hX hs h1 dL_law__777 ?_
  refine z_aload_n hX dL_law__778 3 rfl ?_
  replace hf := zb2_some hf
  obtain ⟨r_2, g2, h2, hf⟩ := hf
  refine z_callW1 hX okw_L_season q1059 q1060 (zrm_law hR (by decide) hKa hNa (by omega) (by omega)) (ct_L_season h2) dL_law__779 rfl rfl ?_
  refine z_istore (lv' := [(5, .int r_2), (0, .ref b), (1, .ref (zB X + 0)), (2, .ref (zB X + 493)), (3, .ref (zB X + 508)), (4, .int v4)]) hX dL_law__782 hn (by decide) rfl ?_
  refine z_aload_n hX dL_law__784 3 rfl ?_
  refine z_aload_n hX dL_law__785 1 rfl ?_
  refine z_iload hX dL_law__786 5 rfl ?_
  refine z_iconst hX dL_law__788 ci_1 ?_
  refine z_iadd hX dL_law__789 ?_
  replace hf := zchk_some hf
  obtain ⟨h3, hf⟩ := hf
  refine z_sld hX hs h3 dL_law__790 ?_
  replace hf := zb2_some hf
  obtain ⟨r_4, g4, h4, hf⟩ := hf
  refine z_callV1 hX ok_X12_season q1869 q1870 q1871 (zrm_law hR (by decide) hKa hNa (by omega) (by omega)) (ct_X12_season  h4) (zrec_Model hX zq_493) dL_law__791 rfl rfl ?_
  refine z_istore (lv' := [(6, .int r_4), (5, .int r_2), (0, .ref b), (1, .ref (zB X + 0)), (2, .ref (zB X + 493)), (3, .ref (zB X + 508)), (4, .int v4)]) hX dL_law__794 hn (by decide) rfl ?_
  refine z_aload_n hX dL_law__796 4 rfl ?_
  replace hf := zb_some hf
  obtain ⟨r_5, h5, hf⟩ := hf
  refine z_callV1 hX ok_X12_thrown q1484 q1485 q1486 (zrm_law hR (by decide) hKa hNa (by omega) (by omega)) (ct_X12_thrown  h5) (zrec_Model hX zq_493) dL_law__797 rfl rfl ?_
  refine z_iload hX dL_law__800 1 rfl ?_
  refine z_icmp_eq hX 807 dL_law__802 (by decide) (fun h6 => ?_) (fun h6 => ?_)
  · replace hf := zif_pos h6 hf
    refine z_iload hX dL_law__807 1 rfl ?_
    refine z_if_ne hX 824 dL_law__809 (by decide) (fun h7 => ?_) (fun h7 => ?_)
    · replace hf := zif_neg h7 hf
      refine z_goto hX 3587 dL_law__824 (by decide) ?_
      refine zW.sub [2, 3, 4, 5, 6] rfl ?_
      refine zW.widen (k' := K) (n' := N) (by omega) (by omega) ?_
      exact hkk g4 hf
    · replace hf := zif_pos h7 hf
      refine z_aload_n hX dL_law__812 5 rfl ?_
      refine z_iconst hX dL_law__813 ci_0 ?_
      replace hf := zchk_some hf
      obtain ⟨h8, hf⟩ := hf
      refine z_lald hX zq_508 h8 dL_law__814 ?_
      refine z_iload hX dL_law__815 0 rfl ?_
      refine z_i2l hX dL_law__817 ?_
      refine z_lcmp hX dL_law__818 ?_
      refine z_if_eq hX 824 dL_law__819 (by decide) (fun h9 => ?_) (fun h9 => ?_)
      · replace hf := zif_pos h9 hf
        refine z_goto hX 3587 dL_law__824 (by decide) ?_
        refine zW.sub [2, 3, 4, 5, 6] rfl ?_
        refine zW.widen (k' := K) (n' := N) (by omega) (by omega) ?_
        exact hkk g4 hf
      · replace hf := zif_neg h9 hf
        exact zno hf
  · replace hf := zif_neg h6 hf
    exact zno hf
def fLc_10 (L : Nat) (xs : Nat → Int32) (kk : zM → Option Unit) (v4 : Int32) (g : zM) : Option Unit := zchk (v4 + 1) L (zchk (v4 + 2) L (zb2 (fL_write (xs (v4 + 1).toNatClampNeg) (xs (v4 + 2).toNatClampNeg) g) (fun r_3 g3 => zchk (v4 + 1) L (zchk (v4 + 2) L (zb2 (fX12_write (xs (v4 + 1).toNatClampNeg) (xs (v4 + 2).toNatClampNeg) g3) (fun r_6 g6 => zb (fX12_thrown g6) (fun r_7 => if r_7 = r_3 then if r_3 = 0 then zchk 0 1 (if (lg_cmp ((g6 508 (0 : Int32).toNatClampNeg).toInt64) r_6.toInt64) = 0 then kk g6 else none) else kk g6 else none)))))))
set_option maxHeartbeats 4000000 in
set_option maxRecDepth 100000 in
theorem fLc_10_ok {X : zX} (hX : zCX X cL_law_ RL) (hR : X.2.2.2.1 = room_1) (hn : X.2.2.2.2.2.2.2.2.2.1.maxLocals = 7) {b L : Nat} {xs : Nat → Int32} (hs : zSc X b L xs) {Q : State → Prop} {k n K N : Nat} (hKa : K ≤ 601024) (hNa : N ≤ 7293034) (hKb : k + 12 ≤ K) (hNb : n + 72 ≤ N) {kk : zM → Option Unit} {v4 : Int32} {g : zM} {r : Unit} (hkk : ∀ g, kk g = some r → zW X Q K N 3587 [(0, .ref b), (1, .ref (zB X + 0)), (2, .ref (zB X + 493)), (3, .ref (zB X + 508)), (4, .int v4)] [] g) (hf : fLc_10 L xs kk v4 g = some r) : zW X Q k n 827 [(0, .ref b), (1, .ref (zB X + 0)), (2, .ref (zB X + 493)), (3, .ref (zB X + 508)), (4, .int v4)] [] g := by
  unfold fLc_10 at hf
  refine z_aload_n hX dL_law__827 1 rfl ?_
  refine z_aload_n hX dL_law__828 0 rfl ?_
  refine z_iload hX dL_law__829 4 rfl ?_
  refine z_iconst hX dL_law__831 ci_1 ?_
  refine z_iadd hX dL_law__832 ?_
  replace hf := zchk_some hf
  obtain ⟨h1, hf⟩ := hf
  refine z_sld hX hs h1 dL_law__833 ?_
  refine z_aload_n hX dL_law__834 0 rfl ?_
  refine z_iload hX dL_law__835 4 rfl ?_
  refine z_iconst hX dL_law__837 ci_2 ?_
  refine z_iadd hX dL_law__838 ?_
  replace hf := zchk_some hf
  obtain ⟨h2, hf⟩ := hf
  refine z_sld hX hs h2 dL_law__839 ?_
  refine z_aload_n hX dL_law__840 3 rfl ?_
  replace hf := zb2_some hf
  obtain ⟨r_3, g3, h3, hf⟩ := hf
  refine z_callW1 hX okw_L_write q1068 q1069 (zrm_law hR (by decide) hKa hNa (by omega) (by omega)) (ct_L_write h3) dL_law__841 rfl rfl ?_
  refine z_istore (lv' := [(5, .int r_3), (0, .ref b), (1, .ref (zB X + 0)), (2, .ref (zB X + 493)), (3, .ref (zB X + 508)), (4, .int v4)]) hX dL_law__844 hn (by decide) rfl ?_
  refine z_aload_n hX dL_law__846 3 rfl ?_
  refine z_aload_n hX dL_law__847 1 rfl ?_
  refine z_iload hX dL_law__848 5 rfl ?_
  refine z_iconst hX dL_law__850 ci_1 ?_
  refine z_iadd hX dL_law__851 ?_
  replace hf := zchk_some hf
  obtain ⟨h4, hf⟩ := hf
  refine z_sld hX hs h4 dL_law__852 ?_
  refine z_aload_n hX dL_law__853 1 rfl ?_
  refine z_iload hX dL_law__854 5 rfl ?_
  refine z_iconst hX dL_law__856 ci_2 ?_
  refine z_iadd hX dL_law__857 ?_
  replace hf := zchk_some hf
  obtain ⟨h5, hf⟩ := hf
  refine z_sld hX hs h5 dL_law__858 ?_
  replace hf := zb2_some hf
  obtain ⟨r_6, g6, h6, hf⟩ := hf
  refine z_callV1 hX ok_X12_write q1873 q1874 q1875 (zrm_law hR (by decide) hKa hNa (by omega) (by omega)) (ct_X12_write  h6) (zrec_Model hX zq_493) dL_law__859 rfl rfl ?_
  refine z_istore (lv' := [(6, .int r_6), (5, .int r_3), (0, .ref b), (1, .ref (zB X + 0)), (2, .ref (zB X + 493)), (3, .ref (zB X + 508)), (4, .int v4)]) hX dL_law__862 hn (by decide) rfl ?_
  refine z_aload_n hX dL_law__864 4 rfl ?_
  replace hf := zb_some hf
  obtain ⟨r_7, h7, hf⟩ := hf
  refine z_callV1 hX ok_X12_thrown q1484 q1485 q1486 (zrm_law hR (by decide) hKa hNa (by omega) (by omega)) (ct_X12_thrown  h7) (zrec_Model hX zq_493) dL_law__865 rfl rfl ?_
  refine z_iload hX dL_law__868 1 rfl ?_
  refine z_icmp_eq hX 875 dL_law__870 (by decide) (fun h8 => ?_) (fun h8 => ?_)
  · replace hf := zif_pos h8 hf
    refine z_iload hX dL_law__875 1 rfl ?_
    refine z_if_ne hX 892 dL_law__877 (by decide) (fun h9 => ?_) (fun h9 => ?_)
    · replace hf := zif_neg h9 hf
      refine z_goto hX 3587 dL_law__892 (by decide) ?_
      refine zW.sub [2, 3, 4, 5, 6] rfl ?_
      refine zW.widen (k' := K) (n' := N) (by omega) (by omega) ?_
      exact hkk g6 hf
    · replace hf := zif_pos h9 hf
      refine z_aload_n hX dL_law__880 5 rfl ?_
      refine z_iconst hX dL_law__881 ci_0 ?_
      replace hf := zchk_some hf
      obtain ⟨h10, hf⟩ := hf
      refine z_lald hX zq_508 h10 dL_law__882 ?_
      refine z_iload hX dL_law__883 0 rfl ?_
      refine z_i2l hX dL_law__885 ?_
      refine z_lcmp hX dL_law__886 ?_
      refine z_if_eq hX 892 dL_law__887 (by decide) (fun h11 => ?_) (fun h11 => ?_)
      · replace hf := zif_pos h11 hf
        refine z_goto hX 3587 dL_law__892 (by decide) ?_
        refine zW.sub [2, 3, 4, 5, 6] rfl ?_
        refine zW.widen (k' := K) (n' := N) (by omega) (by omega) ?_
        exact hkk g6 hf
      · replace hf := zif_neg h11 hf
        exact zno hf
  · replace hf := zif_neg h8 hf
    exact zno hf
def fLc_11 (L : Nat) (xs : Nat → Int32) (kk : zM → Option Unit) (v4 : Int32) (g : zM) : Option Unit := zchk (v4 + 1) L (zchk (v4 + 2) L (if (xs (v4 + 2).toNatClampNeg) = 0 then zb2 (fL_open (xs (v4 + 1).toNatClampNeg) 0 g) (fun r_4 g4 => zchk (v4 + 1) L (zchk (v4 + 2) L (if (xs (v4 + 2).toNatClampNeg) = 0 then zb2 (fX12_open (xs (v4 + 1).toNatClampNeg) 0 g4) (fun r_8 g8 => zb (fX12_thrown g8) (fun r_9 => if r_9 = r_4 then if r_4 = 0 then zchk 0 1 (if r_8 = 0 then if (lg_cmp ((g8 508 (0 : Int32).toNatClampNeg).toInt64) ((0 : Int32).toInt64)) = 0 then kk g8 else none else if (lg_cmp ((g8 508 (0 : Int32).toNatClampNeg).toInt64) ((1 : Int32).toInt64)) = 0 then kk g8 else none) else kk g8 else none)) else zb2 (fX12_open (xs (v4 + 1).toNatClampNeg) 1 g4) (fun r_16 g16 => zb (fX12_thrown g16) (fun r_17 => if r_17 = r_4 then if r_4 = 0 then zchk 0 1 (if r_16 = 0 then if (lg_cmp ((g16 508 (0 : Int32).toNatClampNeg).toInt64) ((0 : Int32).toInt64)) = 0 then kk g16 else none else if (lg_cmp ((g16 508 (0 : Int32).toNatClampNeg).toInt64) ((1 : Int32).toInt64)) = 0 then kk g16 else none) else kk g16 else none))))) else zb2 (fL_open (xs (v4 + 1).toNatClampNeg) 1 g) (fun r_24 g24 => zchk (v4 + 1) L (zchk (v4 + 2) L (if (xs (v4 + 2).toNatClampNeg) = 0 then zb2 (fX12_open (xs (v4 + 1).toNatClampNeg) 0 g24) (fun r_28 g28 => zb (fX12_thrown g28) (fun r_29 => if r_29 = r_24 then if r_24 = 0 then zchk 0 1 (if r_28 = 0 then if (lg_cmp ((g28 508 (0 : Int32).toNatClampNeg).toInt64) ((0 : Int32).toInt64)) = 0 then kk g28 else none else if (lg_cmp ((g28 508 (0 : Int32).toNatClampNeg).toInt64) ((1 : Int32).toInt64)) = 0 then kk g28 else none) else kk g28 else none)) else zb2 (fX12_open (xs (v4 + 1).toNatClampNeg) 1 g24) (fun r_36 g36 => zb (fX12_thrown g36) (fun r_37 => if r_37 = r_24 then if r_24 = 0 then zchk 0 1 (if r_36 = 0 then if (lg_cmp ((g36 508 (0 : Int32).toNatClampNeg).toInt64) ((0 : Int32).toInt64)) = 0 then kk g36 else none else if (lg_cmp ((g36 508 (0 : Int32).toNatClampNeg).toInt64) ((1 : Int32).toInt64)) = 0 then kk g36 else none) else kk g36 else none)))))))
set_option maxHeartbeats 4000000 in
set_option maxRecDepth 100000 in
theorem fLc_11_ok {X : zX} (hX : zCX X cL_law_ RL) (hR : X.2.2.2.1 = room_1) (hn : X.2.2.2.2.2.2.2.2.2.1.maxLocals = 7) {b L : Nat} {xs : Nat → Int32} (hs : zSc X b L xs) {Q : State → Prop} {k n K N : Nat} (hKa : K ≤ 601024) (hNa : N ≤ 7293034) (hKb : k + 12 ≤ K) (hNb : n + 72 ≤ N) {kk : zM → Option Unit} {v4 : Int32} {g : zM} {r : Unit} (hkk : ∀ g, kk g = some r → zW X Q K N 3587 [(0, .ref b), (1, .ref (zB X + 0)), (2, .ref (zB X + 493)), (3, .ref (zB X + 508)), (4, .int v4)] [] g) (hf : fLc_11 L xs kk v4 g = some r) : zW X Q k n 895 [(0, .ref b), (1, .ref (zB X + 0)), (2, .ref (zB X + 493)), (3, .ref (zB X + 508)), (4, .int v4)] [] g := by
  unfold fLc_11 at hf
  refine z_aload_n hX dL_law__895 1 rfl ?_
  refine z_aload_n hX dL_law__896 0 rfl ?_
  refine z_iload hX dL_law__897 4 rfl ?_
  refine z_iconst hX dL_law__899 ci_1 ?_
  refine z_iadd hX dL_law__900 ?_
  replace hf := zchk_some hf
  obtain ⟨h1, hf⟩ := hf
  refine z_sld hX hs h1 dL_law__901 ?_
  refine z_aload_n hX dL_law__902 0 rfl ?_
  refine z_iload hX dL_law__903 4 rfl ?_
  refine z_iconst hX dL_law__905 ci_2 ?_
  refine z_iadd hX dL_law__906 ?_
  replace hf := zchk_some hf
  obtain ⟨h2, hf⟩ := hf
  refine z_sld hX hs h2 dL_law__907 ?_
  refine z_if_eq hX 915 dL_law__908 (by decide) (fun h3 => ?_) (fun h3 => ?_)
  · replace hf := zif_pos h3 hf
    refine z_iconst hX dL_law__915 ci_0 ?_
    refine z_aload_n hX dL_law__916 3 rfl ?_
    replace hf := zb2_some hf
    obtain ⟨r_4, g4, h4, hf⟩ := hf
    refine z_callW1 hX okw_L_open q1091 q1092 (zrm_law hR (by decide) hKa hNa (by omega) (by omega)) (ct_L_open h4) dL_law__917 rfl rfl ?_
    refine z_istore (lv' := [(5, .int r_4), (0, .ref b), (1, .ref (zB X + 0)), (2, .ref (zB X + 493)), (3, .ref (zB X + 508)), (4, .int v4)]) hX dL_law__920 hn (by decide) rfl ?_
    refine z_aload_n hX dL_law__922 3 rfl ?_
    refine z_aload_n hX dL_law__923 1 rfl ?_
    refine z_iload hX dL_law__924 5 rfl ?_
    refine z_iconst hX dL_law__926 ci_1 ?_
    refine z_iadd hX dL_law__927 ?_
    replace hf := zchk_some hf
    obtain ⟨h5, hf⟩ := hf
    refine z_sld hX hs h5 dL_law__928 ?_
    refine z_aload_n hX dL_law__929 1 rfl ?_
    refine z_iload hX dL_law__930 5 rfl ?_
    refine z_iconst hX dL_law__932 ci_2 ?_
    refine z_iadd hX dL_law__933 ?_
    replace hf := zchk_some hf
    obtain ⟨h6, hf⟩ := hf
    refine z_sld hX hs h6 dL_law__934 ?_
    refine z_if_eq hX 942 dL_law__935 (by decide) (fun h7 => ?_) (fun h7 => ?_)
    · replace hf := zif_pos h7 hf
      refine z_iconst hX dL_law__942 ci_0 ?_
      replace hf := zb2_some hf
      obtain ⟨r_8, g8, h8, hf⟩ := hf
      refine z_callV1 hX ok_X12_open q1884 q1885 q1886 (zrm_law hR (by decide) hKa hNa (by omega) (by omega)) (ct_X12_open  h8) (zrec_Model hX zq_493) dL_law__943 rfl rfl ?_
      refine z_istore (lv' := [(6, .int r_8), (5, .int r_4), (0, .ref b), (1, .ref (zB X + 0)), (2, .ref (zB X + 493)), (3, .ref (zB X + 508)), (4, .int v4)]) hX dL_law__946 hn (by decide) rfl ?_
      refine z_aload_n hX dL_law__948 4 rfl ?_
      replace hf := zb_some hf
      obtain ⟨r_9, h9, hf⟩ := hf
      refine z_callV1 hX ok_X12_thrown q1484 q1485 q1486 (zrm_law hR (by decide) hKa hNa (by omega) (by omega)) (ct_X12_thrown  h9) (zrec_Model hX zq_493) dL_law__949 rfl rfl ?_
      refine z_iload hX dL_law__952 1 rfl ?_
      refine z_icmp_eq hX 959 dL_law__954 (by decide) (fun h10 => ?_) (fun h10 => ?_)
      · replace hf := zif_pos h10 hf
        refine z_iload hX dL_law__959 1 rfl ?_
        refine z_if_ne hX 983 dL_law__961 (by decide) (fun h11 => ?_) (fun h11 => ?_)
        · replace hf := zif_neg h11 hf
          refine z_goto hX 3587 dL_law__983 (by decide) ?_
          refine zW.sub [2, 3, 4, 5, 6] rfl ?_
          refine zW.widen (k' := K) (n' := N) (by omega) (by omega) ?_
          exact hkk g8 hf
        · replace hf := zif_pos h11 hf
          refine z_aload_n hX dL_law__964 5 rfl ?_
          refine z_iconst hX dL_law__965 ci_0 ?_
          replace hf := zchk_some hf
          obtain ⟨h12, hf⟩ := hf
          refine z_lald hX zq_508 h12 dL_law__966 ?_
          refine z_iload hX dL_law__967 0 rfl ?_
          refine z_if_eq hX 976 dL_law__969 (by decide) (fun h13 => ?_) (fun h13 => ?_)
          · replace hf := zif_pos h13 hf
            refine z_lconst hX dL_law__976 (by decide : Int64.ofNat _ = (0 : Int32).toInt64) ?_
            refine z_lcmp hX dL_law__977 ?_
            refine z_if_eq hX 983 dL_law__978 (by decide) (fun h14 => ?_) (fun h14 => ?_)
            · replace hf := zif_pos h14 hf
              refine z_goto hX 3587 dL_law__983 (by decide) ?_
              refine zW.sub [2, 3, 4, 5, 6] rfl ?_
              refine zW.widen (k' := K) (n' := N) (by omega) (by omega) ?_
              exact hkk g8 hf
            · replace hf := zif_neg h14 hf
              exact zno hf
          · replace hf := zif_neg h13 hf
            refine z_lconst hX dL_law__972 (by decide : Int64.ofNat _ = (1 : Int32).toInt64) ?_
            refine z_goto hX 977 dL_law__973 (by decide) ?_
            refine z_lcmp hX dL_law__977 ?_
            refine z_if_eq hX 983 dL_law__978 (by decide) (fun h15 => ?_) (fun h15 => ?_)
            · replace hf := zif_pos h15 hf
              refine z_goto hX 3587 dL_law__983 (by decide) ?_
              refine zW.sub [2, 3, 4, 5, 6] rfl ?_
              refine zW.widen (k' := K) (n' := N) (by omega) (by omega) ?_
              exact hkk g8 hf
            · replace hf := zif_neg h15 hf
              exact zno hf
      · replace hf := zif_neg h10 hf
        exact zno hf
    · replace hf := zif_neg h7 hf
      refine z_iconst hX dL_law__938 ci_1 ?_
      refine z_goto hX 943 dL_law__939 (by decide) ?_
      replace hf := zb2_some hf
      obtain ⟨r_16, g16, h16, hf⟩ := hf
      refine z_callV1 hX ok_X12_open q1884 q1885 q1886 (zrm_law hR (by decide) hKa hNa (by omega) (by omega)) (ct_X12_open  h16) (zrec_Model hX zq_493) dL_law__943 rfl rfl ?_
      refine z_istore (lv' := [(6, .int r_16), (5, .int r_4), (0, .ref b), (1, .ref (zB X + 0)), (2, .ref (zB X + 493)), (3, .ref (zB X + 508)), (4, .int v4)]) hX dL_law__946 hn (by decide) rfl ?_
      refine z_aload_n hX dL_law__948 4 rfl ?_
      replace hf := zb_some hf
      obtain ⟨r_17, h17, hf⟩ := hf
      refine z_callV1 hX ok_X12_thrown q1484 q1485 q1486 (zrm_law hR (by decide) hKa hNa (by omega) (by omega)) (ct_X12_thrown  h17) (zrec_Model hX zq_493) dL_law__949 rfl rfl ?_
      refine z_iload hX dL_law__952 1 rfl ?_
      refine z_icmp_eq hX 959 dL_law__954 (by decide) (fun h18 => ?_) (fun h18 => ?_)
      · replace hf := zif_pos h18 hf
        refine z_iload hX dL_law__959 1 rfl ?_
        refine z_if_ne hX 983 dL_law__961 (by decide) (fun h19 => ?_) (fun h19 => ?_)
        · replace hf := zif_neg h19 hf
          refine z_goto hX 3587 dL_law__983 (by decide) ?_
          refine zW.sub [2, 3, 4, 5, 6] rfl ?_
          refine zW.widen (k' := K) (n' := N) (by omega) (by omega) ?_
          exact hkk g16 hf
        · replace hf := zif_pos h19 hf
          refine z_aload_n hX dL_law__964 5 rfl ?_
          refine z_iconst hX dL_law__965 ci_0 ?_
          replace hf := zchk_some hf
          obtain ⟨h20, hf⟩ := hf
          refine z_lald hX zq_508 h20 dL_law__966 ?_
          refine z_iload hX dL_law__967 0 rfl ?_
          refine z_if_eq hX 976 dL_law__969 (by decide) (fun h21 => ?_) (fun h21 => ?_)
          · replace hf := zif_pos h21 hf
            refine z_lconst hX dL_law__976 (by decide : Int64.ofNat _ = (0 : Int32).toInt64) ?_
            refine z_lcmp hX dL_law__977 ?_
            refine z_if_eq hX 983 dL_law__978 (by decide) (fun h22 => ?_) (fun h22 => ?_)
            · replace hf := zif_pos h22 hf
              refine z_goto hX 3587 dL_law__983 (by decide) ?_
              refine zW.sub [2, 3, 4, 5, 6] rfl ?_
              refine zW.widen (k' := K) (n' := N) (by omega) (by omega) ?_
              exact hkk g16 hf
            · replace hf := zif_neg h22 hf
              exact zno hf
          · replace hf := zif_neg h21 hf
            refine z_lconst hX dL_law__972 (by decide : Int64.ofNat _ = (1 : Int32).toInt64) ?_
            refine z_goto hX 977 dL_law__973 (by decide) ?_
            refine z_lcmp hX dL_law__977 ?_
            refine z_if_eq hX 983 dL_law__978 (by decide) (fun h23 => ?_) (fun h23 => ?_)
            · replace hf := zif_pos h23 hf
              refine z_goto hX 3587 dL_law__983 (by decide) ?_
              refine zW.sub [2, 3, 4, 5, 6] rfl ?_
              refine zW.widen (k' := K) (n' := N) (by omega) (by omega) ?_
              exact hkk g16 hf
            · replace hf := zif_neg h23 hf
              exact zno hf
      · replace hf := zif_neg h18 hf
        exact zno hf
  · replace hf := zif_neg h3 hf
    refine z_iconst hX dL_law__911 ci_1 ?_
    refine z_goto hX 916 dL_law__912 (by decide) ?_
    refine z_aload_n hX dL_law__916 3 rfl ?_
    replace hf := zb2_some hf
    obtain ⟨r_24, g24, h24, hf⟩ := hf
    refine z_callW1 hX okw_L_open q1091 q1092 (zrm_law hR (by decide) hKa hNa (by omega) (by omega)) (ct_L_open h24) dL_law__917 rfl rfl ?_
    refine z_istore (lv' := [(5, .int r_24), (0, .ref b), (1, .ref (zB X + 0)), (2, .ref (zB X + 493)), (3, .ref (zB X + 508)), (4, .int v4)]) hX dL_law__920 hn (by decide) rfl ?_
    refine z_aload_n hX dL_law__922 3 rfl ?_
    refine z_aload_n hX dL_law__923 1 rfl ?_
    refine z_iload hX dL_law__924 5 rfl ?_
    refine z_iconst hX dL_law__926 ci_1 ?_
    refine z_iadd hX dL_law__927 ?_
    replace hf := zchk_some hf
    obtain ⟨h25, hf⟩ := hf
    refine z_sld hX hs h25 dL_law__928 ?_
    refine z_aload_n hX dL_law__929 1 rfl ?_
    refine z_iload hX dL_law__930 5 rfl ?_
    refine z_iconst hX dL_law__932 ci_2 ?_
    refine z_iadd hX dL_law__933 ?_
    replace hf := zchk_some hf
    obtain ⟨h26, hf⟩ := hf
    refine z_sld hX hs h26 dL_law__934 ?_
    refine z_if_eq hX 942 dL_law__935 (by decide) (fun h27 => ?_) (fun h27 => ?_)
    · replace hf := zif_pos h27 hf
      refine z_iconst hX dL_law__942 ci_0 ?_
      replace hf := zb2_some hf
      obtain ⟨r_28, g28, h28, hf⟩ := hf
      refine z_callV1 hX ok_X12_open q1884 q1885 q1886 (zrm_law hR (by decide) hKa hNa (by omega) (by omega)) (ct_X12_open  h28) (zrec_Model hX zq_493) dL_law__943 rfl rfl ?_
      refine z_istore (lv' := [(6, .int r_28), (5, .int r_24), (0, .ref b), (1, .ref (zB X + 0)), (2, .ref (zB X + 493)), (3, .ref (zB X + 508)), (4, .int v4)]) hX dL_law__946 hn (by decide) rfl ?_
      refine z_aload_n hX dL_law__948 4 rfl ?_
      replace hf := zb_some hf
      obtain ⟨r_29, h29, hf⟩ := hf
      refine z_callV1 hX ok_X12_thrown q1484 q1485 q1486 (zrm_law hR (by decide) hKa hNa (by omega) (by omega)) (ct_X12_thrown  h29) (zrec_Model hX zq_493) dL_law__949 rfl rfl ?_
      refine z_iload hX dL_law__952 1 rfl ?_
      refine z_icmp_eq hX 959 dL_law__954 (by decide) (fun h30 => ?_) (fun h30 => ?_)
      · replace hf := zif_pos h30 hf
        refine z_iload hX dL_law__959 1 rfl ?_
        refine z_if_ne hX 983 dL_law__961 (by decide) (fun h31 => ?_) (fun h31 => ?_)
        · replace hf := zif_neg h31 hf
          refine z_goto hX 3587 dL_law__983 (by decide) ?_
          refine zW.sub [2, 3, 4, 5, 6] rfl ?_
          refine zW.widen (k' := K) (n' := N) (by omega) (by omega) ?_
          exact hkk g28 hf
        · replace hf := zif_pos h31 hf
          refine z_aload_n hX dL_law__964 5 rfl ?_
          refine z_iconst hX dL_law__965 ci_0 ?_
          replace hf := zchk_some hf
          obtain ⟨h32, hf⟩ := hf
          refine z_lald hX zq_508 h32 dL_law__966 ?_
          refine z_iload hX dL_law__967 0 rfl ?_
          refine z_if_eq hX 976 dL_law__969 (by decide) (fun h33 => ?_) (fun h33 => ?_)
          · replace hf := zif_pos h33 hf
            refine z_lconst hX dL_law__976 (by decide : Int64.ofNat _ = (0 : Int32).toInt64) ?_
            refine z_lcmp hX dL_law__977 ?_
            refine z_if_eq hX 983 dL_law__978 (by decide) (fun h34 => ?_) (fun h34 => ?_)
            · replace hf := zif_pos h34 hf
              refine z_goto hX 3587 dL_law__983 (by decide) ?_
              refine zW.sub [2, 3, 4, 5, 6] rfl ?_
              refine zW.widen (k' := K) (n' := N) (by omega) (by omega) ?_
              exact hkk g28 hf
            · replace hf := zif_neg h34 hf
              exact zno hf
          · replace hf := zif_neg h33 hf
            refine z_lconst hX dL_law__972 (by decide : Int64.ofNat _ = (1 : Int32).toInt64) ?_
            refine z_goto hX 977 dL_law__973 (by decide) ?_
            refine z_lcmp hX dL_law__977 ?_
            refine z_if_eq hX 983 dL_law__978 (by decide) (fun h35 => ?_) (fun h35 => ?_)
            · replace hf := zif_pos h35 hf
              refine z_goto hX 3587 dL_law__983 (by decide) ?_
              refine zW.sub [2, 3, 4, 5, 6] rfl ?_
              refine zW.widen (k' := K) (n' := N) (by omega) (by omega) ?_
              exact hkk g28 hf
            · replace hf := zif_neg h35 hf
              exact zno hf
      · replace hf := zif_neg h30 hf
        exact zno hf
    · replace hf := zif_neg h27 hf
      refine z_iconst hX dL_law__938 ci_1 ?_
      refine z_goto hX 943 dL_law__939 (by decide) ?_
      replace hf := zb2_some hf
      obtain ⟨r_36, g36, h36, hf⟩ := hf
      refine z_callV1 hX ok_X12_open q1884 q1885 q1886 (zrm_law hR (by decide) hKa hNa (by omega) (by omega)) (ct_X12_open  h36) (zrec_Model hX zq_493) dL_law__943 rfl rfl ?_
      refine z_istore (lv' := [(6, .int r_36), (5, .int r_24), (0, .ref b), (1, .ref (zB X + 0)), (2, .ref (zB X + 493)), (3, .ref (zB X + 508)), (4, .int v4)]) hX dL_law__946 hn (by decide) rfl ?_
      refine z_aload_n hX dL_law__948 4 rfl ?_
      replace hf := zb_some hf
      obtain ⟨r_37, h37, hf⟩ := hf
      refine z_callV1 hX ok_X12_thrown q1484 q1485 q1486 (zrm_law hR (by decide) hKa hNa (by omega) (by omega)) (ct_X12_thrown  h37) (zrec_Model hX zq_493) dL_law__949 rfl rfl ?_
      refine z_iload hX dL_law__952 1 rfl ?_
      refine z_icmp_eq hX 959 dL_law__954 (by decide) (fun h38 => ?_) (fun h38 => ?_)
      · replace hf := zif_pos h38 hf
        refine z_iload hX dL_law__959 1 rfl ?_
        refine z_if_ne hX 983 dL_law__961 (by decide) (fun h39 => ?_) (fun h39 => ?_)
        · replace hf := zif_neg h39 hf
          refine z_goto hX 3587 dL_law__983 (by decide) ?_
          refine zW.sub [2, 3, 4, 5, 6] rfl ?_
          refine zW.widen (k' := K) (n' := N) (by omega) (by omega) ?_
          exact hkk g36 hf
        · replace hf := zif_pos h39 hf
          refine z_aload_n hX dL_law__964 5 rfl ?_
          refine z_iconst hX dL_law__965 ci_0 ?_
          replace hf := zchk_some hf
          obtain ⟨h40, hf⟩ := hf
          refine z_lald hX zq_508 h40 dL_law__966 ?_
          refine z_iload hX dL_law__967 0 rfl ?_
          refine z_if_eq hX 976 dL_law__969 (by decide) (fun h41 => ?_) (fun h41 => ?_)
          · replace hf := zif_pos h41 hf
            refine z_lconst hX dL_law__976 (by decide : Int64.ofNat _ = (0 : Int32).toInt64) ?_
            refine z_lcmp hX dL_law__977 ?_
            refine z_if_eq hX 983 dL_law__978 (by decide) (fun h42 => ?_) (fun h42 => ?_)
            · replace hf := zif_pos h42 hf
              refine z_goto hX 3587 dL_law__983 (by decide) ?_
              refine zW.sub [2, 3, 4, 5, 6] rfl ?_
              refine zW.widen (k' := K) (n' := N) (by omega) (by omega) ?_
              exact hkk g36 hf
            · replace hf := zif_neg h42 hf
              exact zno hf
          · replace hf := zif_neg h41 hf
            refine z_lconst hX dL_law__972 (by decide : Int64.ofNat _ = (1 : Int32).toInt64) ?_
            refine z_goto hX 977 dL_law__973 (by decide) ?_
            refine z_lcmp hX dL_law__977 ?_
            refine z_if_eq hX 983 dL_law__978 (by decide) (fun h43 => ?_) (fun h43 => ?_)
            · replace hf := zif_pos h43 hf
              refine z_goto hX 3587 dL_law__983 (by decide) ?_
              refine zW.sub [2, 3, 4, 5, 6] rfl ?_
              refine zW.widen (k' := K) (n' := N) (by omega) (by omega) ?_
              exact hkk g36 hf
            · replace hf := zif_neg h43 hf
              exact zno hf
      · replace hf := zif_neg h38 hf
        exact zno hf
def fLc_12 (L : Nat) (xs : Nat → Int32) (kk : zM → Option Unit) (v4 : Int32) (g : zM) : Option Unit := zchk (v4 + 1) L (zb2 (fL_copy (xs (v4 + 1).toNatClampNeg) g) (fun r_2 g2 => zchk (v4 + 1) L (zb2 (fX12_copy (xs (v4 + 1).toNatClampNeg) g2) (fun r_4 g4 => zb (fX12_thrown g4) (fun r_5 => if r_5 = r_2 then if r_2 = 0 then zchk 0 1 (if (lg_cmp ((g4 508 (0 : Int32).toNatClampNeg).toInt64) r_4.toInt64) = 0 then kk g4 else none) else kk g4 else none)))))
set_option maxHeartbeats 4000000 in
set_option maxRecDepth 100000 in
theorem fLc_12_ok {X : zX} (hX : zCX X cL_law_ RL) (hR : X.2.2.2.1 = room_1) (hn : X.2.2.2.2.2.2.2.2.2.1.maxLocals = 7) {b L : Nat} {xs : Nat → Int32} (hs : zSc X b L xs) {Q : State → Prop} {k n K N : Nat} (hKa : K ≤ 601024) (hNa : N ≤ 7293034) (hKb : k + 12 ≤ K) (hNb : n + 72 ≤ N) {kk : zM → Option Unit} {v4 : Int32} {g : zM} {r : Unit} (hkk : ∀ g, kk g = some r → zW X Q K N 3587 [(0, .ref b), (1, .ref (zB X + 0)), (2, .ref (zB X + 493)), (3, .ref (zB X + 508)), (4, .int v4)] [] g) (hf : fLc_12 L xs kk v4 g = some r) : zW X Q k n 986 [(0, .ref b), (1, .ref (zB X + 0)), (2, .ref (zB X + 493)), (3, .ref (zB X + 508)), (4, .int v4)] [] g := by
  unfold fLc_12 at hf
  refine z_aload_n hX dL_law__986 1 rfl ?_
  refine z_aload_n hX dL_law__987 0 rfl ?_
  refine z_iload hX dL_law__988 4 rfl ?_
  refine z_iconst hX dL_law__990 ci_1 ?_
  refine z_iadd hX dL_law__991 ?_
  replace hf := zchk_some hf
  obtain ⟨h1, hf⟩ := hf
  refine z_sld hX hs h1 dL_law__992 ?_
  refine z_aload_n hX dL_law__993 3 rfl ?_
  replace hf := zb2_some hf
  obtain ⟨r_2, g2, h2, hf⟩ := hf
  refine z_callW1 hX okw_L_copy q1098 q1099 (zrm_law hR (by decide) hKa hNa (by omega) (by omega)) (ct_L_copy h2) dL_law__994 rfl rfl ?_
  refine z_istore (lv' := [(5, .int r_2), (0, .ref b), (1, .ref (zB X + 0)), (2, .ref (zB X + 493)), (3, .ref (zB X + 508)), (4, .int v4)]) hX dL_law__997 hn (by decide) rfl ?_
  refine z_aload_n hX dL_law__999 3 rfl ?_
  refine z_aload_n hX dL_law__1000 1 rfl ?_
  refine z_iload hX dL_law__1001 5 rfl ?_
  refine z_iconst hX dL_law__1003 ci_1 ?_
  refine z_iadd hX dL_law__1004 ?_
  replace hf := zchk_some hf
  obtain ⟨h3, hf⟩ := hf
  refine z_sld hX hs h3 dL_law__1005 ?_
  replace hf := zb2_some hf
  obtain ⟨r_4, g4, h4, hf⟩ := hf
  refine z_callV1 hX ok_X12_copy q1896 q1897 q1898 (zrm_law hR (by decide) hKa hNa (by omega) (by omega)) (ct_X12_copy  h4) (zrec_Model hX zq_493) dL_law__1006 rfl rfl ?_
  refine z_istore (lv' := [(6, .int r_4), (5, .int r_2), (0, .ref b), (1, .ref (zB X + 0)), (2, .ref (zB X + 493)), (3, .ref (zB X + 508)), (4, .int v4)]) hX dL_law__1009 hn (by decide) rfl ?_
  refine z_aload_n hX dL_law__1011 4 rfl ?_
  replace hf := zb_some hf
  obtain ⟨r_5, h5, hf⟩ := hf
  refine z_callV1 hX ok_X12_thrown q1484 q1485 q1486 (zrm_law hR (by decide) hKa hNa (by omega) (by omega)) (ct_X12_thrown  h5) (zrec_Model hX zq_493) dL_law__1012 rfl rfl ?_
  refine z_iload hX dL_law__1015 1 rfl ?_
  refine z_icmp_eq hX 1022 dL_law__1017 (by decide) (fun h6 => ?_) (fun h6 => ?_)
  · replace hf := zif_pos h6 hf
    refine z_iload hX dL_law__1022 1 rfl ?_
    refine z_if_ne hX 1039 dL_law__1024 (by decide) (fun h7 => ?_) (fun h7 => ?_)
    · replace hf := zif_neg h7 hf
      refine z_goto hX 3587 dL_law__1039 (by decide) ?_
      refine zW.sub [2, 3, 4, 5, 6] rfl ?_
      refine zW.widen (k' := K) (n' := N) (by omega) (by omega) ?_
      exact hkk g4 hf
    · replace hf := zif_pos h7 hf
      refine z_aload_n hX dL_law__1027 5 rfl ?_
      refine z_iconst hX dL_law__1028 ci_0 ?_
      replace hf := zchk_some hf
      obtain ⟨h8, hf⟩ := hf
      refine z_lald hX zq_508 h8 dL_law__1029 ?_
      refine z_iload hX dL_law__1030 0 rfl ?_
      refine z_i2l hX dL_law__1032 ?_
      refine z_lcmp hX dL_law__1033 ?_
      refine z_if_eq hX 1039 dL_law__1034 (by decide) (fun h9 => ?_) (fun h9 => ?_)
      · replace hf := zif_pos h9 hf
        refine z_goto hX 3587 dL_law__1039 (by decide) ?_
        refine zW.sub [2, 3, 4, 5, 6] rfl ?_
        refine zW.widen (k' := K) (n' := N) (by omega) (by omega) ?_
        exact hkk g4 hf
      · replace hf := zif_neg h9 hf
        exact zno hf
  · replace hf := zif_neg h6 hf
    exact zno hf
def fLc_13 (L : Nat) (xs : Nat → Int32) (kk : zM → Option Unit) (v4 : Int32) (g : zM) : Option Unit := zchk (v4 + 1) L (zchk (v4 + 2) L (zb2 (fL_prune (xs (v4 + 1).toNatClampNeg) (xs (v4 + 2).toNatClampNeg) g) (fun r_3 g3 => zchk (v4 + 1) L (zchk (v4 + 2) L (zb2 (fX12_prune (xs (v4 + 1).toNatClampNeg) (xs (v4 + 2).toNatClampNeg) g3) (fun r_6 g6 => zb (fX12_thrown g6) (fun r_7 => if r_7 = r_3 then if r_3 = 0 then zchk 0 1 (if (lg_cmp ((g6 508 (0 : Int32).toNatClampNeg).toInt64) r_6.toInt64) = 0 then kk g6 else none) else kk g6 else none)))))))
set_option maxHeartbeats 4000000 in
set_option maxRecDepth 100000 in
theorem fLc_13_ok {X : zX} (hX : zCX X cL_law_ RL) (hR : X.2.2.2.1 = room_1) (hn : X.2.2.2.2.2.2.2.2.2.1.maxLocals = 7) {b L : Nat} {xs : Nat → Int32} (hs : zSc X b L xs) {Q : State → Prop} {k n K N : Nat} (hKa : K ≤ 601024) (hNa : N ≤ 7293034) (hKb : k + 12 ≤ K) (hNb : n + 72 ≤ N) {kk : zM → Option Unit} {v4 : Int32} {g : zM} {r : Unit} (hkk : ∀ g, kk g = some r → zW X Q K N 3587 [(0, .ref b), (1, .ref (zB X + 0)), (2, .ref (zB X + 493)), (3, .ref (zB X + 508)), (4, .int v4)] [] g) (hf : fLc_13 L xs kk v4 g = some r) : zW X Q k n 1042 [(0, .ref b), (1, .ref (zB X + 0)), (2, .ref (zB X + 493)), (3, .ref (zB X + 508)), (4, .int v4)] [] g := by
  unfold fLc_13 at hf
  refine z_aload_n hX dL_law__1042 1 rfl ?_
  refine z_aload_n hX dL_law__1043 0 rfl ?_
  refine z_iload hX dL_law__1044 4 rfl ?_
  refine z_iconst hX dL_law__1046 ci_1 ?_
  refine z_iadd hX dL_law__1047 ?_
  replace hf := zchk_some hf
  obtain ⟨h1, hf⟩ := hf
  refine z_sld hX hs h1 dL_law__1048 ?_
  refine z_aload_n hX dL_law__1049 0 rfl ?_
  refine z_iload hX dL_law__1050 4 rfl ?_
  refine z_iconst hX dL_law__1052 ci_2 ?_
  refine z_iadd hX dL_law__1053 ?_
  replace hf := zchk_some hf
  obtain ⟨h2, hf⟩ := hf
  refine z_sld hX hs h2 dL_law__1054 ?_
  refine z_aload_n hX dL_law__1055 3 rfl ?_
  replace hf := zb2_some hf
  obtain ⟨r_3, g3, h3, hf⟩ := hf
  refine z_callW1 hX okw_L_prune q1106 q1107 (zrm_law hR (by decide) hKa hNa (by omega) (by omega)) (ct_L_prune h3) dL_law__1056 rfl rfl ?_
  refine z_istore (lv' := [(5, .int r_3), (0, .ref b), (1, .ref (zB X + 0)), (2, .ref (zB X + 493)), (3, .ref (zB X + 508)), (4, .int v4)]) hX dL_law__1059 hn (by decide) rfl ?_
  refine z_aload_n hX dL_law__1061 3 rfl ?_
  refine z_aload_n hX dL_law__1062 1 rfl ?_
  refine z_iload hX dL_law__1063 5 rfl ?_
  refine z_iconst hX dL_law__1065 ci_1 ?_
  refine z_iadd hX dL_law__1066 ?_
  replace hf := zchk_some hf
  obtain ⟨h4, hf⟩ := hf
  refine z_sld hX hs h4 dL_law__1067 ?_
  refine z_aload_n hX dL_law__1068 1 rfl ?_
  refine z_iload hX dL_law__1069 5 rfl ?_
  refine z_iconst hX dL_law__1071 ci_2 ?_
  refine z_iadd hX dL_law__1072 ?_
  replace hf := zchk_some hf
  obtain ⟨h5, hf⟩ := hf
  refine z_sld hX hs h5 dL_law__1073 ?_
  replace hf := zb2_some hf
  obtain ⟨r_6, g6, h6, hf⟩ := hf
  refine z_callV1 hX ok_X12_prune q1900 q1901 q1902 (zrm_law hR (by decide) hKa hNa (by omega) (by omega)) (ct_X12_prune  h6) (zrec_Model hX zq_493) dL_law__1074 rfl rfl ?_
  refine z_istore (lv' := [(6, .int r_6), (5, .int r_3), (0, .ref b), (1, .ref (zB X + 0)), (2, .ref (zB X + 493)), (3, .ref (zB X + 508)), (4, .int v4)]) hX dL_law__1077 hn (by decide) rfl ?_
  refine z_aload_n hX dL_law__1079 4 rfl ?_
  replace hf := zb_some hf
  obtain ⟨r_7, h7, hf⟩ := hf
  refine z_callV1 hX ok_X12_thrown q1484 q1485 q1486 (zrm_law hR (by decide) hKa hNa (by omega) (by omega)) (ct_X12_thrown  h7) (zrec_Model hX zq_493) dL_law__1080 rfl rfl ?_
  refine z_iload hX dL_law__1083 1 rfl ?_
  refine z_icmp_eq hX 1090 dL_law__1085 (by decide) (fun h8 => ?_) (fun h8 => ?_)
  · replace hf := zif_pos h8 hf
    refine z_iload hX dL_law__1090 1 rfl ?_
    refine z_if_ne hX 1107 dL_law__1092 (by decide) (fun h9 => ?_) (fun h9 => ?_)
    · replace hf := zif_neg h9 hf
      refine z_goto hX 3587 dL_law__1107 (by decide) ?_
      refine zW.sub [2, 3, 4, 5, 6] rfl ?_
      refine zW.widen (k' := K) (n' := N) (by omega) (by omega) ?_
      exact hkk g6 hf
    · replace hf := zif_pos h9 hf
      refine z_aload_n hX dL_law__1095 5 rfl ?_
      refine z_iconst hX dL_law__1096 ci_0 ?_
      replace hf := zchk_some hf
      obtain ⟨h10, hf⟩ := hf
      refine z_lald hX zq_508 h10 dL_law__1097 ?_
      refine z_iload hX dL_law__1098 0 rfl ?_
      refine z_i2l hX dL_law__1100 ?_
      refine z_lcmp hX dL_law__1101 ?_
      refine z_if_eq hX 1107 dL_law__1102 (by decide) (fun h11 => ?_) (fun h11 => ?_)
      · replace hf := zif_pos h11 hf
        refine z_goto hX 3587 dL_law__1107 (by decide) ?_
        refine zW.sub [2, 3, 4, 5, 6] rfl ?_
        refine zW.widen (k' := K) (n' := N) (by omega) (by omega) ?_
        exact hkk g6 hf
      · replace hf := zif_neg h11 hf
        exact zno hf
  · replace hf := zif_neg h8 hf
    exact zno hf
def fLc_14 (L : Nat) (xs : Nat → Int32) (kk : zM → Option Unit) (v4 : Int32) (g : zM) : Option Unit := zchk (v4 + 1) L (zchk (v4 + 2) L (zb2 (fL_cut (xs (v4 + 1).toNatClampNeg) (xs (v4 + 2).toNatClampNeg) g) (fun r_3 g3 => zchk (v4 + 1) L (zchk (v4 + 2) L (zb2 (fX12_cut (xs (v4 + 1).toNatClampNeg) (xs (v4 + 2).toNatClampNeg) g3) (fun r_6 g6 => zb (fX12_thrown g6) (fun r_7 => if r_7 = r_3 then if r_3 = 0 then zchk 0 1 (if (lg_cmp ((g6 508 (0 : Int32).toNatClampNeg).toInt64) r_6.toInt64) = 0 then kk g6 else none) else kk g6 else none)))))))
set_option maxHeartbeats 4000000 in
set_option maxRecDepth 100000 in
theorem fLc_14_ok {X : zX} (hX : zCX X cL_law_ RL) (hR : X.2.2.2.1 = room_1) (hn : X.2.2.2.2.2.2.2.2.2.1.maxLocals = 7) {b L : Nat} {xs : Nat → Int32} (hs : zSc X b L xs) {Q : State → Prop} {k n K N : Nat} (hKa : K ≤ 601024) (hNa : N ≤ 7293034) (hKb : k + 12 ≤ K) (hNb : n + 72 ≤ N) {kk : zM → Option Unit} {v4 : Int32} {g : zM} {r : Unit} (hkk : ∀ g, kk g = some r → zW X Q K N 3587 [(0, .ref b), (1, .ref (zB X + 0)), (2, .ref (zB X + 493)), (3, .ref (zB X + 508)), (4, .int v4)] [] g) (hf : fLc_14 L xs kk v4 g = some r) : zW X Q k n 1110 [(0, .ref b), (1, .ref (zB X + 0)), (2, .ref (zB X + 493)), (3, .ref (zB X + 508)), (4, .int v4)] [] g := by
  unfold fLc_14 at hf
  refine z_aload_n hX dL_law__1110 1 rfl ?_
  refine z_aload_n hX dL_law__1111 0 rfl ?_
  refine z_iload hX dL_law__1112 4 rfl ?_
  refine z_iconst hX dL_law__1114 ci_1 ?_
  refine z_iadd hX dL_law__1115 ?_
  replace hf := zchk_some hf
  obtain ⟨h1, hf⟩ := hf
  refine z_sld hX hs h1 dL_law__1116 ?_
  refine z_aload_n hX dL_law__1117 0 rfl ?_
  refine z_iload hX dL_law__1118 4 rfl ?_
  refine z_iconst hX dL_law__1120 ci_2 ?_
  refine z_iadd hX dL_law__1121 ?_
  replace hf := zchk_some hf
  obtain ⟨h2, hf⟩ := hf
  refine z_sld hX hs h2 dL_law__1122 ?_
  refine z_aload_n hX dL_law__1123 3 rfl ?_
  replace hf := zb2_some hf
  obtain ⟨r_3, g3, h3, hf⟩ := hf
  refine z_callW1 hX okw_L_cut q1118 q1119 (zrm_law hR (by decide) hKa hNa (by omega) (by omega)) (ct_L_cut h3) dL_law__1124 rfl rfl ?_
  refine z_istore (lv' := [(5, .int r_3), (0, .ref b), (1, .ref (zB X + 0)), (2, .ref (zB X + 493)), (3, .ref (zB X + 508)), (4, .int v4)]) hX dL_law__1127 hn (by decide) rfl ?_
  refine z_aload_n hX dL_law__1129 3 rfl ?_
  refine z_aload_n hX dL_law__1130 1 rfl ?_
  refine z_iload hX dL_law__1131 5 rfl ?_
  refine z_iconst hX dL_law__1133 ci_1 ?_
  refine z_iadd hX dL_law__1134 ?_
  replace hf := zchk_some hf
  obtain ⟨h4, hf⟩ := hf
  refine z_sld hX hs h4 dL_law__1135 ?_
  refine z_aload_n hX dL_law__1136 1 rfl ?_
  refine z_iload hX dL_law__1137 5 rfl ?_
  refine z_iconst hX dL_law__1139 ci_2 ?_
  refine z_iadd hX dL_law__1140 ?_
  replace hf := zchk_some hf
  obtain ⟨h5, hf⟩ := hf
  refine z_sld hX hs h5 dL_law__1141 ?_
  replace hf := zb2_some hf
  obtain ⟨r_6, g6, h6, hf⟩ := hf
  refine z_callV1 hX ok_X12_cut q1904 q1905 q1906 (zrm_law hR (by decide) hKa hNa (by omega) (by omega)) (ct_X12_cut  h6) (zrec_Model hX zq_493) dL_law__1142 rfl rfl ?_
  refine z_istore (lv' := [(6, .int r_6), (5, .int r_3), (0, .ref b), (1, .ref (zB X + 0)), (2, .ref (zB X + 493)), (3, .ref (zB X + 508)), (4, .int v4)]) hX dL_law__1145 hn (by decide) rfl ?_
  refine z_aload_n hX dL_law__1147 4 rfl ?_
  replace hf := zb_some hf
  obtain ⟨r_7, h7, hf⟩ := hf
  refine z_callV1 hX ok_X12_thrown q1484 q1485 q1486 (zrm_law hR (by decide) hKa hNa (by omega) (by omega)) (ct_X12_thrown  h7) (zrec_Model hX zq_493) dL_law__1148 rfl rfl ?_
  refine z_iload hX dL_law__1151 1 rfl ?_
  refine z_icmp_eq hX 1158 dL_law__1153 (by decide) (fun h8 => ?_) (fun h8 => ?_)
  · replace hf := zif_pos h8 hf
    refine z_iload hX dL_law__1158 1 rfl ?_
    refine z_if_ne hX 1175 dL_law__1160 (by decide) (fun h9 => ?_) (fun h9 => ?_)
    · replace hf := zif_neg h9 hf
      refine z_goto hX 3587 dL_law__1175 (by decide) ?_
      refine zW.sub [2, 3, 4, 5, 6] rfl ?_
      refine zW.widen (k' := K) (n' := N) (by omega) (by omega) ?_
      exact hkk g6 hf
    · replace hf := zif_pos h9 hf
      refine z_aload_n hX dL_law__1163 5 rfl ?_
      refine z_iconst hX dL_law__1164 ci_0 ?_
      replace hf := zchk_some hf
      obtain ⟨h10, hf⟩ := hf
      refine z_lald hX zq_508 h10 dL_law__1165 ?_
      refine z_iload hX dL_law__1166 0 rfl ?_
      refine z_i2l hX dL_law__1168 ?_
      refine z_lcmp hX dL_law__1169 ?_
      refine z_if_eq hX 1175 dL_law__1170 (by decide) (fun h11 => ?_) (fun h11 => ?_)
      · replace hf := zif_pos h11 hf
        refine z_goto hX 3587 dL_law__1175 (by decide) ?_
        refine zW.sub [2, 3, 4, 5, 6] rfl ?_
        refine zW.widen (k' := K) (n' := N) (by omega) (by omega) ?_
        exact hkk g6 hf
      · replace hf := zif_neg h11 hf
        exact zno hf
  · replace hf := zif_neg h8 hf
    exact zno hf
def fLc_15 (L : Nat) (xs : Nat → Int32) (kk : zM → Option Unit) (v4 : Int32) (g : zM) : Option Unit := zchk (v4 + 1) L (zchk (v4 + 2) L (if (xs (v4 + 2).toNatClampNeg) = 0 then zb2 (fL_heat (xs (v4 + 1).toNatClampNeg) 0 g) (fun r_4 g4 => zchk (v4 + 1) L (zchk (v4 + 2) L (if (xs (v4 + 2).toNatClampNeg) = 0 then zb2 (fX12_heat (xs (v4 + 1).toNatClampNeg) 0 g4) (fun r_8 g8 => zb (fX12_thrown g8) (fun r_9 => if r_9 = r_4 then if r_4 = 0 then zchk 0 1 (if r_8 = 0 then if (lg_cmp ((g8 508 (0 : Int32).toNatClampNeg).toInt64) ((0 : Int32).toInt64)) = 0 then kk g8 else none else if (lg_cmp ((g8 508 (0 : Int32).toNatClampNeg).toInt64) ((1 : Int32).toInt64)) = 0 then kk g8 else none) else kk g8 else none)) else zb2 (fX12_heat (xs (v4 + 1).toNatClampNeg) 1 g4) (fun r_16 g16 => zb (fX12_thrown g16) (fun r_17 => if r_17 = r_4 then if r_4 = 0 then zchk 0 1 (if r_16 = 0 then if (lg_cmp ((g16 508 (0 : Int32).toNatClampNeg).toInt64) ((0 : Int32).toInt64)) = 0 then kk g16 else none else if (lg_cmp ((g16 508 (0 : Int32).toNatClampNeg).toInt64) ((1 : Int32).toInt64)) = 0 then kk g16 else none) else kk g16 else none))))) else zb2 (fL_heat (xs (v4 + 1).toNatClampNeg) 1 g) (fun r_24 g24 => zchk (v4 + 1) L (zchk (v4 + 2) L (if (xs (v4 + 2).toNatClampNeg) = 0 then zb2 (fX12_heat (xs (v4 + 1).toNatClampNeg) 0 g24) (fun r_28 g28 => zb (fX12_thrown g28) (fun r_29 => if r_29 = r_24 then if r_24 = 0 then zchk 0 1 (if r_28 = 0 then if (lg_cmp ((g28 508 (0 : Int32).toNatClampNeg).toInt64) ((0 : Int32).toInt64)) = 0 then kk g28 else none else if (lg_cmp ((g28 508 (0 : Int32).toNatClampNeg).toInt64) ((1 : Int32).toInt64)) = 0 then kk g28 else none) else kk g28 else none)) else zb2 (fX12_heat (xs (v4 + 1).toNatClampNeg) 1 g24) (fun r_36 g36 => zb (fX12_thrown g36) (fun r_37 => if r_37 = r_24 then if r_24 = 0 then zchk 0 1 (if r_36 = 0 then if (lg_cmp ((g36 508 (0 : Int32).toNatClampNeg).toInt64) ((0 : Int32).toInt64)) = 0 then kk g36 else none else if (lg_cmp ((g36 508 (0 : Int32).toNatClampNeg).toInt64) ((1 : Int32).toInt64)) = 0 then kk g36 else none) else kk g36 else none)))))))
set_option maxHeartbeats 4000000 in
set_option maxRecDepth 100000 in
theorem fLc_15_ok {X : zX} (hX : zCX X cL_law_ RL) (hR : X.2.2.2.1 = room_1) (hn : X.2.2.2.2.2.2.2.2.2.1.maxLocals = 7) {b L : Nat} {xs : Nat → Int32} (hs : zSc X b L xs) {Q : State → Prop} {k n K N : Nat} (hKa : K ≤ 601024) (hNa : N ≤ 7293034) (hKb : k + 12 ≤ K) (hNb : n + 72 ≤ N) {kk : zM → Option Unit} {v4 : Int32} {g : zM} {r : Unit} (hkk : ∀ g, kk g = some r → zW X Q K N 3587 [(0, .ref b), (1, .ref (zB X + 0)), (2, .ref (zB X + 493)), (3, .ref (zB X + 508)), (4, .int v4)] [] g) (hf : fLc_15 L xs kk v4 g = some r) : zW X Q k n 1178 [(0, .ref b), (1, .ref (zB X + 0)), (2, .ref (zB X + 493)), (3, .ref (zB X + 508)), (4, .int v4)] [] g := by
  unfold fLc_15 at hf
  refine z_aload_n hX dL_law__1178 1 rfl ?_
  refine z_aload_n hX dL_law__1179 0 rfl ?_
  refine z_iload hX dL_law__1180 4 rfl ?_
  refine z_iconst hX dL_law__1182 ci_1 ?_
  refine z_iadd hX dL_law__1183 ?_
  replace hf := zchk_some hf
  obtain ⟨h1, hf⟩ := hf
  refine z_sld hX hs h1 dL_law__1184 ?_
  refine z_aload_n hX dL_law__1185 0 rfl ?_
  refine z_iload hX dL_law__1186 4 rfl ?_
  refine z_iconst hX dL_law__1188 ci_2 ?_
  refine z_iadd hX dL_law__1189 ?_
  replace hf := zchk_some hf
  obtain ⟨h2, hf⟩ := hf
  refine z_sld hX hs h2 dL_law__1190 ?_
  refine z_if_eq hX 1198 dL_law__1191 (by decide) (fun h3 => ?_) (fun h3 => ?_)
  · replace hf := zif_pos h3 hf
    refine z_iconst hX dL_law__1198 ci_0 ?_
    refine z_aload_n hX dL_law__1199 3 rfl ?_
    replace hf := zb2_some hf
    obtain ⟨r_4, g4, h4, hf⟩ := hf
    refine z_callW1 hX okw_L_heat q1146 q1147 (zrm_law hR (by decide) hKa hNa (by omega) (by omega)) (ct_L_heat h4) dL_law__1200 rfl rfl ?_
    refine z_istore (lv' := [(5, .int r_4), (0, .ref b), (1, .ref (zB X + 0)), (2, .ref (zB X + 493)), (3, .ref (zB X + 508)), (4, .int v4)]) hX dL_law__1203 hn (by decide) rfl ?_
    refine z_aload_n hX dL_law__1205 3 rfl ?_
    refine z_aload_n hX dL_law__1206 1 rfl ?_
    refine z_iload hX dL_law__1207 5 rfl ?_
    refine z_iconst hX dL_law__1209 ci_1 ?_
    refine z_iadd hX dL_law__1210 ?_
    replace hf := zchk_some hf
    obtain ⟨h5, hf⟩ := hf
    refine z_sld hX hs h5 dL_law__1211 ?_
    refine z_aload_n hX dL_law__1212 1 rfl ?_
    refine z_iload hX dL_law__1213 5 rfl ?_
    refine z_iconst hX dL_law__1215 ci_2 ?_
    refine z_iadd hX dL_law__1216 ?_
    replace hf := zchk_some hf
    obtain ⟨h6, hf⟩ := hf
    refine z_sld hX hs h6 dL_law__1217 ?_
    refine z_if_eq hX 1225 dL_law__1218 (by decide) (fun h7 => ?_) (fun h7 => ?_)
    · replace hf := zif_pos h7 hf
      refine z_iconst hX dL_law__1225 ci_0 ?_
      replace hf := zb2_some hf
      obtain ⟨r_8, g8, h8, hf⟩ := hf
      refine z_callV1 hX ok_X12_heat q1892 q1893 q1894 (zrm_law hR (by decide) hKa hNa (by omega) (by omega)) (ct_X12_heat  h8) (zrec_Model hX zq_493) dL_law__1226 rfl rfl ?_
      refine z_istore (lv' := [(6, .int r_8), (5, .int r_4), (0, .ref b), (1, .ref (zB X + 0)), (2, .ref (zB X + 493)), (3, .ref (zB X + 508)), (4, .int v4)]) hX dL_law__1229 hn (by decide) rfl ?_
      refine z_aload_n hX dL_law__1231 4 rfl ?_
      replace hf := zb_some hf
      obtain ⟨r_9, h9, hf⟩ := hf
      refine z_callV1 hX ok_X12_thrown q1484 q1485 q1486 (zrm_law hR (by decide) hKa hNa (by omega) (by omega)) (ct_X12_thrown  h9) (zrec_Model hX zq_493) dL_law__1232 rfl rfl ?_
      refine z_iload hX dL_law__1235 1 rfl ?_
      refine z_icmp_eq hX 1242 dL_law__1237 (by decide) (fun h10 => ?_) (fun h10 => ?_)
      · replace hf := zif_pos h10 hf
        refine z_iload hX dL_law__1242 1 rfl ?_
        refine z_if_ne hX 1266 dL_law__1244 (by decide) (fun h11 => ?_) (fun h11 => ?_)
        · replace hf := zif_neg h11 hf
          refine z_goto hX 3587 dL_law__1266 (by decide) ?_
          refine zW.sub [2, 3, 4, 5, 6] rfl ?_
          refine zW.widen (k' := K) (n' := N) (by omega) (by omega) ?_
          exact hkk g8 hf
        · replace hf := zif_pos h11 hf
          refine z_aload_n hX dL_law__1247 5 rfl ?_
          refine z_iconst hX dL_law__1248 ci_0 ?_
          replace hf := zchk_some hf
          obtain ⟨h12, hf⟩ := hf
          refine z_lald hX zq_508 h12 dL_law__1249 ?_
          refine z_iload hX dL_law__1250 0 rfl ?_
          refine z_if_eq hX 1259 dL_law__1252 (by decide) (fun h13 => ?_) (fun h13 => ?_)
          · replace hf := zif_pos h13 hf
            refine z_lconst hX dL_law__1259 (by decide : Int64.ofNat _ = (0 : Int32).toInt64) ?_
            refine z_lcmp hX dL_law__1260 ?_
            refine z_if_eq hX 1266 dL_law__1261 (by decide) (fun h14 => ?_) (fun h14 => ?_)
            · replace hf := zif_pos h14 hf
              refine z_goto hX 3587 dL_law__1266 (by decide) ?_
              refine zW.sub [2, 3, 4, 5, 6] rfl ?_
              refine zW.widen (k' := K) (n' := N) (by omega) (by omega) ?_
              exact hkk g8 hf
            · replace hf := zif_neg h14 hf
              exact zno hf
          · replace hf := zif_neg h13 hf
            refine z_lconst hX dL_law__1255 (by decide : Int64.ofNat _ = (1 : Int32).toInt64) ?_
            refine z_goto hX 1260 dL_law__1256 (by decide) ?_
            refine z_lcmp hX dL_law__1260 ?_
            refine z_if_eq hX 1266 dL_law__1261 (by decide) (fun h15 => ?_) (fun h15 => ?_)
            · replace hf := zif_pos h15 hf
              refine z_goto hX 3587 dL_law__1266 (by decide) ?_
              refine zW.sub [2, 3, 4, 5, 6] rfl ?_
              refine zW.widen (k' := K) (n' := N) (by omega) (by omega) ?_
              exact hkk g8 hf
            · replace hf := zif_neg h15 hf
              exact zno hf
      · replace hf := zif_neg h10 hf
        exact zno hf
    · replace hf := zif_neg h7 hf
      refine z_iconst hX dL_law__1221 ci_1 ?_
      refine z_goto hX 1226 dL_law__1222 (by decide) ?_
      replace hf := zb2_some hf
      obtain ⟨r_16, g16, h16, hf⟩ := hf
      refine z_callV1 hX ok_X12_heat q1892 q1893 q1894 (zrm_law hR (by decide) hKa hNa (by omega) (by omega)) (ct_X12_heat  h16) (zrec_Model hX zq_493) dL_law__1226 rfl rfl ?_
      refine z_istore (lv' := [(6, .int r_16), (5, .int r_4), (0, .ref b), (1, .ref (zB X + 0)), (2, .ref (zB X + 493)), (3, .ref (zB X + 508)), (4, .int v4)]) hX dL_law__1229 hn (by decide) rfl ?_
      refine z_aload_n hX dL_law__1231 4 rfl ?_
      replace hf := zb_some hf
      obtain ⟨r_17, h17, hf⟩ := hf
      refine z_callV1 hX ok_X12_thrown q1484 q1485 q1486 (zrm_law hR (by decide) hKa hNa (by omega) (by omega)) (ct_X12_thrown  h17) (zrec_Model hX zq_493) dL_law__1232 rfl rfl ?_
      refine z_iload hX dL_law__1235 1 rfl ?_
      refine z_icmp_eq hX 1242 dL_law__1237 (by decide) (fun h18 => ?_) (fun h18 => ?_)
      · replace hf := zif_pos h18 hf
        refine z_iload hX dL_law__1242 1 rfl ?_
        refine z_if_ne hX 1266 dL_law__1244 (by decide) (fun h19 => ?_) (fun h19 => ?_)
        · replace hf := zif_neg h19 hf
          refine z_goto hX 3587 dL_law__1266 (by decide) ?_
          refine zW.sub [2, 3, 4, 5, 6] rfl ?_
          refine zW.widen (k' := K) (n' := N) (by omega) (by omega) ?_
          exact hkk g16 hf
        · replace hf := zif_pos h19 hf
          refine z_aload_n hX dL_law__1247 5 rfl ?_
          refine z_iconst hX dL_law__1248 ci_0 ?_
          replace hf := zchk_some hf
          obtain ⟨h20, hf⟩ := hf
          refine z_lald hX zq_508 h20 dL_law__1249 ?_
          refine z_iload hX dL_law__1250 0 rfl ?_
          refine z_if_eq hX 1259 dL_law__1252 (by decide) (fun h21 => ?_) (fun h21 => ?_)
          · replace hf := zif_pos h21 hf
            refine z_lconst hX dL_law__1259 (by decide : Int64.ofNat _ = (0 : Int32).toInt64) ?_
            refine z_lcmp hX dL_law__1260 ?_
            refine z_if_eq hX 1266 dL_law__1261 (by decide) (fun h22 => ?_) (fun h22 => ?_)
            · replace hf := zif_pos h22 hf
              refine z_goto hX 3587 dL_law__1266 (by decide) ?_
              refine zW.sub [2, 3, 4, 5, 6] rfl ?_
              refine zW.widen (k' := K) (n' := N) (by omega) (by omega) ?_
              exact hkk g16 hf
            · replace hf := zif_neg h22 hf
              exact zno hf
          · replace hf := zif_neg h21 hf
            refine z_lconst hX dL_law__1255 (by decide : Int64.ofNat _ = (1 : Int32).toInt64) ?_
            refine z_goto hX 1260 dL_law__1256 (by decide) ?_
            refine z_lcmp hX dL_law__1260 ?_
            refine z_if_eq hX 1266 dL_law__1261 (by decide) (fun h23 => ?_) (fun h23 => ?_)
            · replace hf := zif_pos h23 hf
              refine z_goto hX 3587 dL_law__1266 (by decide) ?_
              refine zW.sub [2, 3, 4, 5, 6] rfl ?_
              refine zW.widen (k' := K) (n' := N) (by omega) (by omega) ?_
              exact hkk g16 hf
            · replace hf := zif_neg h23 hf
              exact zno hf
      · replace hf := zif_neg h18 hf
        exact zno hf
  · replace hf := zif_neg h3 hf
    refine z_iconst hX dL_law__1194 ci_1 ?_
    refine z_goto hX 1199 dL_law__1195 (by decide) ?_
    refine z_aload_n hX dL_law__1199 3 rfl ?_
    replace hf := zb2_some hf
    obtain ⟨r_24, g24, h24, hf⟩ := hf
    refine z_callW1 hX okw_L_heat q1146 q1147 (zrm_law hR (by decide) hKa hNa (by omega) (by omega)) (ct_L_heat h24) dL_law__1200 rfl rfl ?_
    refine z_istore (lv' := [(5, .int r_24), (0, .ref b), (1, .ref (zB X + 0)), (2, .ref (zB X + 493)), (3, .ref (zB X + 508)), (4, .int v4)]) hX dL_law__1203 hn (by decide) rfl ?_
    refine z_aload_n hX dL_law__1205 3 rfl ?_
    refine z_aload_n hX dL_law__1206 1 rfl ?_
    refine z_iload hX dL_law__1207 5 rfl ?_
    refine z_iconst hX dL_law__1209 ci_1 ?_
    refine z_iadd hX dL_law__1210 ?_
    replace hf := zchk_some hf
    obtain ⟨h25, hf⟩ := hf
    refine z_sld hX hs h25 dL_law__1211 ?_
    refine z_aload_n hX dL_law__1212 1 rfl ?_
    refine z_iload hX dL_law__1213 5 rfl ?_
    refine z_iconst hX dL_law__1215 ci_2 ?_
    refine z_iadd hX dL_law__1216 ?_
    replace hf := zchk_some hf
    obtain ⟨h26, hf⟩ := hf
    refine z_sld hX hs h26 dL_law__1217 ?_
    refine z_if_eq hX 1225 dL_law__1218 (by decide) (fun h27 => ?_) (fun h27 => ?_)
    · replace hf := zif_pos h27 hf
      refine z_iconst hX dL_law__1225 ci_0 ?_
      replace hf := zb2_some hf
      obtain ⟨r_28, g28, h28, hf⟩ := hf
      refine z_callV1 hX ok_X12_heat q1892 q1893 q1894 (zrm_law hR (by decide) hKa hNa (by omega) (by omega)) (ct_X12_heat  h28) (zrec_Model hX zq_493) dL_law__1226 rfl rfl ?_
      refine z_istore (lv' := [(6, .int r_28), (5, .int r_24), (0, .ref b), (1, .ref (zB X + 0)), (2, .ref (zB X + 493)), (3, .ref (zB X + 508)), (4, .int v4)]) hX dL_law__1229 hn (by decide) rfl ?_
      refine z_aload_n hX dL_law__1231 4 rfl ?_
      replace hf := zb_some hf
      obtain ⟨r_29, h29, hf⟩ := hf
      refine z_callV1 hX ok_X12_thrown q1484 q1485 q1486 (zrm_law hR (by decide) hKa hNa (by omega) (by omega)) (ct_X12_thrown  h29) (zrec_Model hX zq_493) dL_law__1232 rfl rfl ?_
      refine z_iload hX dL_law__1235 1 rfl ?_
      refine z_icmp_eq hX 1242 dL_law__1237 (by decide) (fun h30 => ?_) (fun h30 => ?_)
      · replace hf := zif_pos h30 hf
        refine z_iload hX dL_law__1242 1 rfl ?_
        refine z_if_ne hX 1266 dL_law__1244 (by decide) (fun h31 => ?_) (fun h31 => ?_)
        · replace hf := zif_neg h31 hf
          refine z_goto hX 3587 dL_law__1266 (by decide) ?_
          refine zW.sub [2, 3, 4, 5, 6] rfl ?_
          refine zW.widen (k' := K) (n' := N) (by omega) (by omega) ?_
          exact hkk g28 hf
        · replace hf := zif_pos h31 hf
          refine z_aload_n hX dL_law__1247 5 rfl ?_
          refine z_iconst hX dL_law__1248 ci_0 ?_
          replace hf := zchk_some hf
          obtain ⟨h32, hf⟩ := hf
          refine z_lald hX zq_508 h32 dL_law__1249 ?_
          refine z_iload hX dL_law__1250 0 rfl ?_
          refine z_if_eq hX 1259 dL_law__1252 (by decide) (fun h33 => ?_) (fun h33 => ?_)
          · replace hf := zif_pos h33 hf
            refine z_lconst hX dL_law__1259 (by decide : Int64.ofNat _ = (0 : Int32).toInt64) ?_
            refine z_lcmp hX dL_law__1260 ?_
            refine z_if_eq hX 1266 dL_law__1261 (by decide) (fun h34 => ?_) (fun h34 => ?_)
            · replace hf := zif_pos h34 hf
              refine z_goto hX 3587 dL_law__1266 (by decide) ?_
              refine zW.sub [2, 3, 4, 5, 6] rfl ?_
              refine zW.widen (k' := K) (n' := N) (by omega) (by omega) ?_
              exact hkk g28 hf
            · replace hf := zif_neg h34 hf
              exact zno hf
          · replace hf := zif_neg h33 hf
            refine z_lconst hX dL_law__1255 (by decide : Int64.ofNat _ = (1 : Int32).toInt64) ?_
            refine z_goto hX 1260 dL_law__1256 (by decide) ?_
            refine z_lcmp hX dL_law__1260 ?_
            refine z_if_eq hX 1266 dL_law__1261 (by decide) (fun h35 => ?_) (fun h35 => ?_)
            · replace hf := zif_pos h35 hf
              refine z_goto hX 3587 dL_law__1266 (by decide) ?_
              refine zW.sub [2, 3, 4, 5, 6] rfl ?_
              refine zW.widen (k' := K) (n' := N) (by omega) (by omega) ?_
              exact hkk g28 hf
            · replace hf := zif_neg h35 hf
              exact zno hf
      · replace hf := zif_neg h30 hf
        exact zno hf
    · replace hf := zif_neg h27 hf
      refine z_iconst hX dL_law__1221 ci_1 ?_
      refine z_goto hX 1226 dL_law__1222 (by decide) ?_
      replace hf := zb2_some hf
      obtain ⟨r_36, g36, h36, hf⟩ := hf
      refine z_callV1 hX ok_X12_heat q1892 q1893 q1894 (zrm_law hR (by decide) hKa hNa (by omega) (by omega)) (ct_X12_heat  h36) (zrec_Model hX zq_493) dL_law__1226 rfl rfl ?_
      refine z_istore (lv' := [(6, .int r_36), (5, .int r_24), (0, .ref b), (1, .ref (zB X + 0)), (2, .ref (zB X + 493)), (3, .ref (zB X + 508)), (4, .int v4)]) hX dL_law__1229 hn (by decide) rfl ?_
      refine z_aload_n hX dL_law__1231 4 rfl ?_
      replace hf := zb_some hf
      obtain ⟨r_37, h37, hf⟩ := hf
      refine z_callV1 hX ok_X12_thrown q1484 q1485 q1486 (zrm_law hR (by decide) hKa hNa (by omega) (by omega)) (ct_X12_thrown  h37) (zrec_Model hX zq_493) dL_law__1232 rfl rfl ?_
      refine z_iload hX dL_law__1235 1 rfl ?_
      refine z_icmp_eq hX 1242 dL_law__1237 (by decide) (fun h38 => ?_) (fun h38 => ?_)
      · replace hf := zif_pos h38 hf
        refine z_iload hX dL_law__1242 1 rfl ?_
        refine z_if_ne hX 1266 dL_law__1244 (by decide) (fun h39 => ?_) (fun h39 => ?_)
        · replace hf := zif_neg h39 hf
          refine z_goto hX 3587 dL_law__1266 (by decide) ?_
          refine zW.sub [2, 3, 4, 5, 6] rfl ?_
          refine zW.widen (k' := K) (n' := N) (by omega) (by omega) ?_
          exact hkk g36 hf
        · replace hf := zif_pos h39 hf
          refine z_aload_n hX dL_law__1247 5 rfl ?_
          refine z_iconst hX dL_law__1248 ci_0 ?_
          replace hf := zchk_some hf
          obtain ⟨h40, hf⟩ := hf
          refine z_lald hX zq_508 h40 dL_law__1249 ?_
          refine z_iload hX dL_law__1250 0 rfl ?_
          refine z_if_eq hX 1259 dL_law__1252 (by decide) (fun h41 => ?_) (fun h41 => ?_)
          · replace hf := zif_pos h41 hf
            refine z_lconst hX dL_law__1259 (by decide : Int64.ofNat _ = (0 : Int32).toInt64) ?_
            refine z_lcmp hX dL_law__1260 ?_
            refine z_if_eq hX 1266 dL_law__1261 (by decide) (fun h42 => ?_) (fun h42 => ?_)
            · replace hf := zif_pos h42 hf
              refine z_goto hX 3587 dL_law__1266 (by decide) ?_
              refine zW.sub [2, 3, 4, 5, 6] rfl ?_
              refine zW.widen (k' := K) (n' := N) (by omega) (by omega) ?_
              exact hkk g36 hf
            · replace hf := zif_neg h42 hf
              exact zno hf
          · replace hf := zif_neg h41 hf
            refine z_lconst hX dL_law__1255 (by decide : Int64.ofNat _ = (1 : Int32).toInt64) ?_
            refine z_goto hX 1260 dL_law__1256 (by decide) ?_
            refine z_lcmp hX dL_law__1260 ?_
            refine z_if_eq hX 1266 dL_law__1261 (by decide) (fun h43 => ?_) (fun h43 => ?_)
            · replace hf := zif_pos h43 hf
              refine z_goto hX 3587 dL_law__1266 (by decide) ?_
              refine zW.sub [2, 3, 4, 5, 6] rfl ?_
              refine zW.widen (k' := K) (n' := N) (by omega) (by omega) ?_
              exact hkk g36 hf
            · replace hf := zif_neg h43 hf
              exact zno hf
      · replace hf := zif_neg h38 hf
        exact zno hf
def fLc_16 (L : Nat) (xs : Nat → Int32) (kk : zM → Option Unit) (v4 : Int32) (g : zM) : Option Unit := zchk (v4 + 1) L (zb2 (fL_burn (xs (v4 + 1).toNatClampNeg) g) (fun r_2 g2 => zchk (v4 + 1) L (zb2 (fX12_burn (xs (v4 + 1).toNatClampNeg) g2) (fun r_4 g4 => zb (fX12_thrown g4) (fun r_5 => if r_5 = r_2 then if r_2 = 0 then zchk 0 1 (if (lg_cmp ((g4 508 (0 : Int32).toNatClampNeg).toInt64) r_4.toInt64) = 0 then kk g4 else none) else kk g4 else none)))))
set_option maxHeartbeats 4000000 in
set_option maxRecDepth 100000 in
theorem fLc_16_ok {X : zX} (hX : zCX X cL_law_ RL) (hR : X.2.2.2.1 = room_1) (hn : X.2.2.2.2.2.2.2.2.2.1.maxLocals = 7) {b L : Nat} {xs : Nat → Int32} (hs : zSc X b L xs) {Q : State → Prop} {k n K N : Nat} (hKa : K ≤ 601024) (hNa : N ≤ 7293034) (hKb : k + 12 ≤ K) (hNb : n + 72 ≤ N) {kk : zM → Option Unit} {v4 : Int32} {g : zM} {r : Unit} (hkk : ∀ g, kk g = some r → zW X Q K N 3587 [(0, .ref b), (1, .ref (zB X + 0)), (2, .ref (zB X + 493)), (3, .ref (zB X + 508)), (4, .int v4)] [] g) (hf : fLc_16 L xs kk v4 g = some r) : zW X Q k n 1269 [(0, .ref b), (1, .ref (zB X + 0)), (2, .ref (zB X + 493)), (3, .ref (zB X + 508)), (4, .int v4)] [] g := by
  unfold fLc_16 at hf
  refine z_aload_n hX dL_law__1269 1 rfl ?_
  refine z_aload_n hX dL_law__1270 0 rfl ?_
  refine z_iload hX dL_law__1271 4 rfl ?_
  refine z_iconst hX dL_law__1273 ci_1 ?_
  refine z_iadd hX dL_law__1274 ?_
  replace hf := zchk_some hf
  obtain ⟨h1, hf⟩ := hf
  refine z_sld hX hs h1 dL_law__1275 ?_
  refine z_aload_n hX dL_law__1276 3 rfl ?_
  replace hf := zb2_some hf
  obtain ⟨r_2, g2, h2, hf⟩ := hf
  refine z_callW1 hX okw_L_burn q1153 q1154 (zrm_law hR (by decide) hKa hNa (by omega) (by omega)) (ct_L_burn h2) dL_law__1277 rfl rfl ?_
  refine z_istore (lv' := [(5, .int r_2), (0, .ref b), (1, .ref (zB X + 0)), (2, .ref (zB X + 493)), (3, .ref (zB X + 508)), (4, .int v4)]) hX dL_law__1280 hn (by decide) rfl ?_
  refine z_aload_n hX dL_law__1282 3 rfl ?_
  refine z_aload_n hX dL_law__1283 1 rfl ?_
  refine z_iload hX dL_law__1284 5 rfl ?_
  refine z_iconst hX dL_law__1286 ci_1 ?_
  refine z_iadd hX dL_law__1287 ?_
  replace hf := zchk_some hf
  obtain ⟨h3, hf⟩ := hf
  refine z_sld hX hs h3 dL_law__1288 ?_
  replace hf := zb2_some hf
  obtain ⟨r_4, g4, h4, hf⟩ := hf
  refine z_callV1 hX ok_X12_burn q1908 q1909 q1910 (zrm_law hR (by decide) hKa hNa (by omega) (by omega)) (ct_X12_burn  h4) (zrec_Model hX zq_493) dL_law__1289 rfl rfl ?_
  refine z_istore (lv' := [(6, .int r_4), (5, .int r_2), (0, .ref b), (1, .ref (zB X + 0)), (2, .ref (zB X + 493)), (3, .ref (zB X + 508)), (4, .int v4)]) hX dL_law__1292 hn (by decide) rfl ?_
  refine z_aload_n hX dL_law__1294 4 rfl ?_
  replace hf := zb_some hf
  obtain ⟨r_5, h5, hf⟩ := hf
  refine z_callV1 hX ok_X12_thrown q1484 q1485 q1486 (zrm_law hR (by decide) hKa hNa (by omega) (by omega)) (ct_X12_thrown  h5) (zrec_Model hX zq_493) dL_law__1295 rfl rfl ?_
  refine z_iload hX dL_law__1298 1 rfl ?_
  refine z_icmp_eq hX 1305 dL_law__1300 (by decide) (fun h6 => ?_) (fun h6 => ?_)
  · replace hf := zif_pos h6 hf
    refine z_iload hX dL_law__1305 1 rfl ?_
    refine z_if_ne hX 1322 dL_law__1307 (by decide) (fun h7 => ?_) (fun h7 => ?_)
    · replace hf := zif_neg h7 hf
      refine z_goto hX 3587 dL_law__1322 (by decide) ?_
      refine zW.sub [2, 3, 4, 5, 6] rfl ?_
      refine zW.widen (k' := K) (n' := N) (by omega) (by omega) ?_
      exact hkk g4 hf
    · replace hf := zif_pos h7 hf
      refine z_aload_n hX dL_law__1310 5 rfl ?_
      refine z_iconst hX dL_law__1311 ci_0 ?_
      replace hf := zchk_some hf
      obtain ⟨h8, hf⟩ := hf
      refine z_lald hX zq_508 h8 dL_law__1312 ?_
      refine z_iload hX dL_law__1313 0 rfl ?_
      refine z_i2l hX dL_law__1315 ?_
      refine z_lcmp hX dL_law__1316 ?_
      refine z_if_eq hX 1322 dL_law__1317 (by decide) (fun h9 => ?_) (fun h9 => ?_)
      · replace hf := zif_pos h9 hf
        refine z_goto hX 3587 dL_law__1322 (by decide) ?_
        refine zW.sub [2, 3, 4, 5, 6] rfl ?_
        refine zW.widen (k' := K) (n' := N) (by omega) (by omega) ?_
        exact hkk g4 hf
      · replace hf := zif_neg h9 hf
        exact zno hf
  · replace hf := zif_neg h6 hf
    exact zno hf
def fLc_17 (L : Nat) (xs : Nat → Int32) (kk : zM → Option Unit) (v4 : Int32) (g : zM) : Option Unit := zchk (v4 + 1) L (zb2 (fL_weeks (xs (v4 + 1).toNatClampNeg) g) (fun r_2 g2 => zchk (v4 + 1) L (zb2 (fX12_weeks (xs (v4 + 1).toNatClampNeg) g2) (fun r_4 g4 => zb (fX12_thrown g4) (fun r_5 => if r_5 = r_2 then if r_2 = 0 then zchk 0 1 (if (lg_cmp ((g4 508 (0 : Int32).toNatClampNeg).toInt64) r_4.toInt64) = 0 then kk g4 else none) else kk g4 else none)))))
set_option maxHeartbeats 4000000 in
set_option maxRecDepth 100000 in
theorem fLc_17_ok {X : zX} (hX : zCX X cL_law_ RL) (hR : X.2.2.2.1 = room_1) (hn : X.2.2.2.2.2.2.2.2.2.1.maxLocals = 7) {b L : Nat} {xs : Nat → Int32} (hs : zSc X b L xs) {Q : State → Prop} {k n K N : Nat} (hKa : K ≤ 601024) (hNa : N ≤ 7293034) (hKb : k + 12 ≤ K) (hNb : n + 72 ≤ N) {kk : zM → Option Unit} {v4 : Int32} {g : zM} {r : Unit} (hkk : ∀ g, kk g = some r → zW X Q K N 3587 [(0, .ref b), (1, .ref (zB X + 0)), (2, .ref (zB X + 493)), (3, .ref (zB X + 508)), (4, .int v4)] [] g) (hf : fLc_17 L xs kk v4 g = some r) : zW X Q k n 1325 [(0, .ref b), (1, .ref (zB X + 0)), (2, .ref (zB X + 493)), (3, .ref (zB X + 508)), (4, .int v4)] [] g := by
  unfold fLc_17 at hf
  refine z_aload_n hX dL_law__1325 1 rfl ?_
  refine z_aload_n hX dL_law__1326 0 rfl ?_
  refine z_iload hX dL_law__1327 4 rfl ?_
  refine z_iconst hX dL_law__1329 ci_1 ?_
  refine z_iadd hX dL_law__1330 ?_
  replace hf := zchk_some hf
  obtain ⟨h1, hf⟩ := hf
  refine z_sld hX hs h1 dL_law__1331 ?_
  refine z_aload_n hX dL_law__1332 3 rfl ?_
  replace hf := zb2_some hf
  obtain ⟨r_2, g2, h2, hf⟩ := hf
  refine z_callW1 hX okw_L_weeks q1164 q1165 (zrm_law hR (by decide) hKa hNa (by omega) (by omega)) (ct_L_weeks h2) dL_law__1333 rfl rfl ?_
  refine z_istore (lv' := [(5, .int r_2), (0, .ref b), (1, .ref (zB X + 0)), (2, .ref (zB X + 493)), (3, .ref (zB X + 508)), (4, .int v4)]) hX dL_law__1336 hn (by decide) rfl ?_
  refine z_aload_n hX dL_law__1338 3 rfl ?_
  refine z_aload_n hX dL_law__1339 1 rfl ?_
  refine z_iload hX dL_law__1340 5 rfl ?_
  refine z_iconst hX dL_law__1342 ci_1 ?_
  refine z_iadd hX dL_law__1343 ?_
  replace hf := zchk_some hf
  obtain ⟨h3, hf⟩ := hf
  refine z_sld hX hs h3 dL_law__1344 ?_
  replace hf := zb2_some hf
  obtain ⟨r_4, g4, h4, hf⟩ := hf
  refine z_callV1 hX ok_X12_weeks q1912 q1913 q1914 (zrm_law hR (by decide) hKa hNa (by omega) (by omega)) (ct_X12_weeks  h4) (zrec_Model hX zq_493) dL_law__1345 rfl rfl ?_
  refine z_istore (lv' := [(6, .int r_4), (5, .int r_2), (0, .ref b), (1, .ref (zB X + 0)), (2, .ref (zB X + 493)), (3, .ref (zB X + 508)), (4, .int v4)]) hX dL_law__1348 hn (by decide) rfl ?_
  refine z_aload_n hX dL_law__1350 4 rfl ?_
  replace hf := zb_some hf
  obtain ⟨r_5, h5, hf⟩ := hf
  refine z_callV1 hX ok_X12_thrown q1484 q1485 q1486 (zrm_law hR (by decide) hKa hNa (by omega) (by omega)) (ct_X12_thrown  h5) (zrec_Model hX zq_493) dL_law__1351 rfl rfl ?_
  refine z_iload hX dL_law__1354 1 rfl ?_
  refine z_icmp_eq hX 1361 dL_law__1356 (by decide) (fun h6 => ?_) (fun h6 => ?_)
  · replace hf := zif_pos h6 hf
    refine z_iload hX dL_law__1361 1 rfl ?_
    refine z_if_ne hX 1378 dL_law__1363 (by decide) (fun h7 => ?_) (fun h7 => ?_)
    · replace hf := zif_neg h7 hf
      refine z_goto hX 3587 dL_law__1378 (by decide) ?_
      refine zW.sub [2, 3, 4, 5, 6] rfl ?_
      refine zW.widen (k' := K) (n' := N) (by omega) (by omega) ?_
      exact hkk g4 hf
    · replace hf := zif_pos h7 hf
      refine z_aload_n hX dL_law__1366 5 rfl ?_
      refine z_iconst hX dL_law__1367 ci_0 ?_
      replace hf := zchk_some hf
      obtain ⟨h8, hf⟩ := hf
      refine z_lald hX zq_508 h8 dL_law__1368 ?_
      refine z_iload hX dL_law__1369 0 rfl ?_
      refine z_i2l hX dL_law__1371 ?_
      refine z_lcmp hX dL_law__1372 ?_
      refine z_if_eq hX 1378 dL_law__1373 (by decide) (fun h9 => ?_) (fun h9 => ?_)
      · replace hf := zif_pos h9 hf
        refine z_goto hX 3587 dL_law__1378 (by decide) ?_
        refine zW.sub [2, 3, 4, 5, 6] rfl ?_
        refine zW.widen (k' := K) (n' := N) (by omega) (by omega) ?_
        exact hkk g4 hf
      · replace hf := zif_neg h9 hf
        exact zno hf
  · replace hf := zif_neg h6 hf
    exact zno hf
