def fLc_36 (L : Nat) (xs : Nat → Int32) (kk : zM → Option Unit) (v4 : Int32) (g : zM) : Option Unit := zchk (v4 + 1) L (zchk (v4 + 2) L (zchk (v4 + 3) L (if (xs (v4 + 3).toNatClampNeg) = 0 then zb2 (fL_postage (xs (v4 + 1).toNatClampNeg) (xs (v4 + 2).toNatClampNeg) 0 g) (fun r_5 g5 => zchk (v4 + 1) L (zchk (v4 + 2) L (zchk (v4 + 3) L (if (xs (v4 + 3).toNatClampNeg) = 0 then zb2 (fX12_postage (xs (v4 + 1).toNatClampNeg) (xs (v4 + 2).toNatClampNeg) 0 g5) (fun r_10 g10 => zb (fX12_thrown g10) (fun r_11 => if r_11 = r_5 then if r_5 = 0 then zchk 0 1 (if (lg_cmp ((g10 508 (0 : Int32).toNatClampNeg).toInt64) r_10.toInt64) = 0 then kk g10 else none) else kk g10 else none)) else zb2 (fX12_postage (xs (v4 + 1).toNatClampNeg) (xs (v4 + 2).toNatClampNeg) 1 g5) (fun r_16 g16 => zb (fX12_thrown g16) (fun r_17 => if r_17 = r_5 then if r_5 = 0 then zchk 0 1 (if (lg_cmp ((g16 508 (0 : Int32).toNatClampNeg).toInt64) r_16.toInt64) = 0 then kk g16 else none) else kk g16 else none)))))) else zb2 (fL_postage (xs (v4 + 1).toNatClampNeg) (xs (v4 + 2).toNatClampNeg) 1 g) (fun r_22 g22 => zchk (v4 + 1) L (zchk (v4 + 2) L (zchk (v4 + 3) L (if (xs (v4 + 3).toNatClampNeg) = 0 then zb2 (fX12_postage (xs (v4 + 1).toNatClampNeg) (xs (v4 + 2).toNatClampNeg) 0 g22) (fun r_27 g27 => zb (fX12_thrown g27) (fun r_28 => if r_28 = r_22 then if r_22 = 0 then zchk 0 1 (if (lg_cmp ((g27 508 (0 : Int32).toNatClampNeg).toInt64) r_27.toInt64) = 0 then kk g27 else none) else kk g27 else none)) else zb2 (fX12_postage (xs (v4 + 1).toNatClampNeg) (xs (v4 + 2).toNatClampNeg) 1 g22) (fun r_33 g33 => zb (fX12_thrown g33) (fun r_34 => if r_34 = r_22 then if r_22 = 0 then zchk 0 1 (if (lg_cmp ((g33 508 (0 : Int32).toNatClampNeg).toInt64) r_33.toInt64) = 0 then kk g33 else none) else kk g33 else none)))))))))
set_option maxHeartbeats 4000000 in
set_option maxRecDepth 100000 in
theorem fLc_36_ok {X : zX} (hX : zCX X cL_law_ RL) (hR : X.2.2.2.1 = room_1) (hn : X.2.2.2.2.2.2.2.2.2.1.maxLocals = 7) {b L : Nat} {xs : Nat → Int32} (hs : zSc X b L xs) {Q : State → Prop} {k n K N : Nat} (hKa : K ≤ 601024) (hNa : N ≤ 7293034) (hKb : k + 12 ≤ K) (hNb : n + 72 ≤ N) {kk : zM → Option Unit} {v4 : Int32} {g : zM} {r : Unit} (hkk : ∀ g, kk g = some r → zW X Q K N 3587 [(0, .ref b), (1, .ref (zB X + 0)), (2, .ref (zB X + 493)), (3, .ref (zB X + 508)), (4, .int v4)] [] g) (hf : fLc_36 L xs kk v4 g = some r) : zW X Q k n 2635 [(0, .ref b), (1, .ref (zB X + 0)), (2, .ref (zB X + 493)), (3, .ref (zB X + 508)), (4, .int v4)] [] g := by
  unfold fLc_36 at hf
  refine z_aload_n hX dL_law__2635 1 rfl ?_
  refine z_aload_n hX dL_law__2636 0 rfl ?_
  refine z_iload hX dL_law__2637 4 rfl ?_
  refine z_iconst hX dL_law__2639 ci_1 ?_
  refine z_iadd hX dL_law__2640 ?_
  replace hf := zchk_some hf
  obtain ⟨h1, hf⟩ := hf
  refine z_sld hX hs h1 dL_law__2641 ?_
  refine z_aload_n hX dL_law__2642 0 rfl ?_
  refine z_iload hX dL_law__2643 4 rfl ?_
  refine z_iconst hX dL_law__2645 ci_2 ?_
  refine z_iadd hX dL_law__2646 ?_
  replace hf := zchk_some hf
  obtain ⟨h2, hf⟩ := hf
  refine z_sld hX hs h2 dL_law__2647 ?_
  refine z_aload_n hX dL_law__2648 0 rfl ?_
  refine z_iload hX dL_law__2649 4 rfl ?_
  refine z_iconst hX dL_law__2651 ci_3 ?_
  refine z_iadd hX dL_law__2652 ?_
  replace hf := zchk_some hf
  obtain ⟨h3, hf⟩ := hf
  refine z_sld hX hs h3 dL_law__2653 ?_
  refine z_if_eq hX 2661 dL_law__2654 (by decide) (fun h4 => ?_) (fun h4 => ?_)
  · replace hf := zif_pos h4 hf
    refine z_iconst hX dL_law__2661 ci_0 ?_
    refine z_aload_n hX dL_law__2662 3 rfl ?_
    replace hf := zb2_some hf
    obtain ⟨r_5, g5, h5, hf⟩ := hf
    refine z_callW1 hX okw_L_postage q1359 q1360 (zrm_law hR (by decide) hKa hNa (by omega) (by omega)) (ct_L_postage h5) dL_law__2663 rfl rfl ?_
    refine z_istore (lv' := [(5, .int r_5), (0, .ref b), (1, .ref (zB X + 0)), (2, .ref (zB X + 493)), (3, .ref (zB X + 508)), (4, .int v4)]) hX dL_law__2666 hn (by decide) rfl ?_
    refine z_aload_n hX dL_law__2668 3 rfl ?_
    refine z_aload_n hX dL_law__2669 1 rfl ?_
    refine z_iload hX dL_law__2670 5 rfl ?_
    refine z_iconst hX dL_law__2672 ci_1 ?_
    refine z_iadd hX dL_law__2673 ?_
    replace hf := zchk_some hf
    obtain ⟨h6, hf⟩ := hf
    refine z_sld hX hs h6 dL_law__2674 ?_
    refine z_aload_n hX dL_law__2675 1 rfl ?_
    refine z_iload hX dL_law__2676 5 rfl ?_
    refine z_iconst hX dL_law__2678 ci_2 ?_
    refine z_iadd hX dL_law__2679 ?_
    replace hf := zchk_some hf
    obtain ⟨h7, hf⟩ := hf
    refine z_sld hX hs h7 dL_law__2680 ?_
    refine z_aload_n hX dL_law__2681 1 rfl ?_
    refine z_iload hX dL_law__2682 5 rfl ?_
    refine z_iconst hX dL_law__2684 ci_3 ?_
    refine z_iadd hX dL_law__2685 ?_
    replace hf := zchk_some hf
    obtain ⟨h8, hf⟩ := hf
    refine z_sld hX hs h8 dL_law__2686 ?_
    refine z_if_eq hX 2694 dL_law__2687 (by decide) (fun h9 => ?_) (fun h9 => ?_)
    · replace hf := zif_pos h9 hf
      refine z_iconst hX dL_law__2694 ci_0 ?_
      replace hf := zb2_some hf
      obtain ⟨r_10, g10, h10, hf⟩ := hf
      refine z_callV1 hX ok_X12_postage q2095 q2096 q2097 (zrm_law hR (by decide) hKa hNa (by omega) (by omega)) (ct_X12_postage  h10) (zrec_Model hX zq_493) dL_law__2695 rfl rfl ?_
      refine z_istore (lv' := [(6, .int r_10), (5, .int r_5), (0, .ref b), (1, .ref (zB X + 0)), (2, .ref (zB X + 493)), (3, .ref (zB X + 508)), (4, .int v4)]) hX dL_law__2698 hn (by decide) rfl ?_
      refine z_aload_n hX dL_law__2700 4 rfl ?_
      replace hf := zb_some hf
      obtain ⟨r_11, h11, hf⟩ := hf
      refine z_callV1 hX ok_X12_thrown q1484 q1485 q1486 (zrm_law hR (by decide) hKa hNa (by omega) (by omega)) (ct_X12_thrown  h11) (zrec_Model hX zq_493) dL_law__2701 rfl rfl ?_
      refine z_iload hX dL_law__2704 1 rfl ?_
      refine z_icmp_eq hX 2711 dL_law__2706 (by decide) (fun h12 => ?_) (fun h12 => ?_)
      · replace hf := zif_pos h12 hf
        refine z_iload hX dL_law__2711 1 rfl ?_
        refine z_if_ne hX 2728 dL_law__2713 (by decide) (fun h13 => ?_) (fun h13 => ?_)
        · replace hf := zif_neg h13 hf
          refine z_goto hX 3587 dL_law__2728 (by decide) ?_
          refine zW.sub [2, 3, 4, 5, 6] rfl ?_
          refine zW.widen (k' := K) (n' := N) (by omega) (by omega) ?_
          exact hkk g10 hf
        · replace hf := zif_pos h13 hf
          refine z_aload_n hX dL_law__2716 5 rfl ?_
          refine z_iconst hX dL_law__2717 ci_0 ?_
          replace hf := zchk_some hf
          obtain ⟨h14, hf⟩ := hf
          refine z_lald hX zq_508 h14 dL_law__2718 ?_
          refine z_iload hX dL_law__2719 0 rfl ?_
          refine z_i2l hX dL_law__2721 ?_
          refine z_lcmp hX dL_law__2722 ?_
          refine z_if_eq hX 2728 dL_law__2723 (by decide) (fun h15 => ?_) (fun h15 => ?_)
          · replace hf := zif_pos h15 hf
            refine z_goto hX 3587 dL_law__2728 (by decide) ?_
            refine zW.sub [2, 3, 4, 5, 6] rfl ?_
            refine zW.widen (k' := K) (n' := N) (by omega) (by omega) ?_
            exact hkk g10 hf
          · replace hf := zif_neg h15 hf
            exact zno hf
      · replace hf := zif_neg h12 hf
        exact zno hf
    · replace hf := zif_neg h9 hf
      refine z_iconst hX dL_law__2690 ci_1 ?_
      refine z_goto hX 2695 dL_law__2691 (by decide) ?_
      replace hf := zb2_some hf
      obtain ⟨r_16, g16, h16, hf⟩ := hf
      refine z_callV1 hX ok_X12_postage q2095 q2096 q2097 (zrm_law hR (by decide) hKa hNa (by omega) (by omega)) (ct_X12_postage  h16) (zrec_Model hX zq_493) dL_law__2695 rfl rfl ?_
      refine z_istore (lv' := [(6, .int r_16), (5, .int r_5), (0, .ref b), (1, .ref (zB X + 0)), (2, .ref (zB X + 493)), (3, .ref (zB X + 508)), (4, .int v4)]) hX dL_law__2698 hn (by decide) rfl ?_
      refine z_aload_n hX dL_law__2700 4 rfl ?_
      replace hf := zb_some hf
      obtain ⟨r_17, h17, hf⟩ := hf
      refine z_callV1 hX ok_X12_thrown q1484 q1485 q1486 (zrm_law hR (by decide) hKa hNa (by omega) (by omega)) (ct_X12_thrown  h17) (zrec_Model hX zq_493) dL_law__2701 rfl rfl ?_
      refine z_iload hX dL_law__2704 1 rfl ?_
      refine z_icmp_eq hX 2711 dL_law__2706 (by decide) (fun h18 => ?_) (fun h18 => ?_)
      · replace hf := zif_pos h18 hf
        refine z_iload hX dL_law__2711 1 rfl ?_
        refine z_if_ne hX 2728 dL_law__2713 (by decide) (fun h19 => ?_) (fun h19 => ?_)
        · replace hf := zif_neg h19 hf
          refine z_goto hX 3587 dL_law__2728 (by decide) ?_
          refine zW.sub [2, 3, 4, 5, 6] rfl ?_
          refine zW.widen (k' := K) (n' := N) (by omega) (by omega) ?_
          exact hkk g16 hf
        · replace hf := zif_pos h19 hf
          refine z_aload_n hX dL_law__2716 5 rfl ?_
          refine z_iconst hX dL_law__2717 ci_0 ?_
          replace hf := zchk_some hf
          obtain ⟨h20, hf⟩ := hf
          refine z_lald hX zq_508 h20 dL_law__2718 ?_
          refine z_iload hX dL_law__2719 0 rfl ?_
          refine z_i2l hX dL_law__2721 ?_
          refine z_lcmp hX dL_law__2722 ?_
          refine z_if_eq hX 2728 dL_law__2723 (by decide) (fun h21 => ?_) (fun h21 => ?_)
          · replace hf := zif_pos h21 hf
            refine z_goto hX 3587 dL_law__2728 (by decide) ?_
            refine zW.sub [2, 3, 4, 5, 6] rfl ?_
            refine zW.widen (k' := K) (n' := N) (by omega) (by omega) ?_
            exact hkk g16 hf
          · replace hf := zif_neg h21 hf
            exact zno hf
      · replace hf := zif_neg h18 hf
        exact zno hf
  · replace hf := zif_neg h4 hf
    refine z_iconst hX dL_law__2657 ci_1 ?_
    refine z_goto hX 2662 dL_law__2658 (by decide) ?_
    refine z_aload_n hX dL_law__2662 3 rfl ?_
    replace hf := zb2_some hf
    obtain ⟨r_22, g22, h22, hf⟩ := hf
    refine z_callW1 hX okw_L_postage q1359 q1360 (zrm_law hR (by decide) hKa hNa (by omega) (by omega)) (ct_L_postage h22) dL_law__2663 rfl rfl ?_
    refine z_istore (lv' := [(5, .int r_22), (0, .ref b), (1, .ref (zB X + 0)), (2, .ref (zB X + 493)), (3, .ref (zB X + 508)), (4, .int v4)]) hX dL_law__2666 hn (by decide) rfl ?_
    refine z_aload_n hX dL_law__2668 3 rfl ?_
    refine z_aload_n hX dL_law__2669 1 rfl ?_
    refine z_iload hX dL_law__2670 5 rfl ?_
    refine z_iconst hX dL_law__2672 ci_1 ?_
    refine z_iadd hX dL_law__2673 ?_
    replace hf := zchk_some hf
    obtain ⟨h23, hf⟩ := hf
    refine z_sld hX hs h23 dL_law__2674 ?_
    refine z_aload_n hX dL_law__2675 1 rfl ?_
    refine z_iload hX dL_law__2676 5 rfl ?_
    refine z_iconst hX dL_law__2678 ci_2 ?_
    refine z_iadd hX dL_law__2679 ?_
    replace hf := zchk_some hf
    obtain ⟨h24, hf⟩ := hf
    refine z_sld hX hs h24 dL_law__2680 ?_
    refine z_aload_n hX dL_law__2681 1 rfl ?_
    refine z_iload hX dL_law__2682 5 rfl ?_
    refine z_iconst hX dL_law__2684 ci_3 ?_
    refine z_iadd hX dL_law__2685 ?_
    replace hf := zchk_some hf
    obtain ⟨h25, hf⟩ := hf
    refine z_sld hX hs h25 dL_law__2686 ?_
    refine z_if_eq hX 2694 dL_law__2687 (by decide) (fun h26 => ?_) (fun h26 => ?_)
    · replace hf := zif_pos h26 hf
      refine z_iconst hX dL_law__2694 ci_0 ?_
      replace hf := zb2_some hf
      obtain ⟨r_27, g27, h27, hf⟩ := hf
      refine z_callV1 hX ok_X12_postage q2095 q2096 q2097 (zrm_law hR (by decide) hKa hNa (by omega) (by omega)) (ct_X12_postage  h27) (zrec_Model hX zq_493) dL_law__2695 rfl rfl ?_
      refine z_istore (lv' := [(6, .int r_27), (5, .int r_22), (0, .ref b), (1, .ref (zB X + 0)), (2, .ref (zB X + 493)), (3, .ref (zB X + 508)), (4, .int v4)]) hX dL_law__2698 hn (by decide) rfl ?_
      refine z_aload_n hX dL_law__2700 4 rfl ?_
      replace hf := zb_some hf
      obtain ⟨r_28, h28, hf⟩ := hf
      refine z_callV1 hX ok_X12_thrown q1484 q1485 q1486 (zrm_law hR (by decide) hKa hNa (by omega) (by omega)) (ct_X12_thrown  h28) (zrec_Model hX zq_493) dL_law__2701 rfl rfl ?_
      refine z_iload hX dL_law__2704 1 rfl ?_
      refine z_icmp_eq hX 2711 dL_law__2706 (by decide) (fun h29 => ?_) (fun h29 => ?_)
      · replace hf := zif_pos h29 hf
        refine z_iload hX dL_law__2711 1 rfl ?_
        refine z_if_ne hX 2728 dL_law__2713 (by decide) (fun h30 => ?_) (fun h30 => ?_)
        · replace hf := zif_neg h30 hf
          refine z_goto hX 3587 dL_law__2728 (by decide) ?_
          refine zW.sub [2, 3, 4, 5, 6] rfl ?_
          refine zW.widen (k' := K) (n' := N) (by omega) (by omega) ?_
          exact hkk g27 hf
        · replace hf := zif_pos h30 hf
          refine z_aload_n hX dL_law__2716 5 rfl ?_
          refine z_iconst hX dL_law__2717 ci_0 ?_
          replace hf := zchk_some hf
          obtain ⟨h31, hf⟩ := hf
          refine z_lald hX zq_508 h31 dL_law__2718 ?_
          refine z_iload hX dL_law__2719 0 rfl ?_
          refine z_i2l hX dL_law__2721 ?_
          refine z_lcmp hX dL_law__2722 ?_
          refine z_if_eq hX 2728 dL_law__2723 (by decide) (fun h32 => ?_) (fun h32 => ?_)
          · replace hf := zif_pos h32 hf
            refine z_goto hX 3587 dL_law__2728 (by decide) ?_
            refine zW.sub [2, 3, 4, 5, 6] rfl ?_
            refine zW.widen (k' := K) (n' := N) (by omega) (by omega) ?_
            exact hkk g27 hf
          · replace hf := zif_neg h32 hf
            exact zno hf
      · replace hf := zif_neg h29 hf
        exact zno hf
    · replace hf := zif_neg h26 hf
      refine z_iconst hX dL_law__2690 ci_1 ?_
      refine z_goto hX 2695 dL_law__2691 (by decide) ?_
      replace hf := zb2_some hf
      obtain ⟨r_33, g33, h33, hf⟩ := hf
      refine z_callV1 hX ok_X12_postage q2095 q2096 q2097 (zrm_law hR (by decide) hKa hNa (by omega) (by omega)) (ct_X12_postage  h33) (zrec_Model hX zq_493) dL_law__2695 rfl rfl ?_
      refine z_istore (lv' := [(6, .int r_33), (5, .int r_22), (0, .ref b), (1, .ref (zB X + 0)), (2, .ref (zB X + 493)), (3, .ref (zB X + 508)), (4, .int v4)]) hX dL_law__2698 hn (by decide) rfl ?_
      refine z_aload_n hX dL_law__2700 4 rfl ?_
      replace hf := zb_some hf
      obtain ⟨r_34, h34, hf⟩ := hf
      refine z_callV1 hX ok_X12_thrown q1484 q1485 q1486 (zrm_law hR (by decide) hKa hNa (by omega) (by omega)) (ct_X12_thrown  h34) (zrec_Model hX zq_493) dL_law__2701 rfl rfl ?_
      refine z_iload hX dL_law__2704 1 rfl ?_
      refine z_icmp_eq hX 2711 dL_law__2706 (by decide) (fun h35 => ?_) (fun h35 => ?_)
      · replace hf := zif_pos h35 hf
        refine z_iload hX dL_law__2711 1 rfl ?_
        refine z_if_ne hX 2728 dL_law__2713 (by decide) (fun h36 => ?_) (fun h36 => ?_)
        · replace hf := zif_neg h36 hf
          refine z_goto hX 3587 dL_law__2728 (by decide) ?_
          refine zW.sub [2, 3, 4, 5, 6] rfl ?_
          refine zW.widen (k' := K) (n' := N) (by omega) (by omega) ?_
          exact hkk g33 hf
        · replace hf := zif_pos h36 hf
          refine z_aload_n hX dL_law__2716 5 rfl ?_
          refine z_iconst hX dL_law__2717 ci_0 ?_
          replace hf := zchk_some hf
          obtain ⟨h37, hf⟩ := hf
          refine z_lald hX zq_508 h37 dL_law__2718 ?_
          refine z_iload hX dL_law__2719 0 rfl ?_
          refine z_i2l hX dL_law__2721 ?_
          refine z_lcmp hX dL_law__2722 ?_
          refine z_if_eq hX 2728 dL_law__2723 (by decide) (fun h38 => ?_) (fun h38 => ?_)
          · replace hf := zif_pos h38 hf
            refine z_goto hX 3587 dL_law__2728 (by decide) ?_
            refine zW.sub [2, 3, 4, 5, 6] rfl ?_
            refine zW.widen (k' := K) (n' := N) (by omega) (by omega) ?_
            exact hkk g33 hf
          · replace hf := zif_neg h38 hf
            exact zno hf
      · replace hf := zif_neg h35 hf
        exact zno hf
def fLc_37 (L : Nat) (xs : Nat → Int32) (kk : zM → Option Unit) (v4 : Int32) (g : zM) : Option Unit := zchk (v4 + 1) L (zchk (v4 + 2) L (zb2 (fL_forks (xs (v4 + 1).toNatClampNeg) (xs (v4 + 2).toNatClampNeg) g) (fun r_3 g3 => zchk (v4 + 1) L (zchk (v4 + 2) L (zb2 (fX12_forks (xs (v4 + 1).toNatClampNeg) (xs (v4 + 2).toNatClampNeg) g3) (fun r_6 g6 => zb (fX12_thrown g6) (fun r_7 => if r_7 = r_3 then if r_3 = 0 then zchk 0 1 (if (lg_cmp ((g6 508 (0 : Int32).toNatClampNeg).toInt64) r_6.toInt64) = 0 then kk g6 else none) else kk g6 else none)))))))
set_option maxHeartbeats 4000000 in
set_option maxRecDepth 100000 in
theorem fLc_37_ok {X : zX} (hX : zCX X cL_law_ RL) (hR : X.2.2.2.1 = room_1) (hn : X.2.2.2.2.2.2.2.2.2.1.maxLocals = 7) {b L : Nat} {xs : Nat → Int32} (hs : zSc X b L xs) {Q : State → Prop} {k n K N : Nat} (hKa : K ≤ 601024) (hNa : N ≤ 7293034) (hKb : k + 12 ≤ K) (hNb : n + 72 ≤ N) {kk : zM → Option Unit} {v4 : Int32} {g : zM} {r : Unit} (hkk : ∀ g, kk g = some r → zW X Q K N 3587 [(0, .ref b), (1, .ref (zB X + 0)), (2, .ref (zB X + 493)), (3, .ref (zB X + 508)), (4, .int v4)] [] g) (hf : fLc_37 L xs kk v4 g = some r) : zW X Q k n 2731 [(0, .ref b), (1, .ref (zB X + 0)), (2, .ref (zB X + 493)), (3, .ref (zB X + 508)), (4, .int v4)] [] g := by
  unfold fLc_37 at hf
  refine z_aload_n hX dL_law__2731 1 rfl ?_
  refine z_aload_n hX dL_law__2732 0 rfl ?_
  refine z_iload hX dL_law__2733 4 rfl ?_
  refine z_iconst hX dL_law__2735 ci_1 ?_
  refine z_iadd hX dL_law__2736 ?_
  replace hf := zchk_some hf
  obtain ⟨h1, hf⟩ := hf
  refine z_sld hX hs h1 dL_law__2737 ?_
  refine z_aload_n hX dL_law__2738 0 rfl ?_
  refine z_iload hX dL_law__2739 4 rfl ?_
  refine z_iconst hX dL_law__2741 ci_2 ?_
  refine z_iadd hX dL_law__2742 ?_
  replace hf := zchk_some hf
  obtain ⟨h2, hf⟩ := hf
  refine z_sld hX hs h2 dL_law__2743 ?_
  refine z_aload_n hX dL_law__2744 3 rfl ?_
  replace hf := zb2_some hf
  obtain ⟨r_3, g3, h3, hf⟩ := hf
  refine z_callW1 hX okw_L_forks q1378 q1379 (zrm_law hR (by decide) hKa hNa (by omega) (by omega)) (ct_L_forks h3) dL_law__2745 rfl rfl ?_
  refine z_istore (lv' := [(5, .int r_3), (0, .ref b), (1, .ref (zB X + 0)), (2, .ref (zB X + 493)), (3, .ref (zB X + 508)), (4, .int v4)]) hX dL_law__2748 hn (by decide) rfl ?_
  refine z_aload_n hX dL_law__2750 3 rfl ?_
  refine z_aload_n hX dL_law__2751 1 rfl ?_
  refine z_iload hX dL_law__2752 5 rfl ?_
  refine z_iconst hX dL_law__2754 ci_1 ?_
  refine z_iadd hX dL_law__2755 ?_
  replace hf := zchk_some hf
  obtain ⟨h4, hf⟩ := hf
  refine z_sld hX hs h4 dL_law__2756 ?_
  refine z_aload_n hX dL_law__2757 1 rfl ?_
  refine z_iload hX dL_law__2758 5 rfl ?_
  refine z_iconst hX dL_law__2760 ci_2 ?_
  refine z_iadd hX dL_law__2761 ?_
  replace hf := zchk_some hf
  obtain ⟨h5, hf⟩ := hf
  refine z_sld hX hs h5 dL_law__2762 ?_
  replace hf := zb2_some hf
  obtain ⟨r_6, g6, h6, hf⟩ := hf
  refine z_callV1 hX ok_X12_forks q2103 q2104 q2105 (zrm_law hR (by decide) hKa hNa (by omega) (by omega)) (ct_X12_forks  h6) (zrec_Model hX zq_493) dL_law__2763 rfl rfl ?_
  refine z_istore (lv' := [(6, .int r_6), (5, .int r_3), (0, .ref b), (1, .ref (zB X + 0)), (2, .ref (zB X + 493)), (3, .ref (zB X + 508)), (4, .int v4)]) hX dL_law__2766 hn (by decide) rfl ?_
  refine z_aload_n hX dL_law__2768 4 rfl ?_
  replace hf := zb_some hf
  obtain ⟨r_7, h7, hf⟩ := hf
  refine z_callV1 hX ok_X12_thrown q1484 q1485 q1486 (zrm_law hR (by decide) hKa hNa (by omega) (by omega)) (ct_X12_thrown  h7) (zrec_Model hX zq_493) dL_law__2769 rfl rfl ?_
  refine z_iload hX dL_law__2772 1 rfl ?_
  refine z_icmp_eq hX 2779 dL_law__2774 (by decide) (fun h8 => ?_) (fun h8 => ?_)
  · replace hf := zif_pos h8 hf
    refine z_iload hX dL_law__2779 1 rfl ?_
    refine z_if_ne hX 2796 dL_law__2781 (by decide) (fun h9 => ?_) (fun h9 => ?_)
    · replace hf := zif_neg h9 hf
      refine z_goto hX 3587 dL_law__2796 (by decide) ?_
      refine zW.sub [2, 3, 4, 5, 6] rfl ?_
      refine zW.widen (k' := K) (n' := N) (by omega) (by omega) ?_
      exact hkk g6 hf
    · replace hf := zif_pos h9 hf
      refine z_aload_n hX dL_law__2784 5 rfl ?_
      refine z_iconst hX dL_law__2785 ci_0 ?_
      replace hf := zchk_some hf
      obtain ⟨h10, hf⟩ := hf
      refine z_lald hX zq_508 h10 dL_law__2786 ?_
      refine z_iload hX dL_law__2787 0 rfl ?_
      refine z_i2l hX dL_law__2789 ?_
      refine z_lcmp hX dL_law__2790 ?_
      refine z_if_eq hX 2796 dL_law__2791 (by decide) (fun h11 => ?_) (fun h11 => ?_)
      · replace hf := zif_pos h11 hf
        refine z_goto hX 3587 dL_law__2796 (by decide) ?_
        refine zW.sub [2, 3, 4, 5, 6] rfl ?_
        refine zW.widen (k' := K) (n' := N) (by omega) (by omega) ?_
        exact hkk g6 hf
      · replace hf := zif_neg h11 hf
        exact zno hf
  · replace hf := zif_neg h8 hf
    exact zno hf
def fLc_38 (L : Nat) (xs : Nat → Int32) (kk : zM → Option Unit) (v4 : Int32) (g : zM) : Option Unit := zchk (v4 + 1) L (zchk (v4 + 2) L (if (xs (v4 + 2).toNatClampNeg) = 0 then zb2 (fL_ripe (xs (v4 + 1).toNatClampNeg) 0 g) (fun r_4 g4 => zchk (v4 + 1) L (zchk (v4 + 2) L (if (xs (v4 + 2).toNatClampNeg) = 0 then zb2 (fX12_ripe (xs (v4 + 1).toNatClampNeg) 0 g4) (fun r_8 g8 => zb (fX12_thrown g8) (fun r_9 => if r_9 = r_4 then if r_4 = 0 then zchk 0 1 (if (lg_cmp ((g8 508 (0 : Int32).toNatClampNeg).toInt64) r_8.toInt64) = 0 then kk g8 else none) else kk g8 else none)) else zb2 (fX12_ripe (xs (v4 + 1).toNatClampNeg) 1 g4) (fun r_14 g14 => zb (fX12_thrown g14) (fun r_15 => if r_15 = r_4 then if r_4 = 0 then zchk 0 1 (if (lg_cmp ((g14 508 (0 : Int32).toNatClampNeg).toInt64) r_14.toInt64) = 0 then kk g14 else none) else kk g14 else none))))) else zb2 (fL_ripe (xs (v4 + 1).toNatClampNeg) 1 g) (fun r_20 g20 => zchk (v4 + 1) L (zchk (v4 + 2) L (if (xs (v4 + 2).toNatClampNeg) = 0 then zb2 (fX12_ripe (xs (v4 + 1).toNatClampNeg) 0 g20) (fun r_24 g24 => zb (fX12_thrown g24) (fun r_25 => if r_25 = r_20 then if r_20 = 0 then zchk 0 1 (if (lg_cmp ((g24 508 (0 : Int32).toNatClampNeg).toInt64) r_24.toInt64) = 0 then kk g24 else none) else kk g24 else none)) else zb2 (fX12_ripe (xs (v4 + 1).toNatClampNeg) 1 g20) (fun r_30 g30 => zb (fX12_thrown g30) (fun r_31 => if r_31 = r_20 then if r_20 = 0 then zchk 0 1 (if (lg_cmp ((g30 508 (0 : Int32).toNatClampNeg).toInt64) r_30.toInt64) = 0 then kk g30 else none) else kk g30 else none)))))))
set_option maxHeartbeats 4000000 in
set_option maxRecDepth 100000 in
theorem fLc_38_ok {X : zX} (hX : zCX X cL_law_ RL) (hR : X.2.2.2.1 = room_1) (hn : X.2.2.2.2.2.2.2.2.2.1.maxLocals = 7) {b L : Nat} {xs : Nat → Int32} (hs : zSc X b L xs) {Q : State → Prop} {k n K N : Nat} (hKa : K ≤ 601024) (hNa : N ≤ 7293034) (hKb : k + 12 ≤ K) (hNb : n + 72 ≤ N) {kk : zM → Option Unit} {v4 : Int32} {g : zM} {r : Unit} (hkk : ∀ g, kk g = some r → zW X Q K N 3587 [(0, .ref b), (1, .ref (zB X + 0)), (2, .ref (zB X + 493)), (3, .ref (zB X + 508)), (4, .int v4)] [] g) (hf : fLc_38 L xs kk v4 g = some r) : zW X Q k n 2799 [(0, .ref b), (1, .ref (zB X + 0)), (2, .ref (zB X + 493)), (3, .ref (zB X + 508)), (4, .int v4)] [] g := by
  unfold fLc_38 at hf
  refine z_aload_n hX dL_law__2799 1 rfl ?_
  refine z_aload_n hX dL_law__2800 0 rfl ?_
  refine z_iload hX dL_law__2801 4 rfl ?_
  refine z_iconst hX dL_law__2803 ci_1 ?_
  refine z_iadd hX dL_law__2804 ?_
  replace hf := zchk_some hf
  obtain ⟨h1, hf⟩ := hf
  refine z_sld hX hs h1 dL_law__2805 ?_
  refine z_aload_n hX dL_law__2806 0 rfl ?_
  refine z_iload hX dL_law__2807 4 rfl ?_
  refine z_iconst hX dL_law__2809 ci_2 ?_
  refine z_iadd hX dL_law__2810 ?_
  replace hf := zchk_some hf
  obtain ⟨h2, hf⟩ := hf
  refine z_sld hX hs h2 dL_law__2811 ?_
  refine z_if_eq hX 2819 dL_law__2812 (by decide) (fun h3 => ?_) (fun h3 => ?_)
  · replace hf := zif_pos h3 hf
    refine z_iconst hX dL_law__2819 ci_0 ?_
    refine z_aload_n hX dL_law__2820 3 rfl ?_
    replace hf := zb2_some hf
    obtain ⟨r_4, g4, h4, hf⟩ := hf
    refine z_callW1 hX okw_L_ripe q1385 q1386 (zrm_law hR (by decide) hKa hNa (by omega) (by omega)) (ct_L_ripe h4) dL_law__2821 rfl rfl ?_
    refine z_istore (lv' := [(5, .int r_4), (0, .ref b), (1, .ref (zB X + 0)), (2, .ref (zB X + 493)), (3, .ref (zB X + 508)), (4, .int v4)]) hX dL_law__2824 hn (by decide) rfl ?_
    refine z_aload_n hX dL_law__2826 3 rfl ?_
    refine z_aload_n hX dL_law__2827 1 rfl ?_
    refine z_iload hX dL_law__2828 5 rfl ?_
    refine z_iconst hX dL_law__2830 ci_1 ?_
    refine z_iadd hX dL_law__2831 ?_
    replace hf := zchk_some hf
    obtain ⟨h5, hf⟩ := hf
    refine z_sld hX hs h5 dL_law__2832 ?_
    refine z_aload_n hX dL_law__2833 1 rfl ?_
    refine z_iload hX dL_law__2834 5 rfl ?_
    refine z_iconst hX dL_law__2836 ci_2 ?_
    refine z_iadd hX dL_law__2837 ?_
    replace hf := zchk_some hf
    obtain ⟨h6, hf⟩ := hf
    refine z_sld hX hs h6 dL_law__2838 ?_
    refine z_if_eq hX 2846 dL_law__2839 (by decide) (fun h7 => ?_) (fun h7 => ?_)
    · replace hf := zif_pos h7 hf
      refine z_iconst hX dL_law__2846 ci_0 ?_
      replace hf := zb2_some hf
      obtain ⟨r_8, g8, h8, hf⟩ := hf
      refine z_callV1 hX ok_X12_ripe q2083 q2084 q2085 (zrm_law hR (by decide) hKa hNa (by omega) (by omega)) (ct_X12_ripe  h8) (zrec_Model hX zq_493) dL_law__2847 rfl rfl ?_
      refine z_istore (lv' := [(6, .int r_8), (5, .int r_4), (0, .ref b), (1, .ref (zB X + 0)), (2, .ref (zB X + 493)), (3, .ref (zB X + 508)), (4, .int v4)]) hX dL_law__2850 hn (by decide) rfl ?_
      refine z_aload_n hX dL_law__2852 4 rfl ?_
      replace hf := zb_some hf
      obtain ⟨r_9, h9, hf⟩ := hf
      refine z_callV1 hX ok_X12_thrown q1484 q1485 q1486 (zrm_law hR (by decide) hKa hNa (by omega) (by omega)) (ct_X12_thrown  h9) (zrec_Model hX zq_493) dL_law__2853 rfl rfl ?_
      refine z_iload hX dL_law__2856 1 rfl ?_
      refine z_icmp_eq hX 2863 dL_law__2858 (by decide) (fun h10 => ?_) (fun h10 => ?_)
      · replace hf := zif_pos h10 hf
        refine z_iload hX dL_law__2863 1 rfl ?_
        refine z_if_ne hX 2880 dL_law__2865 (by decide) (fun h11 => ?_) (fun h11 => ?_)
        · replace hf := zif_neg h11 hf
          refine z_goto hX 3587 dL_law__2880 (by decide) ?_
          refine zW.sub [2, 3, 4, 5, 6] rfl ?_
          refine zW.widen (k' := K) (n' := N) (by omega) (by omega) ?_
          exact hkk g8 hf
        · replace hf := zif_pos h11 hf
          refine z_aload_n hX dL_law__2868 5 rfl ?_
          refine z_iconst hX dL_law__2869 ci_0 ?_
          replace hf := zchk_some hf
          obtain ⟨h12, hf⟩ := hf
          refine z_lald hX zq_508 h12 dL_law__2870 ?_
          refine z_iload hX dL_law__2871 0 rfl ?_
          refine z_i2l hX dL_law__2873 ?_
          refine z_lcmp hX dL_law__2874 ?_
          refine z_if_eq hX 2880 dL_law__2875 (by decide) (fun h13 => ?_) (fun h13 => ?_)
          · replace hf := zif_pos h13 hf
            refine z_goto hX 3587 dL_law__2880 (by decide) ?_
            refine zW.sub [2, 3, 4, 5, 6] rfl ?_
            refine zW.widen (k' := K) (n' := N) (by omega) (by omega) ?_
            exact hkk g8 hf
          · replace hf := zif_neg h13 hf
            exact zno hf
      · replace hf := zif_neg h10 hf
        exact zno hf
    · replace hf := zif_neg h7 hf
      refine z_iconst hX dL_law__2842 ci_1 ?_
      refine z_goto hX 2847 dL_law__2843 (by decide) ?_
      replace hf := zb2_some hf
      obtain ⟨r_14, g14, h14, hf⟩ := hf
      refine z_callV1 hX ok_X12_ripe q2083 q2084 q2085 (zrm_law hR (by decide) hKa hNa (by omega) (by omega)) (ct_X12_ripe  h14) (zrec_Model hX zq_493) dL_law__2847 rfl rfl ?_
      refine z_istore (lv' := [(6, .int r_14), (5, .int r_4), (0, .ref b), (1, .ref (zB X + 0)), (2, .ref (zB X + 493)), (3, .ref (zB X + 508)), (4, .int v4)]) hX dL_law__2850 hn (by decide) rfl ?_
      refine z_aload_n hX dL_law__2852 4 rfl ?_
      replace hf := zb_some hf
      obtain ⟨r_15, h15, hf⟩ := hf
      refine z_callV1 hX ok_X12_thrown q1484 q1485 q1486 (zrm_law hR (by decide) hKa hNa (by omega) (by omega)) (ct_X12_thrown  h15) (zrec_Model hX zq_493) dL_law__2853 rfl rfl ?_
      refine z_iload hX dL_law__2856 1 rfl ?_
      refine z_icmp_eq hX 2863 dL_law__2858 (by decide) (fun h16 => ?_) (fun h16 => ?_)
      · replace hf := zif_pos h16 hf
        refine z_iload hX dL_law__2863 1 rfl ?_
        refine z_if_ne hX 2880 dL_law__2865 (by decide) (fun h17 => ?_) (fun h17 => ?_)
        · replace hf := zif_neg h17 hf
          refine z_goto hX 3587 dL_law__2880 (by decide) ?_
          refine zW.sub [2, 3, 4, 5, 6] rfl ?_
          refine zW.widen (k' := K) (n' := N) (by omega) (by omega) ?_
          exact hkk g14 hf
        · replace hf := zif_pos h17 hf
          refine z_aload_n hX dL_law__2868 5 rfl ?_
          refine z_iconst hX dL_law__2869 ci_0 ?_
          replace hf := zchk_some hf
          obtain ⟨h18, hf⟩ := hf
          refine z_lald hX zq_508 h18 dL_law__2870 ?_
          refine z_iload hX dL_law__2871 0 rfl ?_
          refine z_i2l hX dL_law__2873 ?_
          refine z_lcmp hX dL_law__2874 ?_
          refine z_if_eq hX 2880 dL_law__2875 (by decide) (fun h19 => ?_) (fun h19 => ?_)
          · replace hf := zif_pos h19 hf
            refine z_goto hX 3587 dL_law__2880 (by decide) ?_
            refine zW.sub [2, 3, 4, 5, 6] rfl ?_
            refine zW.widen (k' := K) (n' := N) (by omega) (by omega) ?_
            exact hkk g14 hf
          · replace hf := zif_neg h19 hf
            exact zno hf
      · replace hf := zif_neg h16 hf
        exact zno hf
  · replace hf := zif_neg h3 hf
    refine z_iconst hX dL_law__2815 ci_1 ?_
    refine z_goto hX 2820 dL_law__2816 (by decide) ?_
    refine z_aload_n hX dL_law__2820 3 rfl ?_
    replace hf := zb2_some hf
    obtain ⟨r_20, g20, h20, hf⟩ := hf
    refine z_callW1 hX okw_L_ripe q1385 q1386 (zrm_law hR (by decide) hKa hNa (by omega) (by omega)) (ct_L_ripe h20) dL_law__2821 rfl rfl ?_
    refine z_istore (lv' := [(5, .int r_20), (0, .ref b), (1, .ref (zB X + 0)), (2, .ref (zB X + 493)), (3, .ref (zB X + 508)), (4, .int v4)]) hX dL_law__2824 hn (by decide) rfl ?_
    refine z_aload_n hX dL_law__2826 3 rfl ?_
    refine z_aload_n hX dL_law__2827 1 rfl ?_
    refine z_iload hX dL_law__2828 5 rfl ?_
    refine z_iconst hX dL_law__2830 ci_1 ?_
    refine z_iadd hX dL_law__2831 ?_
    replace hf := zchk_some hf
    obtain ⟨h21, hf⟩ := hf
    refine z_sld hX hs h21 dL_law__2832 ?_
    refine z_aload_n hX dL_law__2833 1 rfl ?_
    refine z_iload hX dL_law__2834 5 rfl ?_
    refine z_iconst hX dL_law__2836 ci_2 ?_
    refine z_iadd hX dL_law__2837 ?_
    replace hf := zchk_some hf
    obtain ⟨h22, hf⟩ := hf
    refine z_sld hX hs h22 dL_law__2838 ?_
    refine z_if_eq hX 2846 dL_law__2839 (by decide) (fun h23 => ?_) (fun h23 => ?_)
    · replace hf := zif_pos h23 hf
      refine z_iconst hX dL_law__2846 ci_0 ?_
      replace hf := zb2_some hf
      obtain ⟨r_24, g24, h24, hf⟩ := hf
      refine z_callV1 hX ok_X12_ripe q2083 q2084 q2085 (zrm_law hR (by decide) hKa hNa (by omega) (by omega)) (ct_X12_ripe  h24) (zrec_Model hX zq_493) dL_law__2847 rfl rfl ?_
      refine z_istore (lv' := [(6, .int r_24), (5, .int r_20), (0, .ref b), (1, .ref (zB X + 0)), (2, .ref (zB X + 493)), (3, .ref (zB X + 508)), (4, .int v4)]) hX dL_law__2850 hn (by decide) rfl ?_
      refine z_aload_n hX dL_law__2852 4 rfl ?_
      replace hf := zb_some hf
      obtain ⟨r_25, h25, hf⟩ := hf
      refine z_callV1 hX ok_X12_thrown q1484 q1485 q1486 (zrm_law hR (by decide) hKa hNa (by omega) (by omega)) (ct_X12_thrown  h25) (zrec_Model hX zq_493) dL_law__2853 rfl rfl ?_
      refine z_iload hX dL_law__2856 1 rfl ?_
      refine z_icmp_eq hX 2863 dL_law__2858 (by decide) (fun h26 => ?_) (fun h26 => ?_)
      · replace hf := zif_pos h26 hf
        refine z_iload hX dL_law__2863 1 rfl ?_
        refine z_if_ne hX 2880 dL_law__2865 (by decide) (fun h27 => ?_) (fun h27 => ?_)
        · replace hf := zif_neg h27 hf
          refine z_goto hX 3587 dL_law__2880 (by decide) ?_
          refine zW.sub [2, 3, 4, 5, 6] rfl ?_
          refine zW.widen (k' := K) (n' := N) (by omega) (by omega) ?_
          exact hkk g24 hf
        · replace hf := zif_pos h27 hf
          refine z_aload_n hX dL_law__2868 5 rfl ?_
          refine z_iconst hX dL_law__2869 ci_0 ?_
          replace hf := zchk_some hf
          obtain ⟨h28, hf⟩ := hf
          refine z_lald hX zq_508 h28 dL_law__2870 ?_
          refine z_iload hX dL_law__2871 0 rfl ?_
          refine z_i2l hX dL_law__2873 ?_
          refine z_lcmp hX dL_law__2874 ?_
          refine z_if_eq hX 2880 dL_law__2875 (by decide) (fun h29 => ?_) (fun h29 => ?_)
          · replace hf := zif_pos h29 hf
            refine z_goto hX 3587 dL_law__2880 (by decide) ?_
            refine zW.sub [2, 3, 4, 5, 6] rfl ?_
            refine zW.widen (k' := K) (n' := N) (by omega) (by omega) ?_
            exact hkk g24 hf
          · replace hf := zif_neg h29 hf
            exact zno hf
      · replace hf := zif_neg h26 hf
        exact zno hf
    · replace hf := zif_neg h23 hf
      refine z_iconst hX dL_law__2842 ci_1 ?_
      refine z_goto hX 2847 dL_law__2843 (by decide) ?_
      replace hf := zb2_some hf
      obtain ⟨r_30, g30, h30, hf⟩ := hf
      refine z_callV1 hX ok_X12_ripe q2083 q2084 q2085 (zrm_law hR (by decide) hKa hNa (by omega) (by omega)) (ct_X12_ripe  h30) (zrec_Model hX zq_493) dL_law__2847 rfl rfl ?_
      refine z_istore (lv' := [(6, .int r_30), (5, .int r_20), (0, .ref b), (1, .ref (zB X + 0)), (2, .ref (zB X + 493)), (3, .ref (zB X + 508)), (4, .int v4)]) hX dL_law__2850 hn (by decide) rfl ?_
      refine z_aload_n hX dL_law__2852 4 rfl ?_
      replace hf := zb_some hf
      obtain ⟨r_31, h31, hf⟩ := hf
      refine z_callV1 hX ok_X12_thrown q1484 q1485 q1486 (zrm_law hR (by decide) hKa hNa (by omega) (by omega)) (ct_X12_thrown  h31) (zrec_Model hX zq_493) dL_law__2853 rfl rfl ?_
      refine z_iload hX dL_law__2856 1 rfl ?_
      refine z_icmp_eq hX 2863 dL_law__2858 (by decide) (fun h32 => ?_) (fun h32 => ?_)
      · replace hf := zif_pos h32 hf
        refine z_iload hX dL_law__2863 1 rfl ?_
        refine z_if_ne hX 2880 dL_law__2865 (by decide) (fun h33 => ?_) (fun h33 => ?_)
        · replace hf := zif_neg h33 hf
          refine z_goto hX 3587 dL_law__2880 (by decide) ?_
          refine zW.sub [2, 3, 4, 5, 6] rfl ?_
          refine zW.widen (k' := K) (n' := N) (by omega) (by omega) ?_
          exact hkk g30 hf
        · replace hf := zif_pos h33 hf
          refine z_aload_n hX dL_law__2868 5 rfl ?_
          refine z_iconst hX dL_law__2869 ci_0 ?_
          replace hf := zchk_some hf
          obtain ⟨h34, hf⟩ := hf
          refine z_lald hX zq_508 h34 dL_law__2870 ?_
          refine z_iload hX dL_law__2871 0 rfl ?_
          refine z_i2l hX dL_law__2873 ?_
          refine z_lcmp hX dL_law__2874 ?_
          refine z_if_eq hX 2880 dL_law__2875 (by decide) (fun h35 => ?_) (fun h35 => ?_)
          · replace hf := zif_pos h35 hf
            refine z_goto hX 3587 dL_law__2880 (by decide) ?_
            refine zW.sub [2, 3, 4, 5, 6] rfl ?_
            refine zW.widen (k' := K) (n' := N) (by omega) (by omega) ?_
            exact hkk g30 hf
          · replace hf := zif_neg h35 hf
            exact zno hf
      · replace hf := zif_neg h32 hf
        exact zno hf
def fLc_39 (L : Nat) (xs : Nat → Int32) (kk : zM → Option Unit) (v4 : Int32) (g : zM) : Option Unit := zchk (v4 + 1) L (zb2 (fL_has (xs (v4 + 1).toNatClampNeg) g) (fun r_2 g2 => zchk (v4 + 1) L (zb2 (fX12_has (xs (v4 + 1).toNatClampNeg) g2) (fun r_4 g4 => zb (fX12_thrown g4) (fun r_5 => if r_5 = r_2 then if r_2 = 0 then zchk 0 1 (if (lg_cmp ((g4 508 (0 : Int32).toNatClampNeg).toInt64) r_4.toInt64) = 0 then kk g4 else none) else kk g4 else none)))))
set_option maxHeartbeats 4000000 in
set_option maxRecDepth 100000 in
theorem fLc_39_ok {X : zX} (hX : zCX X cL_law_ RL) (hR : X.2.2.2.1 = room_1) (hn : X.2.2.2.2.2.2.2.2.2.1.maxLocals = 7) {b L : Nat} {xs : Nat → Int32} (hs : zSc X b L xs) {Q : State → Prop} {k n K N : Nat} (hKa : K ≤ 601024) (hNa : N ≤ 7293034) (hKb : k + 12 ≤ K) (hNb : n + 72 ≤ N) {kk : zM → Option Unit} {v4 : Int32} {g : zM} {r : Unit} (hkk : ∀ g, kk g = some r → zW X Q K N 3587 [(0, .ref b), (1, .ref (zB X + 0)), (2, .ref (zB X + 493)), (3, .ref (zB X + 508)), (4, .int v4)] [] g) (hf : fLc_39 L xs kk v4 g = some r) : zW X Q k n 2883 [(0, .ref b), (1, .ref (zB X + 0)), (2, .ref (zB X + 493)), (3, .ref (zB X + 508)), (4, .int v4)] [] g := by
  unfold fLc_39 at hf
  refine z_aload_n hX dL_law__2883 1 rfl ?_
  refine z_aload_n hX dL_law__2884 0 rfl ?_
  refine z_iload hX dL_law__2885 4 rfl ?_
  refine z_iconst hX dL_law__2887 ci_1 ?_
  refine z_iadd hX dL_law__2888 ?_
  replace hf := zchk_some hf
  obtain ⟨h1, hf⟩ := hf
  refine z_sld hX hs h1 dL_law__2889 ?_
  refine z_aload_n hX dL_law__2890 3 rfl ?_
  replace hf := zb2_some hf
  obtain ⟨r_2, g2, h2, hf⟩ := hf
  refine z_callW1 hX okw_L_has q1393 q1394 (zrm_law hR (by decide) hKa hNa (by omega) (by omega)) (ct_L_has h2) dL_law__2891 rfl rfl ?_
  refine z_istore (lv' := [(5, .int r_2), (0, .ref b), (1, .ref (zB X + 0)), (2, .ref (zB X + 493)), (3, .ref (zB X + 508)), (4, .int v4)]) hX dL_law__2894 hn (by decide) rfl ?_
  refine z_aload_n hX dL_law__2896 3 rfl ?_
  refine z_aload_n hX dL_law__2897 1 rfl ?_
  refine z_iload hX dL_law__2898 5 rfl ?_
  refine z_iconst hX dL_law__2900 ci_1 ?_
  refine z_iadd hX dL_law__2901 ?_
  replace hf := zchk_some hf
  obtain ⟨h3, hf⟩ := hf
  refine z_sld hX hs h3 dL_law__2902 ?_
  replace hf := zb2_some hf
  obtain ⟨r_4, g4, h4, hf⟩ := hf
  refine z_callV1 hX ok_X12_has q2055 q2056 q2057 (zrm_law hR (by decide) hKa hNa (by omega) (by omega)) (ct_X12_has  h4) (zrec_Model hX zq_493) dL_law__2903 rfl rfl ?_
  refine z_istore (lv' := [(6, .int r_4), (5, .int r_2), (0, .ref b), (1, .ref (zB X + 0)), (2, .ref (zB X + 493)), (3, .ref (zB X + 508)), (4, .int v4)]) hX dL_law__2906 hn (by decide) rfl ?_
  refine z_aload_n hX dL_law__2908 4 rfl ?_
  replace hf := zb_some hf
  obtain ⟨r_5, h5, hf⟩ := hf
  refine z_callV1 hX ok_X12_thrown q1484 q1485 q1486 (zrm_law hR (by decide) hKa hNa (by omega) (by omega)) (ct_X12_thrown  h5) (zrec_Model hX zq_493) dL_law__2909 rfl rfl ?_
  refine z_iload hX dL_law__2912 1 rfl ?_
  refine z_icmp_eq hX 2919 dL_law__2914 (by decide) (fun h6 => ?_) (fun h6 => ?_)
  · replace hf := zif_pos h6 hf
    refine z_iload hX dL_law__2919 1 rfl ?_
    refine z_if_ne hX 2936 dL_law__2921 (by decide) (fun h7 => ?_) (fun h7 => ?_)
    · replace hf := zif_neg h7 hf
      refine z_goto hX 3587 dL_law__2936 (by decide) ?_
      refine zW.sub [2, 3, 4, 5, 6] rfl ?_
      refine zW.widen (k' := K) (n' := N) (by omega) (by omega) ?_
      exact hkk g4 hf
    · replace hf := zif_pos h7 hf
      refine z_aload_n hX dL_law__2924 5 rfl ?_
      refine z_iconst hX dL_law__2925 ci_0 ?_
      replace hf := zchk_some hf
      obtain ⟨h8, hf⟩ := hf
      refine z_lald hX zq_508 h8 dL_law__2926 ?_
      refine z_iload hX dL_law__2927 0 rfl ?_
      refine z_i2l hX dL_law__2929 ?_
      refine z_lcmp hX dL_law__2930 ?_
      refine z_if_eq hX 2936 dL_law__2931 (by decide) (fun h9 => ?_) (fun h9 => ?_)
      · replace hf := zif_pos h9 hf
        refine z_goto hX 3587 dL_law__2936 (by decide) ?_
        refine zW.sub [2, 3, 4, 5, 6] rfl ?_
        refine zW.widen (k' := K) (n' := N) (by omega) (by omega) ?_
        exact hkk g4 hf
      · replace hf := zif_neg h9 hf
        exact zno hf
  · replace hf := zif_neg h6 hf
    exact zno hf
def fLc_40 (L : Nat) (xs : Nat → Int32) (kk : zM → Option Unit) (v4 : Int32) (g : zM) : Option Unit := zchk (v4 + 1) L (zb2 (fL_echo (xs (v4 + 1).toNatClampNeg) g) (fun r_2 g2 => zchk (v4 + 1) L (zb2 (fX12_echo (xs (v4 + 1).toNatClampNeg) g2) (fun r_4 g4 => zb (fX12_thrown g4) (fun r_5 => if r_5 = r_2 then if r_2 = 0 then zchk 0 1 (if (lg_cmp ((g4 508 (0 : Int32).toNatClampNeg).toInt64) r_4.toInt64) = 0 then kk g4 else none) else kk g4 else none)))))
set_option maxHeartbeats 4000000 in
set_option maxRecDepth 100000 in
theorem fLc_40_ok {X : zX} (hX : zCX X cL_law_ RL) (hR : X.2.2.2.1 = room_1) (hn : X.2.2.2.2.2.2.2.2.2.1.maxLocals = 7) {b L : Nat} {xs : Nat → Int32} (hs : zSc X b L xs) {Q : State → Prop} {k n K N : Nat} (hKa : K ≤ 601024) (hNa : N ≤ 7293034) (hKb : k + 12 ≤ K) (hNb : n + 72 ≤ N) {kk : zM → Option Unit} {v4 : Int32} {g : zM} {r : Unit} (hkk : ∀ g, kk g = some r → zW X Q K N 3587 [(0, .ref b), (1, .ref (zB X + 0)), (2, .ref (zB X + 493)), (3, .ref (zB X + 508)), (4, .int v4)] [] g) (hf : fLc_40 L xs kk v4 g = some r) : zW X Q k n 2939 [(0, .ref b), (1, .ref (zB X + 0)), (2, .ref (zB X + 493)), (3, .ref (zB X + 508)), (4, .int v4)] [] g := by
  unfold fLc_40 at hf
  refine z_aload_n hX dL_law__2939 1 rfl ?_
  refine z_aload_n hX dL_law__2940 0 rfl ?_
  refine z_iload hX dL_law__2941 4 rfl ?_
  refine z_iconst hX dL_law__2943 ci_1 ?_
  refine z_iadd hX dL_law__2944 ?_
  replace hf := zchk_some hf
  obtain ⟨h1, hf⟩ := hf
  refine z_sld hX hs h1 dL_law__2945 ?_
  refine z_aload_n hX dL_law__2946 3 rfl ?_
  replace hf := zb2_some hf
  obtain ⟨r_2, g2, h2, hf⟩ := hf
  refine z_callW1 hX okw_L_echo q1401 q1402 (zrm_law hR (by decide) hKa hNa (by omega) (by omega)) (ct_L_echo h2) dL_law__2947 rfl rfl ?_
  refine z_istore (lv' := [(5, .int r_2), (0, .ref b), (1, .ref (zB X + 0)), (2, .ref (zB X + 493)), (3, .ref (zB X + 508)), (4, .int v4)]) hX dL_law__2950 hn (by decide) rfl ?_
  refine z_aload_n hX dL_law__2952 3 rfl ?_
  refine z_aload_n hX dL_law__2953 1 rfl ?_
  refine z_iload hX dL_law__2954 5 rfl ?_
  refine z_iconst hX dL_law__2956 ci_1 ?_
  refine z_iadd hX dL_law__2957 ?_
  replace hf := zchk_some hf
  obtain ⟨h3, hf⟩ := hf
  refine z_sld hX hs h3 dL_law__2958 ?_
  replace hf := zb2_some hf
  obtain ⟨r_4, g4, h4, hf⟩ := hf
  refine z_callV1 hX ok_X12_echo q2051 q2052 q2053 (zrm_law hR (by decide) hKa hNa (by omega) (by omega)) (ct_X12_echo  h4) (zrec_Model hX zq_493) dL_law__2959 rfl rfl ?_
  refine z_istore (lv' := [(6, .int r_4), (5, .int r_2), (0, .ref b), (1, .ref (zB X + 0)), (2, .ref (zB X + 493)), (3, .ref (zB X + 508)), (4, .int v4)]) hX dL_law__2962 hn (by decide) rfl ?_
  refine z_aload_n hX dL_law__2964 4 rfl ?_
  replace hf := zb_some hf
  obtain ⟨r_5, h5, hf⟩ := hf
  refine z_callV1 hX ok_X12_thrown q1484 q1485 q1486 (zrm_law hR (by decide) hKa hNa (by omega) (by omega)) (ct_X12_thrown  h5) (zrec_Model hX zq_493) dL_law__2965 rfl rfl ?_
  refine z_iload hX dL_law__2968 1 rfl ?_
  refine z_icmp_eq hX 2975 dL_law__2970 (by decide) (fun h6 => ?_) (fun h6 => ?_)
  · replace hf := zif_pos h6 hf
    refine z_iload hX dL_law__2975 1 rfl ?_
    refine z_if_ne hX 2992 dL_law__2977 (by decide) (fun h7 => ?_) (fun h7 => ?_)
    · replace hf := zif_neg h7 hf
      refine z_goto hX 3587 dL_law__2992 (by decide) ?_
      refine zW.sub [2, 3, 4, 5, 6] rfl ?_
      refine zW.widen (k' := K) (n' := N) (by omega) (by omega) ?_
      exact hkk g4 hf
    · replace hf := zif_pos h7 hf
      refine z_aload_n hX dL_law__2980 5 rfl ?_
      refine z_iconst hX dL_law__2981 ci_0 ?_
      replace hf := zchk_some hf
      obtain ⟨h8, hf⟩ := hf
      refine z_lald hX zq_508 h8 dL_law__2982 ?_
      refine z_iload hX dL_law__2983 0 rfl ?_
      refine z_i2l hX dL_law__2985 ?_
      refine z_lcmp hX dL_law__2986 ?_
      refine z_if_eq hX 2992 dL_law__2987 (by decide) (fun h9 => ?_) (fun h9 => ?_)
      · replace hf := zif_pos h9 hf
        refine z_goto hX 3587 dL_law__2992 (by decide) ?_
        refine zW.sub [2, 3, 4, 5, 6] rfl ?_
        refine zW.widen (k' := K) (n' := N) (by omega) (by omega) ?_
        exact hkk g4 hf
      · replace hf := zif_neg h9 hf
        exact zno hf
  · replace hf := zif_neg h6 hf
    exact zno hf
def fLc_41 (L : Nat) (xs : Nat → Int32) (kk : zM → Option Unit) (v4 : Int32) (g : zM) : Option Unit := zchk (v4 + 1) L (zchk (v4 + 2) L (zb2 (fL_common (xs (v4 + 1).toNatClampNeg) (xs (v4 + 2).toNatClampNeg) g) (fun r_3 g3 => zchk (v4 + 1) L (zchk (v4 + 2) L (zb2 (fX12_common (xs (v4 + 1).toNatClampNeg) (xs (v4 + 2).toNatClampNeg) g3) (fun r_6 g6 => zb (fX12_thrown g6) (fun r_7 => if r_7 = r_3 then if r_3 = 0 then zchk 0 1 (if (lg_cmp ((g6 508 (0 : Int32).toNatClampNeg).toInt64) r_6.toInt64) = 0 then kk g6 else none) else kk g6 else none)))))))
set_option maxHeartbeats 4000000 in
set_option maxRecDepth 100000 in
theorem fLc_41_ok {X : zX} (hX : zCX X cL_law_ RL) (hR : X.2.2.2.1 = room_1) (hn : X.2.2.2.2.2.2.2.2.2.1.maxLocals = 7) {b L : Nat} {xs : Nat → Int32} (hs : zSc X b L xs) {Q : State → Prop} {k n K N : Nat} (hKa : K ≤ 601024) (hNa : N ≤ 7293034) (hKb : k + 12 ≤ K) (hNb : n + 72 ≤ N) {kk : zM → Option Unit} {v4 : Int32} {g : zM} {r : Unit} (hkk : ∀ g, kk g = some r → zW X Q K N 3587 [(0, .ref b), (1, .ref (zB X + 0)), (2, .ref (zB X + 493)), (3, .ref (zB X + 508)), (4, .int v4)] [] g) (hf : fLc_41 L xs kk v4 g = some r) : zW X Q k n 2995 [(0, .ref b), (1, .ref (zB X + 0)), (2, .ref (zB X + 493)), (3, .ref (zB X + 508)), (4, .int v4)] [] g := by
  unfold fLc_41 at hf
  refine z_aload_n hX dL_law__2995 1 rfl ?_
  refine z_aload_n hX dL_law__2996 0 rfl ?_
  refine z_iload hX dL_law__2997 4 rfl ?_
  refine z_iconst hX dL_law__2999 ci_1 ?_
  refine z_iadd hX dL_law__3000 ?_
  replace hf := zchk_some hf
  obtain ⟨h1, hf⟩ := hf
  refine z_sld hX hs h1 dL_law__3001 ?_
  refine z_aload_n hX dL_law__3002 0 rfl ?_
  refine z_iload hX dL_law__3003 4 rfl ?_
  refine z_iconst hX dL_law__3005 ci_2 ?_
  refine z_iadd hX dL_law__3006 ?_
  replace hf := zchk_some hf
  obtain ⟨h2, hf⟩ := hf
  refine z_sld hX hs h2 dL_law__3007 ?_
  refine z_aload_n hX dL_law__3008 3 rfl ?_
  replace hf := zb2_some hf
  obtain ⟨r_3, g3, h3, hf⟩ := hf
  refine z_callW1 hX okw_L_common q1413 q1414 (zrm_law hR (by decide) hKa hNa (by omega) (by omega)) (ct_L_common h3) dL_law__3009 rfl rfl ?_
  refine z_istore (lv' := [(5, .int r_3), (0, .ref b), (1, .ref (zB X + 0)), (2, .ref (zB X + 493)), (3, .ref (zB X + 508)), (4, .int v4)]) hX dL_law__3012 hn (by decide) rfl ?_
  refine z_aload_n hX dL_law__3014 3 rfl ?_
  refine z_aload_n hX dL_law__3015 1 rfl ?_
  refine z_iload hX dL_law__3016 5 rfl ?_
  refine z_iconst hX dL_law__3018 ci_1 ?_
  refine z_iadd hX dL_law__3019 ?_
  replace hf := zchk_some hf
  obtain ⟨h4, hf⟩ := hf
  refine z_sld hX hs h4 dL_law__3020 ?_
  refine z_aload_n hX dL_law__3021 1 rfl ?_
  refine z_iload hX dL_law__3022 5 rfl ?_
  refine z_iconst hX dL_law__3024 ci_2 ?_
  refine z_iadd hX dL_law__3025 ?_
  replace hf := zchk_some hf
  obtain ⟨h5, hf⟩ := hf
  refine z_sld hX hs h5 dL_law__3026 ?_
  replace hf := zb2_some hf
  obtain ⟨r_6, g6, h6, hf⟩ := hf
  refine z_callV1 hX ok_X12_common q2042 q2043 q2044 (zrm_law hR (by decide) hKa hNa (by omega) (by omega)) (ct_X12_common  h6) (zrec_Model hX zq_493) dL_law__3027 rfl rfl ?_
  refine z_istore (lv' := [(6, .int r_6), (5, .int r_3), (0, .ref b), (1, .ref (zB X + 0)), (2, .ref (zB X + 493)), (3, .ref (zB X + 508)), (4, .int v4)]) hX dL_law__3030 hn (by decide) rfl ?_
  refine z_aload_n hX dL_law__3032 4 rfl ?_
  replace hf := zb_some hf
  obtain ⟨r_7, h7, hf⟩ := hf
  refine z_callV1 hX ok_X12_thrown q1484 q1485 q1486 (zrm_law hR (by decide) hKa hNa (by omega) (by omega)) (ct_X12_thrown  h7) (zrec_Model hX zq_493) dL_law__3033 rfl rfl ?_
  refine z_iload hX dL_law__3036 1 rfl ?_
  refine z_icmp_eq hX 3043 dL_law__3038 (by decide) (fun h8 => ?_) (fun h8 => ?_)
  · replace hf := zif_pos h8 hf
    refine z_iload hX dL_law__3043 1 rfl ?_
    refine z_if_ne hX 3060 dL_law__3045 (by decide) (fun h9 => ?_) (fun h9 => ?_)
    · replace hf := zif_neg h9 hf
      refine z_goto hX 3587 dL_law__3060 (by decide) ?_
      refine zW.sub [2, 3, 4, 5, 6] rfl ?_
      refine zW.widen (k' := K) (n' := N) (by omega) (by omega) ?_
      exact hkk g6 hf
    · replace hf := zif_pos h9 hf
      refine z_aload_n hX dL_law__3048 5 rfl ?_
      refine z_iconst hX dL_law__3049 ci_0 ?_
      replace hf := zchk_some hf
      obtain ⟨h10, hf⟩ := hf
      refine z_lald hX zq_508 h10 dL_law__3050 ?_
      refine z_iload hX dL_law__3051 0 rfl ?_
      refine z_i2l hX dL_law__3053 ?_
      refine z_lcmp hX dL_law__3054 ?_
      refine z_if_eq hX 3060 dL_law__3055 (by decide) (fun h11 => ?_) (fun h11 => ?_)
      · replace hf := zif_pos h11 hf
        refine z_goto hX 3587 dL_law__3060 (by decide) ?_
        refine zW.sub [2, 3, 4, 5, 6] rfl ?_
        refine zW.widen (k' := K) (n' := N) (by omega) (by omega) ?_
        exact hkk g6 hf
      · replace hf := zif_neg h11 hf
        exact zno hf
  · replace hf := zif_neg h8 hf
    exact zno hf
def fLc_42 (L : Nat) (xs : Nat → Int32) (kk : zM → Option Unit) (v4 : Int32) (g : zM) : Option Unit := zchk (v4 + 1) L (zchk (v4 + 2) L (if (xs (v4 + 2).toNatClampNeg) = 0 then zb2 (fL_author (xs (v4 + 1).toNatClampNeg) 0 g) (fun r_4 g4 => zchk (v4 + 1) L (zchk (v4 + 2) L (if (xs (v4 + 2).toNatClampNeg) = 0 then zb2 (fX12_author (xs (v4 + 1).toNatClampNeg) 0 g4) (fun r_8 g8 => zb (fX12_thrown g8) (fun r_9 => if r_9 = r_4 then if r_4 = 0 then zchk 0 1 (if (lg_cmp ((g8 508 (0 : Int32).toNatClampNeg).toInt64) r_8.toInt64) = 0 then kk g8 else none) else kk g8 else none)) else zb2 (fX12_author (xs (v4 + 1).toNatClampNeg) 1 g4) (fun r_14 g14 => zb (fX12_thrown g14) (fun r_15 => if r_15 = r_4 then if r_4 = 0 then zchk 0 1 (if (lg_cmp ((g14 508 (0 : Int32).toNatClampNeg).toInt64) r_14.toInt64) = 0 then kk g14 else none) else kk g14 else none))))) else zb2 (fL_author (xs (v4 + 1).toNatClampNeg) 1 g) (fun r_20 g20 => zchk (v4 + 1) L (zchk (v4 + 2) L (if (xs (v4 + 2).toNatClampNeg) = 0 then zb2 (fX12_author (xs (v4 + 1).toNatClampNeg) 0 g20) (fun r_24 g24 => zb (fX12_thrown g24) (fun r_25 => if r_25 = r_20 then if r_20 = 0 then zchk 0 1 (if (lg_cmp ((g24 508 (0 : Int32).toNatClampNeg).toInt64) r_24.toInt64) = 0 then kk g24 else none) else kk g24 else none)) else zb2 (fX12_author (xs (v4 + 1).toNatClampNeg) 1 g20) (fun r_30 g30 => zb (fX12_thrown g30) (fun r_31 => if r_31 = r_20 then if r_20 = 0 then zchk 0 1 (if (lg_cmp ((g30 508 (0 : Int32).toNatClampNeg).toInt64) r_30.toInt64) = 0 then kk g30 else none) else kk g30 else none)))))))
set_option maxHeartbeats 4000000 in
set_option maxRecDepth 100000 in
theorem fLc_42_ok {X : zX} (hX : zCX X cL_law_ RL) (hR : X.2.2.2.1 = room_1) (hn : X.2.2.2.2.2.2.2.2.2.1.maxLocals = 7) {b L : Nat} {xs : Nat → Int32} (hs : zSc X b L xs) {Q : State → Prop} {k n K N : Nat} (hKa : K ≤ 601024) (hNa : N ≤ 7293034) (hKb : k + 12 ≤ K) (hNb : n + 72 ≤ N) {kk : zM → Option Unit} {v4 : Int32} {g : zM} {r : Unit} (hkk : ∀ g, kk g = some r → zW X Q K N 3587 [(0, .ref b), (1, .ref (zB X + 0)), (2, .ref (zB X + 493)), (3, .ref (zB X + 508)), (4, .int v4)] [] g) (hf : fLc_42 L xs kk v4 g = some r) : zW X Q k n 3063 [(0, .ref b), (1, .ref (zB X + 0)), (2, .ref (zB X + 493)), (3, .ref (zB X + 508)), (4, .int v4)] [] g := by
  unfold fLc_42 at hf
  refine z_aload_n hX dL_law__3063 1 rfl ?_
  refine z_aload_n hX dL_law__3064 0 rfl ?_
  refine z_iload hX dL_law__3065 4 rfl ?_
  refine z_iconst hX dL_law__3067 ci_1 ?_
  refine z_iadd hX dL_law__3068 ?_
  replace hf := zchk_some hf
  obtain ⟨h1, hf⟩ := hf
  refine z_sld hX hs h1 dL_law__3069 ?_
  refine z_aload_n hX dL_law__3070 0 rfl ?_
  refine z_iload hX dL_law__3071 4 rfl ?_
  refine z_iconst hX dL_law__3073 ci_2 ?_
  refine z_iadd hX dL_law__3074 ?_
  replace hf := zchk_some hf
  obtain ⟨h2, hf⟩ := hf
  refine z_sld hX hs h2 dL_law__3075 ?_
  refine z_if_eq hX 3083 dL_law__3076 (by decide) (fun h3 => ?_) (fun h3 => ?_)
  · replace hf := zif_pos h3 hf
    refine z_iconst hX dL_law__3083 ci_0 ?_
    refine z_aload_n hX dL_law__3084 3 rfl ?_
    replace hf := zb2_some hf
    obtain ⟨r_4, g4, h4, hf⟩ := hf
    refine z_callW1 hX okw_L_author q1420 q1421 (zrm_law hR (by decide) hKa hNa (by omega) (by omega)) (ct_L_author h4) dL_law__3085 rfl rfl ?_
    refine z_istore (lv' := [(5, .int r_4), (0, .ref b), (1, .ref (zB X + 0)), (2, .ref (zB X + 493)), (3, .ref (zB X + 508)), (4, .int v4)]) hX dL_law__3088 hn (by decide) rfl ?_
    refine z_aload_n hX dL_law__3090 3 rfl ?_
    refine z_aload_n hX dL_law__3091 1 rfl ?_
    refine z_iload hX dL_law__3092 5 rfl ?_
    refine z_iconst hX dL_law__3094 ci_1 ?_
    refine z_iadd hX dL_law__3095 ?_
    replace hf := zchk_some hf
    obtain ⟨h5, hf⟩ := hf
    refine z_sld hX hs h5 dL_law__3096 ?_
    refine z_aload_n hX dL_law__3097 1 rfl ?_
    refine z_iload hX dL_law__3098 5 rfl ?_
    refine z_iconst hX dL_law__3100 ci_2 ?_
    refine z_iadd hX dL_law__3101 ?_
    replace hf := zchk_some hf
    obtain ⟨h6, hf⟩ := hf
    refine z_sld hX hs h6 dL_law__3102 ?_
    refine z_if_eq hX 3110 dL_law__3103 (by decide) (fun h7 => ?_) (fun h7 => ?_)
    · replace hf := zif_pos h7 hf
      refine z_iconst hX dL_law__3110 ci_0 ?_
      replace hf := zb2_some hf
      obtain ⟨r_8, g8, h8, hf⟩ := hf
      refine z_callV1 hX ok_X12_author q2013 q2014 q2015 (zrm_law hR (by decide) hKa hNa (by omega) (by omega)) (ct_X12_author  h8) (zrec_Model hX zq_493) dL_law__3111 rfl rfl ?_
      refine z_istore (lv' := [(6, .int r_8), (5, .int r_4), (0, .ref b), (1, .ref (zB X + 0)), (2, .ref (zB X + 493)), (3, .ref (zB X + 508)), (4, .int v4)]) hX dL_law__3114 hn (by decide) rfl ?_
      refine z_aload_n hX dL_law__3116 4 rfl ?_
      replace hf := zb_some hf
      obtain ⟨r_9, h9, hf⟩ := hf
      refine z_callV1 hX ok_X12_thrown q1484 q1485 q1486 (zrm_law hR (by decide) hKa hNa (by omega) (by omega)) (ct_X12_thrown  h9) (zrec_Model hX zq_493) dL_law__3117 rfl rfl ?_
      refine z_iload hX dL_law__3120 1 rfl ?_
      refine z_icmp_eq hX 3127 dL_law__3122 (by decide) (fun h10 => ?_) (fun h10 => ?_)
      · replace hf := zif_pos h10 hf
        refine z_iload hX dL_law__3127 1 rfl ?_
        refine z_if_ne hX 3144 dL_law__3129 (by decide) (fun h11 => ?_) (fun h11 => ?_)
        · replace hf := zif_neg h11 hf
          refine z_goto hX 3587 dL_law__3144 (by decide) ?_
          refine zW.sub [2, 3, 4, 5, 6] rfl ?_
          refine zW.widen (k' := K) (n' := N) (by omega) (by omega) ?_
          exact hkk g8 hf
        · replace hf := zif_pos h11 hf
          refine z_aload_n hX dL_law__3132 5 rfl ?_
          refine z_iconst hX dL_law__3133 ci_0 ?_
          replace hf := zchk_some hf
          obtain ⟨h12, hf⟩ := hf
          refine z_lald hX zq_508 h12 dL_law__3134 ?_
          refine z_iload hX dL_law__3135 0 rfl ?_
          refine z_i2l hX dL_law__3137 ?_
          refine z_lcmp hX dL_law__3138 ?_
          refine z_if_eq hX 3144 dL_law__3139 (by decide) (fun h13 => ?_) (fun h13 => ?_)
          · replace hf := zif_pos h13 hf
            refine z_goto hX 3587 dL_law__3144 (by decide) ?_
            refine zW.sub [2, 3, 4, 5, 6] rfl ?_
            refine zW.widen (k' := K) (n' := N) (by omega) (by omega) ?_
            exact hkk g8 hf
          · replace hf := zif_neg h13 hf
            exact zno hf
      · replace hf := zif_neg h10 hf
        exact zno hf
    · replace hf := zif_neg h7 hf
      refine z_iconst hX dL_law__3106 ci_1 ?_
      refine z_goto hX 3111 dL_law__3107 (by decide) ?_
      replace hf := zb2_some hf
      obtain ⟨r_14, g14, h14, hf⟩ := hf
      refine z_callV1 hX ok_X12_author q2013 q2014 q2015 (zrm_law hR (by decide) hKa hNa (by omega) (by omega)) (ct_X12_author  h14) (zrec_Model hX zq_493) dL_law__3111 rfl rfl ?_
      refine z_istore (lv' := [(6, .int r_14), (5, .int r_4), (0, .ref b), (1, .ref (zB X + 0)), (2, .ref (zB X + 493)), (3, .ref (zB X + 508)), (4, .int v4)]) hX dL_law__3114 hn (by decide) rfl ?_
      refine z_aload_n hX dL_law__3116 4 rfl ?_
      replace hf := zb_some hf
      obtain ⟨r_15, h15, hf⟩ := hf
      refine z_callV1 hX ok_X12_thrown q1484 q1485 q1486 (zrm_law hR (by decide) hKa hNa (by omega) (by omega)) (ct_X12_thrown  h15) (zrec_Model hX zq_493) dL_law__3117 rfl rfl ?_
      refine z_iload hX dL_law__3120 1 rfl ?_
      refine z_icmp_eq hX 3127 dL_law__3122 (by decide) (fun h16 => ?_) (fun h16 => ?_)
      · replace hf := zif_pos h16 hf
        refine z_iload hX dL_law__3127 1 rfl ?_
        refine z_if_ne hX 3144 dL_law__3129 (by decide) (fun h17 => ?_) (fun h17 => ?_)
        · replace hf := zif_neg h17 hf
          refine z_goto hX 3587 dL_law__3144 (by decide) ?_
          refine zW.sub [2, 3, 4, 5, 6] rfl ?_
          refine zW.widen (k' := K) (n' := N) (by omega) (by omega) ?_
          exact hkk g14 hf
        · replace hf := zif_pos h17 hf
          refine z_aload_n hX dL_law__3132 5 rfl ?_
          refine z_iconst hX dL_law__3133 ci_0 ?_
          replace hf := zchk_some hf
          obtain ⟨h18, hf⟩ := hf
          refine z_lald hX zq_508 h18 dL_law__3134 ?_
          refine z_iload hX dL_law__3135 0 rfl ?_
          refine z_i2l hX dL_law__3137 ?_
          refine z_lcmp hX dL_law__3138 ?_
          refine z_if_eq hX 3144 dL_law__3139 (by decide) (fun h19 => ?_) (fun h19 => ?_)
          · replace hf := zif_pos h19 hf
            refine z_goto hX 3587 dL_law__3144 (by decide) ?_
            refine zW.sub [2, 3, 4, 5, 6] rfl ?_
            refine zW.widen (k' := K) (n' := N) (by omega) (by omega) ?_
            exact hkk g14 hf
          · replace hf := zif_neg h19 hf
            exact zno hf
      · replace hf := zif_neg h16 hf
        exact zno hf
  · replace hf := zif_neg h3 hf
    refine z_iconst hX dL_law__3079 ci_1 ?_
    refine z_goto hX 3084 dL_law__3080 (by decide) ?_
    refine z_aload_n hX dL_law__3084 3 rfl ?_
    replace hf := zb2_some hf
    obtain ⟨r_20, g20, h20, hf⟩ := hf
    refine z_callW1 hX okw_L_author q1420 q1421 (zrm_law hR (by decide) hKa hNa (by omega) (by omega)) (ct_L_author h20) dL_law__3085 rfl rfl ?_
    refine z_istore (lv' := [(5, .int r_20), (0, .ref b), (1, .ref (zB X + 0)), (2, .ref (zB X + 493)), (3, .ref (zB X + 508)), (4, .int v4)]) hX dL_law__3088 hn (by decide) rfl ?_
    refine z_aload_n hX dL_law__3090 3 rfl ?_
    refine z_aload_n hX dL_law__3091 1 rfl ?_
    refine z_iload hX dL_law__3092 5 rfl ?_
    refine z_iconst hX dL_law__3094 ci_1 ?_
    refine z_iadd hX dL_law__3095 ?_
    replace hf := zchk_some hf
    obtain ⟨h21, hf⟩ := hf
    refine z_sld hX hs h21 dL_law__3096 ?_
    refine z_aload_n hX dL_law__3097 1 rfl ?_
    refine z_iload hX dL_law__3098 5 rfl ?_
    refine z_iconst hX dL_law__3100 ci_2 ?_
    refine z_iadd hX dL_law__3101 ?_
    replace hf := zchk_some hf
    obtain ⟨h22, hf⟩ := hf
    refine z_sld hX hs h22 dL_law__3102 ?_
    refine z_if_eq hX 3110 dL_law__3103 (by decide) (fun h23 => ?_) (fun h23 => ?_)
    · replace hf := zif_pos h23 hf
      refine z_iconst hX dL_law__3110 ci_0 ?_
      replace hf := zb2_some hf
      obtain ⟨r_24, g24, h24, hf⟩ := hf
      refine z_callV1 hX ok_X12_author q2013 q2014 q2015 (zrm_law hR (by decide) hKa hNa (by omega) (by omega)) (ct_X12_author  h24) (zrec_Model hX zq_493) dL_law__3111 rfl rfl ?_
      refine z_istore (lv' := [(6, .int r_24), (5, .int r_20), (0, .ref b), (1, .ref (zB X + 0)), (2, .ref (zB X + 493)), (3, .ref (zB X + 508)), (4, .int v4)]) hX dL_law__3114 hn (by decide) rfl ?_
      refine z_aload_n hX dL_law__3116 4 rfl ?_
      replace hf := zb_some hf
      obtain ⟨r_25, h25, hf⟩ := hf
      refine z_callV1 hX ok_X12_thrown q1484 q1485 q1486 (zrm_law hR (by decide) hKa hNa (by omega) (by omega)) (ct_X12_thrown  h25) (zrec_Model hX zq_493) dL_law__3117 rfl rfl ?_
      refine z_iload hX dL_law__3120 1 rfl ?_
      refine z_icmp_eq hX 3127 dL_law__3122 (by decide) (fun h26 => ?_) (fun h26 => ?_)
      · replace hf := zif_pos h26 hf
        refine z_iload hX dL_law__3127 1 rfl ?_
        refine z_if_ne hX 3144 dL_law__3129 (by decide) (fun h27 => ?_) (fun h27 => ?_)
        · replace hf := zif_neg h27 hf
          refine z_goto hX 3587 dL_law__3144 (by decide) ?_
          refine zW.sub [2, 3, 4, 5, 6] rfl ?_
          refine zW.widen (k' := K) (n' := N) (by omega) (by omega) ?_
          exact hkk g24 hf
        · replace hf := zif_pos h27 hf
          refine z_aload_n hX dL_law__3132 5 rfl ?_
          refine z_iconst hX dL_law__3133 ci_0 ?_
          replace hf := zchk_some hf
          obtain ⟨h28, hf⟩ := hf
          refine z_lald hX zq_508 h28 dL_law__3134 ?_
          refine z_iload hX dL_law__3135 0 rfl ?_
          refine z_i2l hX dL_law__3137 ?_
          refine z_lcmp hX dL_law__3138 ?_
          refine z_if_eq hX 3144 dL_law__3139 (by decide) (fun h29 => ?_) (fun h29 => ?_)
          · replace hf := zif_pos h29 hf
            refine z_goto hX 3587 dL_law__3144 (by decide) ?_
            refine zW.sub [2, 3, 4, 5, 6] rfl ?_
            refine zW.widen (k' := K) (n' := N) (by omega) (by omega) ?_
            exact hkk g24 hf
          · replace hf := zif_neg h29 hf
            exact zno hf
      · replace hf := zif_neg h26 hf
        exact zno hf
    · replace hf := zif_neg h23 hf
      refine z_iconst hX dL_law__3106 ci_1 ?_
      refine z_goto hX 3111 dL_law__3107 (by decide) ?_
      replace hf := zb2_some hf
      obtain ⟨r_30, g30, h30, hf⟩ := hf
      refine z_callV1 hX ok_X12_author q2013 q2014 q2015 (zrm_law hR (by decide) hKa hNa (by omega) (by omega)) (ct_X12_author  h30) (zrec_Model hX zq_493) dL_law__3111 rfl rfl ?_
      refine z_istore (lv' := [(6, .int r_30), (5, .int r_20), (0, .ref b), (1, .ref (zB X + 0)), (2, .ref (zB X + 493)), (3, .ref (zB X + 508)), (4, .int v4)]) hX dL_law__3114 hn (by decide) rfl ?_
      refine z_aload_n hX dL_law__3116 4 rfl ?_
      replace hf := zb_some hf
      obtain ⟨r_31, h31, hf⟩ := hf
      refine z_callV1 hX ok_X12_thrown q1484 q1485 q1486 (zrm_law hR (by decide) hKa hNa (by omega) (by omega)) (ct_X12_thrown  h31) (zrec_Model hX zq_493) dL_law__3117 rfl rfl ?_
      refine z_iload hX dL_law__3120 1 rfl ?_
      refine z_icmp_eq hX 3127 dL_law__3122 (by decide) (fun h32 => ?_) (fun h32 => ?_)
      · replace hf := zif_pos h32 hf
        refine z_iload hX dL_law__3127 1 rfl ?_
        refine z_if_ne hX 3144 dL_law__3129 (by decide) (fun h33 => ?_) (fun h33 => ?_)
        · replace hf := zif_neg h33 hf
          refine z_goto hX 3587 dL_law__3144 (by decide) ?_
          refine zW.sub [2, 3, 4, 5, 6] rfl ?_
          refine zW.widen (k' := K) (n' := N) (by omega) (by omega) ?_
          exact hkk g30 hf
        · replace hf := zif_pos h33 hf
          refine z_aload_n hX dL_law__3132 5 rfl ?_
          refine z_iconst hX dL_law__3133 ci_0 ?_
          replace hf := zchk_some hf
          obtain ⟨h34, hf⟩ := hf
          refine z_lald hX zq_508 h34 dL_law__3134 ?_
          refine z_iload hX dL_law__3135 0 rfl ?_
          refine z_i2l hX dL_law__3137 ?_
          refine z_lcmp hX dL_law__3138 ?_
          refine z_if_eq hX 3144 dL_law__3139 (by decide) (fun h35 => ?_) (fun h35 => ?_)
          · replace hf := zif_pos h35 hf
            refine z_goto hX 3587 dL_law__3144 (by decide) ?_
            refine zW.sub [2, 3, 4, 5, 6] rfl ?_
            refine zW.widen (k' := K) (n' := N) (by omega) (by omega) ?_
            exact hkk g30 hf
          · replace hf := zif_neg h35 hf
            exact zno hf
      · replace hf := zif_neg h32 hf
        exact zno hf
def fLc_43 (L : Nat) (xs : Nat → Int32) (kk : zM → Option Unit) (v4 : Int32) (g : zM) : Option Unit := zchk (v4 + 1) L (zchk (v4 + 2) L (zchk (v4 + 3) L (if (xs (v4 + 3).toNatClampNeg) = 0 then zb2 (fL_shelves (xs (v4 + 1).toNatClampNeg) (xs (v4 + 2).toNatClampNeg) 0 g) (fun r_5 g5 => zchk (v4 + 1) L (zchk (v4 + 2) L (zchk (v4 + 3) L (if (xs (v4 + 3).toNatClampNeg) = 0 then zb2 (fX12_shelves (xs (v4 + 1).toNatClampNeg) (xs (v4 + 2).toNatClampNeg) 0 g5) (fun r_10 g10 => zb (fX12_thrown g10) (fun r_11 => if r_11 = r_5 then if r_5 = 0 then zchk 0 1 (if (lg_cmp ((g10 508 (0 : Int32).toNatClampNeg).toInt64) r_10.toInt64) = 0 then kk g10 else none) else kk g10 else none)) else zb2 (fX12_shelves (xs (v4 + 1).toNatClampNeg) (xs (v4 + 2).toNatClampNeg) 1 g5) (fun r_16 g16 => zb (fX12_thrown g16) (fun r_17 => if r_17 = r_5 then if r_5 = 0 then zchk 0 1 (if (lg_cmp ((g16 508 (0 : Int32).toNatClampNeg).toInt64) r_16.toInt64) = 0 then kk g16 else none) else kk g16 else none)))))) else zb2 (fL_shelves (xs (v4 + 1).toNatClampNeg) (xs (v4 + 2).toNatClampNeg) 1 g) (fun r_22 g22 => zchk (v4 + 1) L (zchk (v4 + 2) L (zchk (v4 + 3) L (if (xs (v4 + 3).toNatClampNeg) = 0 then zb2 (fX12_shelves (xs (v4 + 1).toNatClampNeg) (xs (v4 + 2).toNatClampNeg) 0 g22) (fun r_27 g27 => zb (fX12_thrown g27) (fun r_28 => if r_28 = r_22 then if r_22 = 0 then zchk 0 1 (if (lg_cmp ((g27 508 (0 : Int32).toNatClampNeg).toInt64) r_27.toInt64) = 0 then kk g27 else none) else kk g27 else none)) else zb2 (fX12_shelves (xs (v4 + 1).toNatClampNeg) (xs (v4 + 2).toNatClampNeg) 1 g22) (fun r_33 g33 => zb (fX12_thrown g33) (fun r_34 => if r_34 = r_22 then if r_22 = 0 then zchk 0 1 (if (lg_cmp ((g33 508 (0 : Int32).toNatClampNeg).toInt64) r_33.toInt64) = 0 then kk g33 else none) else kk g33 else none)))))))))
set_option maxHeartbeats 4000000 in
set_option maxRecDepth 100000 in
theorem fLc_43_ok {X : zX} (hX : zCX X cL_law_ RL) (hR : X.2.2.2.1 = room_1) (hn : X.2.2.2.2.2.2.2.2.2.1.maxLocals = 7) {b L : Nat} {xs : Nat → Int32} (hs : zSc X b L xs) {Q : State → Prop} {k n K N : Nat} (hKa : K ≤ 601024) (hNa : N ≤ 7293034) (hKb : k + 12 ≤ K) (hNb : n + 72 ≤ N) {kk : zM → Option Unit} {v4 : Int32} {g : zM} {r : Unit} (hkk : ∀ g, kk g = some r → zW X Q K N 3587 [(0, .ref b), (1, .ref (zB X + 0)), (2, .ref (zB X + 493)), (3, .ref (zB X + 508)), (4, .int v4)] [] g) (hf : fLc_43 L xs kk v4 g = some r) : zW X Q k n 3147 [(0, .ref b), (1, .ref (zB X + 0)), (2, .ref (zB X + 493)), (3, .ref (zB X + 508)), (4, .int v4)] [] g := by
  unfold fLc_43 at hf
  refine z_aload_n hX dL_law__3147 1 rfl ?_
  refine z_aload_n hX dL_law__3148 0 rfl ?_
  refine z_iload hX dL_law__3149 4 rfl ?_
  refine z_iconst hX dL_law__3151 ci_1 ?_
  refine z_iadd hX dL_law__3152 ?_
  replace hf := zchk_some hf
  obtain ⟨h1, hf⟩ := hf
  refine z_sld hX hs h1 dL_law__3153 ?_
  refine z_aload_n hX dL_law__3154 0 rfl ?_
  refine z_iload hX dL_law__3155 4 rfl ?_
  refine z_iconst hX dL_law__3157 ci_2 ?_
  refine z_iadd hX dL_law__3158 ?_
  replace hf := zchk_some hf
  obtain ⟨h2, hf⟩ := hf
  refine z_sld hX hs h2 dL_law__3159 ?_
  refine z_aload_n hX dL_law__3160 0 rfl ?_
  refine z_iload hX dL_law__3161 4 rfl ?_
  refine z_iconst hX dL_law__3163 ci_3 ?_
  refine z_iadd hX dL_law__3164 ?_
  replace hf := zchk_some hf
  obtain ⟨h3, hf⟩ := hf
  refine z_sld hX hs h3 dL_law__3165 ?_
  refine z_if_eq hX 3173 dL_law__3166 (by decide) (fun h4 => ?_) (fun h4 => ?_)
  · replace hf := zif_pos h4 hf
    refine z_iconst hX dL_law__3173 ci_0 ?_
    refine z_aload_n hX dL_law__3174 3 rfl ?_
    replace hf := zb2_some hf
    obtain ⟨r_5, g5, h5, hf⟩ := hf
    refine z_callW1 hX okw_L_shelves q1427 q1428 (zrm_law hR (by decide) hKa hNa (by omega) (by omega)) (ct_L_shelves h5) dL_law__3175 rfl rfl ?_
    refine z_istore (lv' := [(5, .int r_5), (0, .ref b), (1, .ref (zB X + 0)), (2, .ref (zB X + 493)), (3, .ref (zB X + 508)), (4, .int v4)]) hX dL_law__3178 hn (by decide) rfl ?_
    refine z_aload_n hX dL_law__3180 3 rfl ?_
    refine z_aload_n hX dL_law__3181 1 rfl ?_
    refine z_iload hX dL_law__3182 5 rfl ?_
    refine z_iconst hX dL_law__3184 ci_1 ?_
    refine z_iadd hX dL_law__3185 ?_
    replace hf := zchk_some hf
    obtain ⟨h6, hf⟩ := hf
    refine z_sld hX hs h6 dL_law__3186 ?_
    refine z_aload_n hX dL_law__3187 1 rfl ?_
    refine z_iload hX dL_law__3188 5 rfl ?_
    refine z_iconst hX dL_law__3190 ci_2 ?_
    refine z_iadd hX dL_law__3191 ?_
    replace hf := zchk_some hf
    obtain ⟨h7, hf⟩ := hf
    refine z_sld hX hs h7 dL_law__3192 ?_
    refine z_aload_n hX dL_law__3193 1 rfl ?_
    refine z_iload hX dL_law__3194 5 rfl ?_
    refine z_iconst hX dL_law__3196 ci_3 ?_
    refine z_iadd hX dL_law__3197 ?_
    replace hf := zchk_some hf
    obtain ⟨h8, hf⟩ := hf
    refine z_sld hX hs h8 dL_law__3198 ?_
    refine z_if_eq hX 3206 dL_law__3199 (by decide) (fun h9 => ?_) (fun h9 => ?_)
    · replace hf := zif_pos h9 hf
      refine z_iconst hX dL_law__3206 ci_0 ?_
      replace hf := zb2_some hf
      obtain ⟨r_10, g10, h10, hf⟩ := hf
      refine z_callV1 hX ok_X12_shelves q2111 q2112 q2113 (zrm_law hR (by decide) hKa hNa (by omega) (by omega)) (ct_X12_shelves  h10) (zrec_Model hX zq_493) dL_law__3207 rfl rfl ?_
      refine z_istore (lv' := [(6, .int r_10), (5, .int r_5), (0, .ref b), (1, .ref (zB X + 0)), (2, .ref (zB X + 493)), (3, .ref (zB X + 508)), (4, .int v4)]) hX dL_law__3210 hn (by decide) rfl ?_
      refine z_aload_n hX dL_law__3212 4 rfl ?_
      replace hf := zb_some hf
      obtain ⟨r_11, h11, hf⟩ := hf
      refine z_callV1 hX ok_X12_thrown q1484 q1485 q1486 (zrm_law hR (by decide) hKa hNa (by omega) (by omega)) (ct_X12_thrown  h11) (zrec_Model hX zq_493) dL_law__3213 rfl rfl ?_
      refine z_iload hX dL_law__3216 1 rfl ?_
      refine z_icmp_eq hX 3223 dL_law__3218 (by decide) (fun h12 => ?_) (fun h12 => ?_)
      · replace hf := zif_pos h12 hf
        refine z_iload hX dL_law__3223 1 rfl ?_
        refine z_if_ne hX 3240 dL_law__3225 (by decide) (fun h13 => ?_) (fun h13 => ?_)
        · replace hf := zif_neg h13 hf
          refine z_goto hX 3587 dL_law__3240 (by decide) ?_
          refine zW.sub [2, 3, 4, 5, 6] rfl ?_
          refine zW.widen (k' := K) (n' := N) (by omega) (by omega) ?_
          exact hkk g10 hf
        · replace hf := zif_pos h13 hf
          refine z_aload_n hX dL_law__3228 5 rfl ?_
          refine z_iconst hX dL_law__3229 ci_0 ?_
          replace hf := zchk_some hf
          obtain ⟨h14, hf⟩ := hf
          refine z_lald hX zq_508 h14 dL_law__3230 ?_
          refine z_iload hX dL_law__3231 0 rfl ?_
          refine z_i2l hX dL_law__3233 ?_
          refine z_lcmp hX dL_law__3234 ?_
          refine z_if_eq hX 3240 dL_law__3235 (by decide) (fun h15 => ?_) (fun h15 => ?_)
          · replace hf := zif_pos h15 hf
            refine z_goto hX 3587 dL_law__3240 (by decide) ?_
            refine zW.sub [2, 3, 4, 5, 6] rfl ?_
            refine zW.widen (k' := K) (n' := N) (by omega) (by omega) ?_
            exact hkk g10 hf
          · replace hf := zif_neg h15 hf
            exact zno hf
      · replace hf := zif_neg h12 hf
        exact zno hf
    · replace hf := zif_neg h9 hf
      refine z_iconst hX dL_law__3202 ci_1 ?_
      refine z_goto hX 3207 dL_law__3203 (by decide) ?_
      replace hf := zb2_some hf
      obtain ⟨r_16, g16, h16, hf⟩ := hf
      refine z_callV1 hX ok_X12_shelves q2111 q2112 q2113 (zrm_law hR (by decide) hKa hNa (by omega) (by omega)) (ct_X12_shelves  h16) (zrec_Model hX zq_493) dL_law__3207 rfl rfl ?_
      refine z_istore (lv' := [(6, .int r_16), (5, .int r_5), (0, .ref b), (1, .ref (zB X + 0)), (2, .ref (zB X + 493)), (3, .ref (zB X + 508)), (4, .int v4)]) hX dL_law__3210 hn (by decide) rfl ?_
      refine z_aload_n hX dL_law__3212 4 rfl ?_
      replace hf := zb_some hf
      obtain ⟨r_17, h17, hf⟩ := hf
      refine z_callV1 hX ok_X12_thrown q1484 q1485 q1486 (zrm_law hR (by decide) hKa hNa (by omega) (by omega)) (ct_X12_thrown  h17) (zrec_Model hX zq_493) dL_law__3213 rfl rfl ?_
      refine z_iload hX dL_law__3216 1 rfl ?_
      refine z_icmp_eq hX 3223 dL_law__3218 (by decide) (fun h18 => ?_) (fun h18 => ?_)
      · replace hf := zif_pos h18 hf
        refine z_iload hX dL_law__3223 1 rfl ?_
        refine z_if_ne hX 3240 dL_law__3225 (by decide) (fun h19 => ?_) (fun h19 => ?_)
        · replace hf := zif_neg h19 hf
          refine z_goto hX 3587 dL_law__3240 (by decide) ?_
          refine zW.sub [2, 3, 4, 5, 6] rfl ?_
          refine zW.widen (k' := K) (n' := N) (by omega) (by omega) ?_
          exact hkk g16 hf
        · replace hf := zif_pos h19 hf
          refine z_aload_n hX dL_law__3228 5 rfl ?_
          refine z_iconst hX dL_law__3229 ci_0 ?_
          replace hf := zchk_some hf
          obtain ⟨h20, hf⟩ := hf
          refine z_lald hX zq_508 h20 dL_law__3230 ?_
          refine z_iload hX dL_law__3231 0 rfl ?_
          refine z_i2l hX dL_law__3233 ?_
          refine z_lcmp hX dL_law__3234 ?_
          refine z_if_eq hX 3240 dL_law__3235 (by decide) (fun h21 => ?_) (fun h21 => ?_)
          · replace hf := zif_pos h21 hf
            refine z_goto hX 3587 dL_law__3240 (by decide) ?_
            refine zW.sub [2, 3, 4, 5, 6] rfl ?_
            refine zW.widen (k' := K) (n' := N) (by omega) (by omega) ?_
            exact hkk g16 hf
          · replace hf := zif_neg h21 hf
            exact zno hf
      · replace hf := zif_neg h18 hf
        exact zno hf
  · replace hf := zif_neg h4 hf
    refine z_iconst hX dL_law__3169 ci_1 ?_
    refine z_goto hX 3174 dL_law__3170 (by decide) ?_
    refine z_aload_n hX dL_law__3174 3 rfl ?_
    replace hf := zb2_some hf
    obtain ⟨r_22, g22, h22, hf⟩ := hf
    refine z_callW1 hX okw_L_shelves q1427 q1428 (zrm_law hR (by decide) hKa hNa (by omega) (by omega)) (ct_L_shelves h22) dL_law__3175 rfl rfl ?_
    refine z_istore (lv' := [(5, .int r_22), (0, .ref b), (1, .ref (zB X + 0)), (2, .ref (zB X + 493)), (3, .ref (zB X + 508)), (4, .int v4)]) hX dL_law__3178 hn (by decide) rfl ?_
    refine z_aload_n hX dL_law__3180 3 rfl ?_
    refine z_aload_n hX dL_law__3181 1 rfl ?_
    refine z_iload hX dL_law__3182 5 rfl ?_
    refine z_iconst hX dL_law__3184 ci_1 ?_
    refine z_iadd hX dL_law__3185 ?_
    replace hf := zchk_some hf
    obtain ⟨h23, hf⟩ := hf
    refine z_sld hX hs h23 dL_law__3186 ?_
    refine z_aload_n hX dL_law__3187 1 rfl ?_
    refine z_iload hX dL_law__3188 5 rfl ?_
    refine z_iconst hX dL_law__3190 ci_2 ?_
    refine z_iadd hX dL_law__3191 ?_
    replace hf := zchk_some hf
    obtain ⟨h24, hf⟩ := hf
    refine z_sld hX hs h24 dL_law__3192 ?_
    refine z_aload_n hX dL_law__3193 1 rfl ?_
    refine z_iload hX dL_law__3194 5 rfl ?_
    refine z_iconst hX dL_law__3196 ci_3 ?_
    refine z_iadd hX dL_law__3197 ?_
    replace hf := zchk_some hf
    obtain ⟨h25, hf⟩ := hf
    refine z_sld hX hs h25 dL_law__3198 ?_
    refine z_if_eq hX 3206 dL_law__3199 (by decide) (fun h26 => ?_) (fun h26 => ?_)
    · replace hf := zif_pos h26 hf
      refine z_iconst hX dL_law__3206 ci_0 ?_
      replace hf := zb2_some hf
      obtain ⟨r_27, g27, h27, hf⟩ := hf
      refine z_callV1 hX ok_X12_shelves q2111 q2112 q2113 (zrm_law hR (by decide) hKa hNa (by omega) (by omega)) (ct_X12_shelves  h27) (zrec_Model hX zq_493) dL_law__3207 rfl rfl ?_
      refine z_istore (lv' := [(6, .int r_27), (5, .int r_22), (0, .ref b), (1, .ref (zB X + 0)), (2, .ref (zB X + 493)), (3, .ref (zB X + 508)), (4, .int v4)]) hX dL_law__3210 hn (by decide) rfl ?_
      refine z_aload_n hX dL_law__3212 4 rfl ?_
      replace hf := zb_some hf
      obtain ⟨r_28, h28, hf⟩ := hf
      refine z_callV1 hX ok_X12_thrown q1484 q1485 q1486 (zrm_law hR (by decide) hKa hNa (by omega) (by omega)) (ct_X12_thrown  h28) (zrec_Model hX zq_493) dL_law__3213 rfl rfl ?_
      refine z_iload hX dL_law__3216 1 rfl ?_
      refine z_icmp_eq hX 3223 dL_law__3218 (by decide) (fun h29 => ?_) (fun h29 => ?_)
      · replace hf := zif_pos h29 hf
        refine z_iload hX dL_law__3223 1 rfl ?_
        refine z_if_ne hX 3240 dL_law__3225 (by decide) (fun h30 => ?_) (fun h30 => ?_)
        · replace hf := zif_neg h30 hf
          refine z_goto hX 3587 dL_law__3240 (by decide) ?_
          refine zW.sub [2, 3, 4, 5, 6] rfl ?_
          refine zW.widen (k' := K) (n' := N) (by omega) (by omega) ?_
          exact hkk g27 hf
        · replace hf := zif_pos h30 hf
          refine z_aload_n hX dL_law__3228 5 rfl ?_
          refine z_iconst hX dL_law__3229 ci_0 ?_
          replace hf := zchk_some hf
          obtain ⟨h31, hf⟩ := hf
          refine z_lald hX zq_508 h31 dL_law__3230 ?_
          refine z_iload hX dL_law__3231 0 rfl ?_
          refine z_i2l hX dL_law__3233 ?_
          refine z_lcmp hX dL_law__3234 ?_
          refine z_if_eq hX 3240 dL_law__3235 (by decide) (fun h32 => ?_) (fun h32 => ?_)
          · replace hf := zif_pos h32 hf
            refine z_goto hX 3587 dL_law__3240 (by decide) ?_
            refine zW.sub [2, 3, 4, 5, 6] rfl ?_
            refine zW.widen (k' := K) (n' := N) (by omega) (by omega) ?_
            exact hkk g27 hf
          · replace hf := zif_neg h32 hf
            exact zno hf
      · replace hf := zif_neg h29 hf
        exact zno hf
    · replace hf := zif_neg h26 hf
      refine z_iconst hX dL_law__3202 ci_1 ?_
      refine z_goto hX 3207 dL_law__3203 (by decide) ?_
      replace hf := zb2_some hf
      obtain ⟨r_33, g33, h33, hf⟩ := hf
      refine z_callV1 hX ok_X12_shelves q2111 q2112 q2113 (zrm_law hR (by decide) hKa hNa (by omega) (by omega)) (ct_X12_shelves  h33) (zrec_Model hX zq_493) dL_law__3207 rfl rfl ?_
      refine z_istore (lv' := [(6, .int r_33), (5, .int r_22), (0, .ref b), (1, .ref (zB X + 0)), (2, .ref (zB X + 493)), (3, .ref (zB X + 508)), (4, .int v4)]) hX dL_law__3210 hn (by decide) rfl ?_
      refine z_aload_n hX dL_law__3212 4 rfl ?_
      replace hf := zb_some hf
      obtain ⟨r_34, h34, hf⟩ := hf
      refine z_callV1 hX ok_X12_thrown q1484 q1485 q1486 (zrm_law hR (by decide) hKa hNa (by omega) (by omega)) (ct_X12_thrown  h34) (zrec_Model hX zq_493) dL_law__3213 rfl rfl ?_
      refine z_iload hX dL_law__3216 1 rfl ?_
      refine z_icmp_eq hX 3223 dL_law__3218 (by decide) (fun h35 => ?_) (fun h35 => ?_)
      · replace hf := zif_pos h35 hf
        refine z_iload hX dL_law__3223 1 rfl ?_
        refine z_if_ne hX 3240 dL_law__3225 (by decide) (fun h36 => ?_) (fun h36 => ?_)
        · replace hf := zif_neg h36 hf
          refine z_goto hX 3587 dL_law__3240 (by decide) ?_
          refine zW.sub [2, 3, 4, 5, 6] rfl ?_
          refine zW.widen (k' := K) (n' := N) (by omega) (by omega) ?_
          exact hkk g33 hf
        · replace hf := zif_pos h36 hf
          refine z_aload_n hX dL_law__3228 5 rfl ?_
          refine z_iconst hX dL_law__3229 ci_0 ?_
          replace hf := zchk_some hf
          obtain ⟨h37, hf⟩ := hf
          refine z_lald hX zq_508 h37 dL_law__3230 ?_
          refine z_iload hX dL_law__3231 0 rfl ?_
          refine z_i2l hX dL_law__3233 ?_
          refine z_lcmp hX dL_law__3234 ?_
          refine z_if_eq hX 3240 dL_law__3235 (by decide) (fun h38 => ?_) (fun h38 => ?_)
          · replace hf := zif_pos h38 hf
            refine z_goto hX 3587 dL_law__3240 (by decide) ?_
            refine zW.sub [2, 3, 4, 5, 6] rfl ?_
            refine zW.widen (k' := K) (n' := N) (by omega) (by omega) ?_
            exact hkk g33 hf
          · replace hf := zif_neg h38 hf
            exact zno hf
      · replace hf := zif_neg h35 hf
        exact zno hf
def fLc_44 (L : Nat) (xs : Nat → Int32) (kk : zM → Option Unit) (v4 : Int32) (g : zM) : Option Unit := zchk (v4 + 1) L (zchk (v4 + 2) L (zchk (v4 + 3) L (zb2 (fL_tempers (xs (v4 + 1).toNatClampNeg) (xs (v4 + 2).toNatClampNeg) (xs (v4 + 3).toNatClampNeg) g) (fun r_4 g4 => zchk (v4 + 1) L (zchk (v4 + 2) L (zchk (v4 + 3) L (zb2 (fX12_tempers (xs (v4 + 1).toNatClampNeg) (xs (v4 + 2).toNatClampNeg) (xs (v4 + 3).toNatClampNeg) g4) (fun r_8 g8 => zb (fX12_thrown g8) (fun r_9 => if r_9 = r_4 then if r_4 = 0 then zchk 0 1 (if (lg_cmp ((g8 508 (0 : Int32).toNatClampNeg).toInt64) r_8.toInt64) = 0 then kk g8 else none) else kk g8 else none)))))))))
set_option maxHeartbeats 4000000 in
set_option maxRecDepth 100000 in
theorem fLc_44_ok {X : zX} (hX : zCX X cL_law_ RL) (hR : X.2.2.2.1 = room_1) (hn : X.2.2.2.2.2.2.2.2.2.1.maxLocals = 7) {b L : Nat} {xs : Nat → Int32} (hs : zSc X b L xs) {Q : State → Prop} {k n K N : Nat} (hKa : K ≤ 601024) (hNa : N ≤ 7293034) (hKb : k + 12 ≤ K) (hNb : n + 72 ≤ N) {kk : zM → Option Unit} {v4 : Int32} {g : zM} {r : Unit} (hkk : ∀ g, kk g = some r → zW X Q K N 3587 [(0, .ref b), (1, .ref (zB X + 0)), (2, .ref (zB X + 493)), (3, .ref (zB X + 508)), (4, .int v4)] [] g) (hf : fLc_44 L xs kk v4 g = some r) : zW X Q k n 3243 [(0, .ref b), (1, .ref (zB X + 0)), (2, .ref (zB X + 493)), (3, .ref (zB X + 508)), (4, .int v4)] [] g := by
  unfold fLc_44 at hf
  refine z_aload_n hX dL_law__3243 1 rfl ?_
  refine z_aload_n hX dL_law__3244 0 rfl ?_
  refine z_iload hX dL_law__3245 4 rfl ?_
  refine z_iconst hX dL_law__3247 ci_1 ?_
  refine z_iadd hX dL_law__3248 ?_
  replace hf := zchk_some hf
  obtain ⟨h1, hf⟩ := hf
  refine z_sld hX hs h1 dL_law__3249 ?_
  refine z_aload_n hX dL_law__3250 0 rfl ?_
  refine z_iload hX dL_law__3251 4 rfl ?_
  refine z_iconst hX dL_law__3253 ci_2 ?_
  refine z_iadd hX dL_law__3254 ?_
  replace hf := zchk_some hf
  obtain ⟨h2, hf⟩ := hf
  refine z_sld hX hs h2 dL_law__3255 ?_
  refine z_aload_n hX dL_law__3256 0 rfl ?_
  refine z_iload hX dL_law__3257 4 rfl ?_
  refine z_iconst hX dL_law__3259 ci_3 ?_
  refine z_iadd hX dL_law__3260 ?_
  replace hf := zchk_some hf
  obtain ⟨h3, hf⟩ := hf
  refine z_sld hX hs h3 dL_law__3261 ?_
  refine z_aload_n hX dL_law__3262 3 rfl ?_
  replace hf := zb2_some hf
  obtain ⟨r_4, g4, h4, hf⟩ := hf
  refine z_callW1 hX okw_L_tempers q1453 q1454 (zrm_law hR (by decide) hKa hNa (by omega) (by omega)) (ct_L_tempers h4) dL_law__3263 rfl rfl ?_
  refine z_istore (lv' := [(5, .int r_4), (0, .ref b), (1, .ref (zB X + 0)), (2, .ref (zB X + 493)), (3, .ref (zB X + 508)), (4, .int v4)]) hX dL_law__3266 hn (by decide) rfl ?_
  refine z_aload_n hX dL_law__3268 3 rfl ?_
  refine z_aload_n hX dL_law__3269 1 rfl ?_
  refine z_iload hX dL_law__3270 5 rfl ?_
  refine z_iconst hX dL_law__3272 ci_1 ?_
  refine z_iadd hX dL_law__3273 ?_
  replace hf := zchk_some hf
  obtain ⟨h5, hf⟩ := hf
  refine z_sld hX hs h5 dL_law__3274 ?_
  refine z_aload_n hX dL_law__3275 1 rfl ?_
  refine z_iload hX dL_law__3276 5 rfl ?_
  refine z_iconst hX dL_law__3278 ci_2 ?_
  refine z_iadd hX dL_law__3279 ?_
  replace hf := zchk_some hf
  obtain ⟨h6, hf⟩ := hf
  refine z_sld hX hs h6 dL_law__3280 ?_
  refine z_aload_n hX dL_law__3281 1 rfl ?_
  refine z_iload hX dL_law__3282 5 rfl ?_
  refine z_iconst hX dL_law__3284 ci_3 ?_
  refine z_iadd hX dL_law__3285 ?_
  replace hf := zchk_some hf
  obtain ⟨h7, hf⟩ := hf
  refine z_sld hX hs h7 dL_law__3286 ?_
  replace hf := zb2_some hf
  obtain ⟨r_8, g8, h8, hf⟩ := hf
  refine z_callV1 hX ok_X12_tempers q2126 q2127 q2128 (zrm_law hR (by decide) hKa hNa (by omega) (by omega)) (ct_X12_tempers  h8) (zrec_Model hX zq_493) dL_law__3287 rfl rfl ?_
  refine z_istore (lv' := [(6, .int r_8), (5, .int r_4), (0, .ref b), (1, .ref (zB X + 0)), (2, .ref (zB X + 493)), (3, .ref (zB X + 508)), (4, .int v4)]) hX dL_law__3290 hn (by decide) rfl ?_
  refine z_aload_n hX dL_law__3292 4 rfl ?_
  replace hf := zb_some hf
  obtain ⟨r_9, h9, hf⟩ := hf
  refine z_callV1 hX ok_X12_thrown q1484 q1485 q1486 (zrm_law hR (by decide) hKa hNa (by omega) (by omega)) (ct_X12_thrown  h9) (zrec_Model hX zq_493) dL_law__3293 rfl rfl ?_
  refine z_iload hX dL_law__3296 1 rfl ?_
  refine z_icmp_eq hX 3303 dL_law__3298 (by decide) (fun h10 => ?_) (fun h10 => ?_)
  · replace hf := zif_pos h10 hf
    refine z_iload hX dL_law__3303 1 rfl ?_
    refine z_if_ne hX 3320 dL_law__3305 (by decide) (fun h11 => ?_) (fun h11 => ?_)
    · replace hf := zif_neg h11 hf
      refine z_goto hX 3587 dL_law__3320 (by decide) ?_
      refine zW.sub [2, 3, 4, 5, 6] rfl ?_
      refine zW.widen (k' := K) (n' := N) (by omega) (by omega) ?_
      exact hkk g8 hf
    · replace hf := zif_pos h11 hf
      refine z_aload_n hX dL_law__3308 5 rfl ?_
      refine z_iconst hX dL_law__3309 ci_0 ?_
      replace hf := zchk_some hf
      obtain ⟨h12, hf⟩ := hf
      refine z_lald hX zq_508 h12 dL_law__3310 ?_
      refine z_iload hX dL_law__3311 0 rfl ?_
      refine z_i2l hX dL_law__3313 ?_
      refine z_lcmp hX dL_law__3314 ?_
      refine z_if_eq hX 3320 dL_law__3315 (by decide) (fun h13 => ?_) (fun h13 => ?_)
      · replace hf := zif_pos h13 hf
        refine z_goto hX 3587 dL_law__3320 (by decide) ?_
        refine zW.sub [2, 3, 4, 5, 6] rfl ?_
        refine zW.widen (k' := K) (n' := N) (by omega) (by omega) ?_
        exact hkk g8 hf
      · replace hf := zif_neg h13 hf
        exact zno hf
  · replace hf := zif_neg h10 hf
    exact zno hf
def fLc_45 (L : Nat) (xs : Nat → Int32) (kk : zM → Option Unit) (v4 : Int32) (g : zM) : Option Unit := zchk (v4 + 1) L (zchk (v4 + 2) L (zb2 (fL_trial (xs (v4 + 1).toNatClampNeg) (xs (v4 + 2).toNatClampNeg) g) (fun r_3 g3 => zchk (v4 + 1) L (zchk (v4 + 2) L (zb2 (fX12_trial (xs (v4 + 1).toNatClampNeg) (xs (v4 + 2).toNatClampNeg) g3) (fun r_6 g6 => zb (fX12_thrown g6) (fun r_7 => if r_7 = r_3 then if r_3 = 0 then zchk 0 1 (if (lg_cmp ((g6 508 (0 : Int32).toNatClampNeg).toInt64) r_6.toInt64) = 0 then kk g6 else none) else kk g6 else none)))))))
set_option maxHeartbeats 4000000 in
set_option maxRecDepth 100000 in
theorem fLc_45_ok {X : zX} (hX : zCX X cL_law_ RL) (hR : X.2.2.2.1 = room_1) (hn : X.2.2.2.2.2.2.2.2.2.1.maxLocals = 7) {b L : Nat} {xs : Nat → Int32} (hs : zSc X b L xs) {Q : State → Prop} {k n K N : Nat} (hKa : K ≤ 601024) (hNa : N ≤ 7293034) (hKb : k + 12 ≤ K) (hNb : n + 72 ≤ N) {kk : zM → Option Unit} {v4 : Int32} {g : zM} {r : Unit} (hkk : ∀ g, kk g = some r → zW X Q K N 3587 [(0, .ref b), (1, .ref (zB X + 0)), (2, .ref (zB X + 493)), (3, .ref (zB X + 508)), (4, .int v4)] [] g) (hf : fLc_45 L xs kk v4 g = some r) : zW X Q k n 3323 [(0, .ref b), (1, .ref (zB X + 0)), (2, .ref (zB X + 493)), (3, .ref (zB X + 508)), (4, .int v4)] [] g := by
  unfold fLc_45 at hf
  refine z_aload_n hX dL_law__3323 1 rfl ?_
  refine z_aload_n hX dL_law__3324 0 rfl ?_
  refine z_iload hX dL_law__3325 4 rfl ?_
  refine z_iconst hX dL_law__3327 ci_1 ?_
  refine z_iadd hX dL_law__3328 ?_
  replace hf := zchk_some hf
  obtain ⟨h1, hf⟩ := hf
  refine z_sld hX hs h1 dL_law__3329 ?_
  refine z_aload_n hX dL_law__3330 0 rfl ?_
  refine z_iload hX dL_law__3331 4 rfl ?_
  refine z_iconst hX dL_law__3333 ci_2 ?_
  refine z_iadd hX dL_law__3334 ?_
  replace hf := zchk_some hf
  obtain ⟨h2, hf⟩ := hf
  refine z_sld hX hs h2 dL_law__3335 ?_
  refine z_aload_n hX dL_law__3336 3 rfl ?_
  replace hf := zb2_some hf
  obtain ⟨r_3, g3, h3, hf⟩ := hf
  refine z_callW1 hX okw_L_trial q1464 q1465 (zrm_law hR (by decide) hKa hNa (by omega) (by omega)) (ct_L_trial h3) dL_law__3337 rfl rfl ?_
  refine z_istore (lv' := [(5, .int r_3), (0, .ref b), (1, .ref (zB X + 0)), (2, .ref (zB X + 493)), (3, .ref (zB X + 508)), (4, .int v4)]) hX dL_law__3340 hn (by decide) rfl ?_
  refine z_aload_n hX dL_law__3342 3 rfl ?_
  refine z_aload_n hX dL_law__3343 1 rfl ?_
  refine z_iload hX dL_law__3344 5 rfl ?_
  refine z_iconst hX dL_law__3346 ci_1 ?_
  refine z_iadd hX dL_law__3347 ?_
  replace hf := zchk_some hf
  obtain ⟨h4, hf⟩ := hf
  refine z_sld hX hs h4 dL_law__3348 ?_
  refine z_aload_n hX dL_law__3349 1 rfl ?_
  refine z_iload hX dL_law__3350 5 rfl ?_
  refine z_iconst hX dL_law__3352 ci_2 ?_
  refine z_iadd hX dL_law__3353 ?_
  replace hf := zchk_some hf
  obtain ⟨h5, hf⟩ := hf
  refine z_sld hX hs h5 dL_law__3354 ?_
  replace hf := zb2_some hf
  obtain ⟨r_6, g6, h6, hf⟩ := hf
  refine z_callV1 hX ok_X12_trial q2130 q2131 q2132 (zrm_law hR (by decide) hKa hNa (by omega) (by omega)) (ct_X12_trial  h6) (zrec_Model hX zq_493) dL_law__3355 rfl rfl ?_
  refine z_istore (lv' := [(6, .int r_6), (5, .int r_3), (0, .ref b), (1, .ref (zB X + 0)), (2, .ref (zB X + 493)), (3, .ref (zB X + 508)), (4, .int v4)]) hX dL_law__3358 hn (by decide) rfl ?_
  refine z_aload_n hX dL_law__3360 4 rfl ?_
  replace hf := zb_some hf
  obtain ⟨r_7, h7, hf⟩ := hf
  refine z_callV1 hX ok_X12_thrown q1484 q1485 q1486 (zrm_law hR (by decide) hKa hNa (by omega) (by omega)) (ct_X12_thrown  h7) (zrec_Model hX zq_493) dL_law__3361 rfl rfl ?_
  refine z_iload hX dL_law__3364 1 rfl ?_
  refine z_icmp_eq hX 3371 dL_law__3366 (by decide) (fun h8 => ?_) (fun h8 => ?_)
  · replace hf := zif_pos h8 hf
    refine z_iload hX dL_law__3371 1 rfl ?_
    refine z_if_ne hX 3388 dL_law__3373 (by decide) (fun h9 => ?_) (fun h9 => ?_)
    · replace hf := zif_neg h9 hf
      refine z_goto hX 3587 dL_law__3388 (by decide) ?_
      refine zW.sub [2, 3, 4, 5, 6] rfl ?_
      refine zW.widen (k' := K) (n' := N) (by omega) (by omega) ?_
      exact hkk g6 hf
    · replace hf := zif_pos h9 hf
      refine z_aload_n hX dL_law__3376 5 rfl ?_
      refine z_iconst hX dL_law__3377 ci_0 ?_
      replace hf := zchk_some hf
      obtain ⟨h10, hf⟩ := hf
      refine z_lald hX zq_508 h10 dL_law__3378 ?_
      refine z_iload hX dL_law__3379 0 rfl ?_
      refine z_i2l hX dL_law__3381 ?_
      refine z_lcmp hX dL_law__3382 ?_
      refine z_if_eq hX 3388 dL_law__3383 (by decide) (fun h11 => ?_) (fun h11 => ?_)
      · replace hf := zif_pos h11 hf
        refine z_goto hX 3587 dL_law__3388 (by decide) ?_
        refine zW.sub [2, 3, 4, 5, 6] rfl ?_
        refine zW.widen (k' := K) (n' := N) (by omega) (by omega) ?_
        exact hkk g6 hf
      · replace hf := zif_neg h11 hf
        exact zno hf
  · replace hf := zif_neg h8 hf
    exact zno hf
def fLc_46 (L : Nat) (xs : Nat → Int32) (kk : zM → Option Unit) (v4 : Int32) (g : zM) : Option Unit := zchk (v4 + 1) L (zchk (v4 + 2) L (if (xs (v4 + 2).toNatClampNeg) = 0 then zb2 (fL_span (xs (v4 + 1).toNatClampNeg) 0 g) (fun r_4 g4 => zchk (v4 + 1) L (zchk (v4 + 2) L (if (xs (v4 + 2).toNatClampNeg) = 0 then zb2 (fX12_span (xs (v4 + 1).toNatClampNeg) 0 g4) (fun r_8 g8 => zb (fX12_thrown g8) (fun r_9 => if r_9 = r_4 then if r_4 = 0 then zchk 0 1 (if (lg_cmp ((g8 508 (0 : Int32).toNatClampNeg).toInt64) r_8.toInt64) = 0 then kk g8 else none) else kk g8 else none)) else zb2 (fX12_span (xs (v4 + 1).toNatClampNeg) 1 g4) (fun r_14 g14 => zb (fX12_thrown g14) (fun r_15 => if r_15 = r_4 then if r_4 = 0 then zchk 0 1 (if (lg_cmp ((g14 508 (0 : Int32).toNatClampNeg).toInt64) r_14.toInt64) = 0 then kk g14 else none) else kk g14 else none))))) else zb2 (fL_span (xs (v4 + 1).toNatClampNeg) 1 g) (fun r_20 g20 => zchk (v4 + 1) L (zchk (v4 + 2) L (if (xs (v4 + 2).toNatClampNeg) = 0 then zb2 (fX12_span (xs (v4 + 1).toNatClampNeg) 0 g20) (fun r_24 g24 => zb (fX12_thrown g24) (fun r_25 => if r_25 = r_20 then if r_20 = 0 then zchk 0 1 (if (lg_cmp ((g24 508 (0 : Int32).toNatClampNeg).toInt64) r_24.toInt64) = 0 then kk g24 else none) else kk g24 else none)) else zb2 (fX12_span (xs (v4 + 1).toNatClampNeg) 1 g20) (fun r_30 g30 => zb (fX12_thrown g30) (fun r_31 => if r_31 = r_20 then if r_20 = 0 then zchk 0 1 (if (lg_cmp ((g30 508 (0 : Int32).toNatClampNeg).toInt64) r_30.toInt64) = 0 then kk g30 else none) else kk g30 else none)))))))
set_option maxHeartbeats 4000000 in
set_option maxRecDepth 100000 in
theorem fLc_46_ok {X : zX} (hX : zCX X cL_law_ RL) (hR : X.2.2.2.1 = room_1) (hn : X.2.2.2.2.2.2.2.2.2.1.maxLocals = 7) {b L : Nat} {xs : Nat → Int32} (hs : zSc X b L xs) {Q : State → Prop} {k n K N : Nat} (hKa : K ≤ 601024) (hNa : N ≤ 7293034) (hKb : k + 12 ≤ K) (hNb : n + 72 ≤ N) {kk : zM → Option Unit} {v4 : Int32} {g : zM} {r : Unit} (hkk : ∀ g, kk g = some r → zW X Q K N 3587 [(0, .ref b), (1, .ref (zB X + 0)), (2, .ref (zB X + 493)), (3, .ref (zB X + 508)), (4, .int v4)] [] g) (hf : fLc_46 L xs kk v4 g = some r) : zW X Q k n 3391 [(0, .ref b), (1, .ref (zB X + 0)), (2, .ref (zB X + 493)), (3, .ref (zB X + 508)), (4, .int v4)] [] g := by
  unfold fLc_46 at hf
  refine z_aload_n hX dL_law__3391 1 rfl ?_
  refine z_aload_n hX dL_law__3392 0 rfl ?_
  refine z_iload hX dL_law__3393 4 rfl ?_
  refine z_iconst hX dL_law__3395 ci_1 ?_
  refine z_iadd hX dL_law__3396 ?_
  replace hf := zchk_some hf
  obtain ⟨h1, hf⟩ := hf
  refine z_sld hX hs h1 dL_law__3397 ?_
  refine z_aload_n hX dL_law__3398 0 rfl ?_
  refine z_iload hX dL_law__3399 4 rfl ?_
  refine z_iconst hX dL_law__3401 ci_2 ?_
  refine z_iadd hX dL_law__3402 ?_
  replace hf := zchk_some hf
  obtain ⟨h2, hf⟩ := hf
  refine z_sld hX hs h2 dL_law__3403 ?_
  refine z_if_eq hX 3411 dL_law__3404 (by decide) (fun h3 => ?_) (fun h3 => ?_)
  · replace hf := zif_pos h3 hf
    refine z_iconst hX dL_law__3411 ci_0 ?_
    refine z_aload_n hX dL_law__3412 3 rfl ?_
    replace hf := zb2_some hf
    obtain ⟨r_4, g4, h4, hf⟩ := hf
    refine z_callW1 hX okw_L_span q1476 q1477 (zrm_law hR (by decide) hKa hNa (by omega) (by omega)) (ct_L_span h4) dL_law__3413 rfl rfl ?_
    refine z_istore (lv' := [(5, .int r_4), (0, .ref b), (1, .ref (zB X + 0)), (2, .ref (zB X + 493)), (3, .ref (zB X + 508)), (4, .int v4)]) hX dL_law__3416 hn (by decide) rfl ?_
    refine z_aload_n hX dL_law__3418 3 rfl ?_
    refine z_aload_n hX dL_law__3419 1 rfl ?_
    refine z_iload hX dL_law__3420 5 rfl ?_
    refine z_iconst hX dL_law__3422 ci_1 ?_
    refine z_iadd hX dL_law__3423 ?_
    replace hf := zchk_some hf
    obtain ⟨h5, hf⟩ := hf
    refine z_sld hX hs h5 dL_law__3424 ?_
    refine z_aload_n hX dL_law__3425 1 rfl ?_
    refine z_iload hX dL_law__3426 5 rfl ?_
    refine z_iconst hX dL_law__3428 ci_2 ?_
    refine z_iadd hX dL_law__3429 ?_
    replace hf := zchk_some hf
    obtain ⟨h6, hf⟩ := hf
    refine z_sld hX hs h6 dL_law__3430 ?_
    refine z_if_eq hX 3438 dL_law__3431 (by decide) (fun h7 => ?_) (fun h7 => ?_)
    · replace hf := zif_pos h7 hf
      refine z_iconst hX dL_law__3438 ci_0 ?_
      replace hf := zb2_some hf
      obtain ⟨r_8, g8, h8, hf⟩ := hf
      refine z_callV1 hX ok_X12_span q2146 q2147 q2148 (zrm_law hR (by decide) hKa hNa (by omega) (by omega)) (ct_X12_span  h8) (zrec_Model hX zq_493) dL_law__3439 rfl rfl ?_
      refine z_istore (lv' := [(6, .int r_8), (5, .int r_4), (0, .ref b), (1, .ref (zB X + 0)), (2, .ref (zB X + 493)), (3, .ref (zB X + 508)), (4, .int v4)]) hX dL_law__3442 hn (by decide) rfl ?_
      refine z_aload_n hX dL_law__3444 4 rfl ?_
      replace hf := zb_some hf
      obtain ⟨r_9, h9, hf⟩ := hf
      refine z_callV1 hX ok_X12_thrown q1484 q1485 q1486 (zrm_law hR (by decide) hKa hNa (by omega) (by omega)) (ct_X12_thrown  h9) (zrec_Model hX zq_493) dL_law__3445 rfl rfl ?_
      refine z_iload hX dL_law__3448 1 rfl ?_
      refine z_icmp_eq hX 3455 dL_law__3450 (by decide) (fun h10 => ?_) (fun h10 => ?_)
      · replace hf := zif_pos h10 hf
        refine z_iload hX dL_law__3455 1 rfl ?_
        refine z_if_ne hX 3472 dL_law__3457 (by decide) (fun h11 => ?_) (fun h11 => ?_)
        · replace hf := zif_neg h11 hf
          refine z_goto hX 3587 dL_law__3472 (by decide) ?_
          refine zW.sub [2, 3, 4, 5, 6] rfl ?_
          refine zW.widen (k' := K) (n' := N) (by omega) (by omega) ?_
          exact hkk g8 hf
        · replace hf := zif_pos h11 hf
          refine z_aload_n hX dL_law__3460 5 rfl ?_
          refine z_iconst hX dL_law__3461 ci_0 ?_
          replace hf := zchk_some hf
          obtain ⟨h12, hf⟩ := hf
          refine z_lald hX zq_508 h12 dL_law__3462 ?_
          refine z_iload hX dL_law__3463 0 rfl ?_
          refine z_i2l hX dL_law__3465 ?_
          refine z_lcmp hX dL_law__3466 ?_
          refine z_if_eq hX 3472 dL_law__3467 (by decide) (fun h13 => ?_) (fun h13 => ?_)
          · replace hf := zif_pos h13 hf
            refine z_goto hX 3587 dL_law__3472 (by decide) ?_
            refine zW.sub [2, 3, 4, 5, 6] rfl ?_
            refine zW.widen (k' := K) (n' := N) (by omega) (by omega) ?_
            exact hkk g8 hf
          · replace hf := zif_neg h13 hf
            exact zno hf
      · replace hf := zif_neg h10 hf
        exact zno hf
    · replace hf := zif_neg h7 hf
      refine z_iconst hX dL_law__3434 ci_1 ?_
      refine z_goto hX 3439 dL_law__3435 (by decide) ?_
      replace hf := zb2_some hf
      obtain ⟨r_14, g14, h14, hf⟩ := hf
      refine z_callV1 hX ok_X12_span q2146 q2147 q2148 (zrm_law hR (by decide) hKa hNa (by omega) (by omega)) (ct_X12_span  h14) (zrec_Model hX zq_493) dL_law__3439 rfl rfl ?_
      refine z_istore (lv' := [(6, .int r_14), (5, .int r_4), (0, .ref b), (1, .ref (zB X + 0)), (2, .ref (zB X + 493)), (3, .ref (zB X + 508)), (4, .int v4)]) hX dL_law__3442 hn (by decide) rfl ?_
      refine z_aload_n hX dL_law__3444 4 rfl ?_
      replace hf := zb_some hf
      obtain ⟨r_15, h15, hf⟩ := hf
      refine z_callV1 hX ok_X12_thrown q1484 q1485 q1486 (zrm_law hR (by decide) hKa hNa (by omega) (by omega)) (ct_X12_thrown  h15) (zrec_Model hX zq_493) dL_law__3445 rfl rfl ?_
      refine z_iload hX dL_law__3448 1 rfl ?_
      refine z_icmp_eq hX 3455 dL_law__3450 (by decide) (fun h16 => ?_) (fun h16 => ?_)
      · replace hf := zif_pos h16 hf
        refine z_iload hX dL_law__3455 1 rfl ?_
        refine z_if_ne hX 3472 dL_law__3457 (by decide) (fun h17 => ?_) (fun h17 => ?_)
        · replace hf := zif_neg h17 hf
          refine z_goto hX 3587 dL_law__3472 (by decide) ?_
          refine zW.sub [2, 3, 4, 5, 6] rfl ?_
          refine zW.widen (k' := K) (n' := N) (by omega) (by omega) ?_
          exact hkk g14 hf
        · replace hf := zif_pos h17 hf
          refine z_aload_n hX dL_law__3460 5 rfl ?_
          refine z_iconst hX dL_law__3461 ci_0 ?_
          replace hf := zchk_some hf
          obtain ⟨h18, hf⟩ := hf
          refine z_lald hX zq_508 h18 dL_law__3462 ?_
          refine z_iload hX dL_law__3463 0 rfl ?_
          refine z_i2l hX dL_law__3465 ?_
          refine z_lcmp hX dL_law__3466 ?_
          refine z_if_eq hX 3472 dL_law__3467 (by decide) (fun h19 => ?_) (fun h19 => ?_)
          · replace hf := zif_pos h19 hf
            refine z_goto hX 3587 dL_law__3472 (by decide) ?_
            refine zW.sub [2, 3, 4, 5, 6] rfl ?_
            refine zW.widen (k' := K) (n' := N) (by omega) (by omega) ?_
            exact hkk g14 hf
          · replace hf := zif_neg h19 hf
            exact zno hf
      · replace hf := zif_neg h16 hf
        exact zno hf
  · replace hf := zif_neg h3 hf
    refine z_iconst hX dL_law__3407 ci_1 ?_
    refine z_goto hX 3412 dL_law__3408 (by decide) ?_
    refine z_aload_n hX dL_law__3412 3 rfl ?_
    replace hf := zb2_some hf
    obtain ⟨r_20, g20, h20, hf⟩ := hf
    refine z_callW1 hX okw_L_span q1476 q1477 (zrm_law hR (by decide) hKa hNa (by omega) (by omega)) (ct_L_span h20) dL_law__3413 rfl rfl ?_
    refine z_istore (lv' := [(5, .int r_20), (0, .ref b), (1, .ref (zB X + 0)), (2, .ref (zB X + 493)), (3, .ref (zB X + 508)), (4, .int v4)]) hX dL_law__3416 hn (by decide) rfl ?_
    refine z_aload_n hX dL_law__3418 3 rfl ?_
    refine z_aload_n hX dL_law__3419 1 rfl ?_
    refine z_iload hX dL_law__3420 5 rfl ?_
    refine z_iconst hX dL_law__3422 ci_1 ?_
    refine z_iadd hX dL_law__3423 ?_
    replace hf := zchk_some hf
    obtain ⟨h21, hf⟩ := hf
    refine z_sld hX hs h21 dL_law__3424 ?_
    refine z_aload_n hX dL_law__3425 1 rfl ?_
    refine z_iload hX dL_law__3426 5 rfl ?_
    refine z_iconst hX dL_law__3428 ci_2 ?_
    refine z_iadd hX dL_law__3429 ?_
    replace hf := zchk_some hf
    obtain ⟨h22, hf⟩ := hf
    refine z_sld hX hs h22 dL_law__3430 ?_
    refine z_if_eq hX 3438 dL_law__3431 (by decide) (fun h23 => ?_) (fun h23 => ?_)
    · replace hf := zif_pos h23 hf
      refine z_iconst hX dL_law__3438 ci_0 ?_
      replace hf := zb2_some hf
      obtain ⟨r_24, g24, h24, hf⟩ := hf
      refine z_callV1 hX ok_X12_span q2146 q2147 q2148 (zrm_law hR (by decide) hKa hNa (by omega) (by omega)) (ct_X12_span  h24) (zrec_Model hX zq_493) dL_law__3439 rfl rfl ?_
      refine z_istore (lv' := [(6, .int r_24), (5, .int r_20), (0, .ref b), (1, .ref (zB X + 0)), (2, .ref (zB X + 493)), (3, .ref (zB X + 508)), (4, .int v4)]) hX dL_law__3442 hn (by decide) rfl ?_
      refine z_aload_n hX dL_law__3444 4 rfl ?_
      replace hf := zb_some hf
      obtain ⟨r_25, h25, hf⟩ := hf
      refine z_callV1 hX ok_X12_thrown q1484 q1485 q1486 (zrm_law hR (by decide) hKa hNa (by omega) (by omega)) (ct_X12_thrown  h25) (zrec_Model hX zq_493) dL_law__3445 rfl rfl ?_
      refine z_iload hX dL_law__3448 1 rfl ?_
      refine z_icmp_eq hX 3455 dL_law__3450 (by decide) (fun h26 => ?_) (fun h26 => ?_)
      · replace hf := zif_pos h26 hf
        refine z_iload hX dL_law__3455 1 rfl ?_
        refine z_if_ne hX 3472 dL_law__3457 (by decide) (fun h27 => ?_) (fun h27 => ?_)
        · replace hf := zif_neg h27 hf
          refine z_goto hX 3587 dL_law__3472 (by decide) ?_
          refine zW.sub [2, 3, 4, 5, 6] rfl ?_
          refine zW.widen (k' := K) (n' := N) (by omega) (by omega) ?_
          exact hkk g24 hf
        · replace hf := zif_pos h27 hf
          refine z_aload_n hX dL_law__3460 5 rfl ?_
          refine z_iconst hX dL_law__3461 ci_0 ?_
          replace hf := zchk_some hf
          obtain ⟨h28, hf⟩ := hf
          refine z_lald hX zq_508 h28 dL_law__3462 ?_
          refine z_iload hX dL_law__3463 0 rfl ?_
          refine z_i2l hX dL_law__3465 ?_
          refine z_lcmp hX dL_law__3466 ?_
          refine z_if_eq hX 3472 dL_law__3467 (by decide) (fun h29 => ?_) (fun h29 => ?_)
          · replace hf := zif_pos h29 hf
            refine z_goto hX 3587 dL_law__3472 (by decide) ?_
            refine zW.sub [2, 3, 4, 5, 6] rfl ?_
            refine zW.widen (k' := K) (n' := N) (by omega) (by omega) ?_
            exact hkk g24 hf
          · replace hf := zif_neg h29 hf
            exact zno hf
      · replace hf := zif_neg h26 hf
        exact zno hf
    · replace hf := zif_neg h23 hf
      refine z_iconst hX dL_law__3434 ci_1 ?_
      refine z_goto hX 3439 dL_law__3435 (by decide) ?_
      replace hf := zb2_some hf
      obtain ⟨r_30, g30, h30, hf⟩ := hf
      refine z_callV1 hX ok_X12_span q2146 q2147 q2148 (zrm_law hR (by decide) hKa hNa (by omega) (by omega)) (ct_X12_span  h30) (zrec_Model hX zq_493) dL_law__3439 rfl rfl ?_
      refine z_istore (lv' := [(6, .int r_30), (5, .int r_20), (0, .ref b), (1, .ref (zB X + 0)), (2, .ref (zB X + 493)), (3, .ref (zB X + 508)), (4, .int v4)]) hX dL_law__3442 hn (by decide) rfl ?_
      refine z_aload_n hX dL_law__3444 4 rfl ?_
      replace hf := zb_some hf
      obtain ⟨r_31, h31, hf⟩ := hf
      refine z_callV1 hX ok_X12_thrown q1484 q1485 q1486 (zrm_law hR (by decide) hKa hNa (by omega) (by omega)) (ct_X12_thrown  h31) (zrec_Model hX zq_493) dL_law__3445 rfl rfl ?_
      refine z_iload hX dL_law__3448 1 rfl ?_
      refine z_icmp_eq hX 3455 dL_law__3450 (by decide) (fun h32 => ?_) (fun h32 => ?_)
      · replace hf := zif_pos h32 hf
        refine z_iload hX dL_law__3455 1 rfl ?_
        refine z_if_ne hX 3472 dL_law__3457 (by decide) (fun h33 => ?_) (fun h33 => ?_)
        · replace hf := zif_neg h33 hf
          refine z_goto hX 3587 dL_law__3472 (by decide) ?_
          refine zW.sub [2, 3, 4, 5, 6] rfl ?_
          refine zW.widen (k' := K) (n' := N) (by omega) (by omega) ?_
          exact hkk g30 hf
        · replace hf := zif_pos h33 hf
          refine z_aload_n hX dL_law__3460 5 rfl ?_
          refine z_iconst hX dL_law__3461 ci_0 ?_
          replace hf := zchk_some hf
          obtain ⟨h34, hf⟩ := hf
          refine z_lald hX zq_508 h34 dL_law__3462 ?_
          refine z_iload hX dL_law__3463 0 rfl ?_
          refine z_i2l hX dL_law__3465 ?_
          refine z_lcmp hX dL_law__3466 ?_
          refine z_if_eq hX 3472 dL_law__3467 (by decide) (fun h35 => ?_) (fun h35 => ?_)
          · replace hf := zif_pos h35 hf
            refine z_goto hX 3587 dL_law__3472 (by decide) ?_
            refine zW.sub [2, 3, 4, 5, 6] rfl ?_
            refine zW.widen (k' := K) (n' := N) (by omega) (by omega) ?_
            exact hkk g30 hf
          · replace hf := zif_neg h35 hf
            exact zno hf
      · replace hf := zif_neg h32 hf
        exact zno hf
def fLc_47 (L : Nat) (xs : Nat → Int32) (kk : zM → Option Unit) (v4 : Int32) (g : zM) : Option Unit := zchk (v4 + 1) L (zb (fX11_latest (xs (v4 + 1).toNatClampNeg) g) (fun r_2 => zchk (v4 + 1) L (zb2 (fX12_latest (xs (v4 + 1).toNatClampNeg) g) (fun r_4 g4 => if r_2 = r_4 then kk g4 else none))))
set_option maxHeartbeats 4000000 in
set_option maxRecDepth 100000 in
theorem fLc_47_ok {X : zX} (hX : zCX X cL_law_ RL) (hR : X.2.2.2.1 = room_1) (hn : X.2.2.2.2.2.2.2.2.2.1.maxLocals = 7) {b L : Nat} {xs : Nat → Int32} (hs : zSc X b L xs) {Q : State → Prop} {k n K N : Nat} (hKa : K ≤ 601024) (hNa : N ≤ 7293034) (hKb : k + 12 ≤ K) (hNb : n + 72 ≤ N) {kk : zM → Option Unit} {v4 : Int32} {g : zM} {r : Unit} (hkk : ∀ g, kk g = some r → zW X Q K N 3587 [(0, .ref b), (1, .ref (zB X + 0)), (2, .ref (zB X + 493)), (3, .ref (zB X + 508)), (4, .int v4)] [] g) (hf : fLc_47 L xs kk v4 g = some r) : zW X Q k n 3475 [(0, .ref b), (1, .ref (zB X + 0)), (2, .ref (zB X + 493)), (3, .ref (zB X + 508)), (4, .int v4)] [] g := by
  unfold fLc_47 at hf
  refine z_aload_n hX dL_law__3475 1 rfl ?_
  refine z_aload_n hX dL_law__3476 0 rfl ?_
  refine z_iload hX dL_law__3477 4 rfl ?_
  refine z_iconst hX dL_law__3479 ci_1 ?_
  refine z_iadd hX dL_law__3480 ?_
  replace hf := zchk_some hf
  obtain ⟨h1, hf⟩ := hf
  refine z_sld hX hs h1 dL_law__3481 ?_
  replace hf := zb_some hf
  obtain ⟨r_2, h2, hf⟩ := hf
  refine z_callV1 hX ok_X11_latest q583 q584 q585 (zrm_law hR (by decide) hKa hNa (by omega) (by omega)) (ct_X11_latest  h2) (zrec_Post hX zq_0) dL_law__3482 rfl rfl ?_
  refine z_aload_n hX dL_law__3485 2 rfl ?_
  refine z_aload_n hX dL_law__3486 0 rfl ?_
  refine z_iload hX dL_law__3487 4 rfl ?_
  refine z_iconst hX dL_law__3489 ci_1 ?_
  refine z_iadd hX dL_law__3490 ?_
  replace hf := zchk_some hf
  obtain ⟨h3, hf⟩ := hf
  refine z_sld hX hs h3 dL_law__3491 ?_
  replace hf := zb2_some hf
  obtain ⟨r_4, g4, h4, hf⟩ := hf
  refine z_callV1 hX ok_X12_latest q2150 q2151 q2152 (zrm_law hR (by decide) hKa hNa (by omega) (by omega)) (ct_X12_latest  h4) (zrec_Model hX zq_493) dL_law__3492 rfl rfl ?_
  refine z_icmp_eq hX 3587 dL_law__3495 (by decide) (fun h5 => ?_) (fun h5 => ?_)
  · replace hf := zif_pos h5 hf
    refine zW.widen (k' := K) (n' := N) (by omega) (by omega) ?_
    exact hkk g4 hf
  · replace hf := zif_neg h5 hf
    exact zno hf
def fLc_48 (L : Nat) (xs : Nat → Int32) (kk : zM → Option Unit) (v4 : Int32) (g : zM) : Option Unit := zchk (v4 + 1) L (zb2 (fX11_seed (xs (v4 + 1).toNatClampNeg) g) (fun r_2 g2 => zchk (v4 + 1) L (zb2 (fX12_seed (xs (v4 + 1).toNatClampNeg) g2) (fun r_4 g4 => if r_2 = r_4 then kk g4 else none))))
set_option maxHeartbeats 4000000 in
set_option maxRecDepth 100000 in
theorem fLc_48_ok {X : zX} (hX : zCX X cL_law_ RL) (hR : X.2.2.2.1 = room_1) (hn : X.2.2.2.2.2.2.2.2.2.1.maxLocals = 7) {b L : Nat} {xs : Nat → Int32} (hs : zSc X b L xs) {Q : State → Prop} {k n K N : Nat} (hKa : K ≤ 601024) (hNa : N ≤ 7293034) (hKb : k + 12 ≤ K) (hNb : n + 72 ≤ N) {kk : zM → Option Unit} {v4 : Int32} {g : zM} {r : Unit} (hkk : ∀ g, kk g = some r → zW X Q K N 3587 [(0, .ref b), (1, .ref (zB X + 0)), (2, .ref (zB X + 493)), (3, .ref (zB X + 508)), (4, .int v4)] [] g) (hf : fLc_48 L xs kk v4 g = some r) : zW X Q k n 3500 [(0, .ref b), (1, .ref (zB X + 0)), (2, .ref (zB X + 493)), (3, .ref (zB X + 508)), (4, .int v4)] [] g := by
  unfold fLc_48 at hf
  refine z_aload_n hX dL_law__3500 1 rfl ?_
  refine z_aload_n hX dL_law__3501 0 rfl ?_
  refine z_iload hX dL_law__3502 4 rfl ?_
  refine z_iconst hX dL_law__3504 ci_1 ?_
  refine z_iadd hX dL_law__3505 ?_
  replace hf := zchk_some hf
  obtain ⟨h1, hf⟩ := hf
  refine z_sld hX hs h1 dL_law__3506 ?_
  replace hf := zb2_some hf
  obtain ⟨r_2, g2, h2, hf⟩ := hf
  refine z_callV1 hX ok_X11_seed q591 q592 q593 (zrm_law hR (by decide) hKa hNa (by omega) (by omega)) (ct_X11_seed  h2) (zrec_Post hX zq_0) dL_law__3507 rfl rfl ?_
  refine z_aload_n hX dL_law__3510 2 rfl ?_
  refine z_aload_n hX dL_law__3511 0 rfl ?_
  refine z_iload hX dL_law__3512 4 rfl ?_
  refine z_iconst hX dL_law__3514 ci_1 ?_
  refine z_iadd hX dL_law__3515 ?_
  replace hf := zchk_some hf
  obtain ⟨h3, hf⟩ := hf
  refine z_sld hX hs h3 dL_law__3516 ?_
  replace hf := zb2_some hf
  obtain ⟨r_4, g4, h4, hf⟩ := hf
  refine z_callV1 hX ok_X12_seed q2158 q2159 q2160 (zrm_law hR (by decide) hKa hNa (by omega) (by omega)) (ct_X12_seed  h4) (zrec_Model hX zq_493) dL_law__3517 rfl rfl ?_
  refine z_icmp_eq hX 3587 dL_law__3520 (by decide) (fun h5 => ?_) (fun h5 => ?_)
  · replace hf := zif_pos h5 hf
    refine zW.widen (k' := K) (n' := N) (by omega) (by omega) ?_
    exact hkk g4 hf
  · replace hf := zif_neg h5 hf
    exact zno hf
def fLc_49 (L : Nat) (xs : Nat → Int32) (kk : zM → Option Unit) (v4 : Int32) (g : zM) : Option Unit := zb2 (fX11_undo g) (fun r_1 g1 => zb2 (fX12_undo g1) (fun r_2 g2 => if r_1 = r_2 then kk g2 else none))
set_option maxHeartbeats 4000000 in
set_option maxRecDepth 100000 in
theorem fLc_49_ok {X : zX} (hX : zCX X cL_law_ RL) (hR : X.2.2.2.1 = room_1) (hn : X.2.2.2.2.2.2.2.2.2.1.maxLocals = 7) {b L : Nat} {xs : Nat → Int32} (hs : zSc X b L xs) {Q : State → Prop} {k n K N : Nat} (hKa : K ≤ 601024) (hNa : N ≤ 7293034) (hKb : k + 12 ≤ K) (hNb : n + 72 ≤ N) {kk : zM → Option Unit} {v4 : Int32} {g : zM} {r : Unit} (hkk : ∀ g, kk g = some r → zW X Q K N 3587 [(0, .ref b), (1, .ref (zB X + 0)), (2, .ref (zB X + 493)), (3, .ref (zB X + 508)), (4, .int v4)] [] g) (hf : fLc_49 L xs kk v4 g = some r) : zW X Q k n 3525 [(0, .ref b), (1, .ref (zB X + 0)), (2, .ref (zB X + 493)), (3, .ref (zB X + 508)), (4, .int v4)] [] g := by
  unfold fLc_49 at hf
  refine z_aload_n hX dL_law__3525 1 rfl ?_
  replace hf := zb2_some hf
  obtain ⟨r_1, g1, h1, hf⟩ := hf
  refine z_callV1 hX ok_X11_undo q595 q596 q597 (zrm_law hR (by decide) hKa hNa (by omega) (by omega)) (ct_X11_undo  h1) (zrec_Post hX zq_0) dL_law__3526 rfl rfl ?_
  refine z_aload_n hX dL_law__3529 2 rfl ?_
  replace hf := zb2_some hf
  obtain ⟨r_2, g2, h2, hf⟩ := hf
  refine z_callV1 hX ok_X12_undo q1593 q1594 q1595 (zrm_law hR (by decide) hKa hNa (by omega) (by omega)) (ct_X12_undo  h2) (zrec_Model hX zq_493) dL_law__3530 rfl rfl ?_
  refine z_icmp_eq hX 3587 dL_law__3533 (by decide) (fun h3 => ?_) (fun h3 => ?_)
  · replace hf := zif_pos h3 hf
    refine zW.widen (k' := K) (n' := N) (by omega) (by omega) ?_
    exact hkk g2 hf
  · replace hf := zif_neg h3 hf
    exact zno hf
def fLc_50 (L : Nat) (xs : Nat → Int32) (kk : zM → Option Unit) (v4 : Int32) (g : zM) : Option Unit := zb (fX11_image g) (fun g1 => zb (fX12_image g1) (fun g2 => kk g2))
set_option maxHeartbeats 4000000 in
set_option maxRecDepth 100000 in
theorem fLc_50_ok {X : zX} (hX : zCX X cL_law_ RL) (hR : X.2.2.2.1 = room_1) (hn : X.2.2.2.2.2.2.2.2.2.1.maxLocals = 7) {b L : Nat} {xs : Nat → Int32} (hs : zSc X b L xs) {Q : State → Prop} {k n K N : Nat} (hKa : K ≤ 601024) (hNa : N ≤ 7293034) (hKb : k + 12 ≤ K) (hNb : n + 72 ≤ N) {kk : zM → Option Unit} {v4 : Int32} {g : zM} {r : Unit} (hkk : ∀ g, kk g = some r → zW X Q K N 3587 [(0, .ref b), (1, .ref (zB X + 0)), (2, .ref (zB X + 493)), (3, .ref (zB X + 508)), (4, .int v4)] [] g) (hf : fLc_50 L xs kk v4 g = some r) : zW X Q k n 3538 [(0, .ref b), (1, .ref (zB X + 0)), (2, .ref (zB X + 493)), (3, .ref (zB X + 508)), (4, .int v4)] [] g := by
  unfold fLc_50 at hf
  refine z_aload_n hX dL_law__3538 1 rfl ?_
  replace hf := zb_some hf
  obtain ⟨g1, h1, hf⟩ := hf
  refine z_callV0 hX ok_X11_image q608 q609 q610 (zrm_law hR (by decide) hKa hNa (by omega) (by omega)) (ct_X11_image  h1) (zrec_Post hX zq_0) dL_law__3539 rfl rfl ?_
  refine z_aload_n hX dL_law__3542 2 rfl ?_
  replace hf := zb_some hf
  obtain ⟨g2, h2, hf⟩ := hf
  refine z_callV0 hX ok_X12_image q1585 q1586 q1587 (zrm_law hR (by decide) hKa hNa (by omega) (by omega)) (ct_X12_image  h2) (zrec_Model hX zq_493) dL_law__3543 rfl rfl ?_
  refine z_goto hX 3587 dL_law__3546 (by decide) ?_
  refine zW.widen (k' := K) (n' := N) (by omega) (by omega) ?_
  exact hkk g2 hf
def fLc_51 (L : Nat) (xs : Nat → Int32) (kk : zM → Option Unit) (v4 : Int32) (g : zM) : Option Unit := zb2 (fX11_back g) (fun r_1 g1 => zb2 (fX12_back g1) (fun r_2 g2 => if r_1 = r_2 then kk g2 else none))
set_option maxHeartbeats 4000000 in
set_option maxRecDepth 100000 in
theorem fLc_51_ok {X : zX} (hX : zCX X cL_law_ RL) (hR : X.2.2.2.1 = room_1) (hn : X.2.2.2.2.2.2.2.2.2.1.maxLocals = 7) {b L : Nat} {xs : Nat → Int32} (hs : zSc X b L xs) {Q : State → Prop} {k n K N : Nat} (hKa : K ≤ 601024) (hNa : N ≤ 7293034) (hKb : k + 12 ≤ K) (hNb : n + 72 ≤ N) {kk : zM → Option Unit} {v4 : Int32} {g : zM} {r : Unit} (hkk : ∀ g, kk g = some r → zW X Q K N 3587 [(0, .ref b), (1, .ref (zB X + 0)), (2, .ref (zB X + 493)), (3, .ref (zB X + 508)), (4, .int v4)] [] g) (hf : fLc_51 L xs kk v4 g = some r) : zW X Q k n 3549 [(0, .ref b), (1, .ref (zB X + 0)), (2, .ref (zB X + 493)), (3, .ref (zB X + 508)), (4, .int v4)] [] g := by
  unfold fLc_51 at hf
  refine z_aload_n hX dL_law__3549 1 rfl ?_
  replace hf := zb2_some hf
  obtain ⟨r_1, g1, h1, hf⟩ := hf
  refine z_callV1 hX ok_X11_back q623 q624 q625 (zrm_law hR (by decide) hKa hNa (by omega) (by omega)) (ct_X11_back  h1) (zrec_Post hX zq_0) dL_law__3550 rfl rfl ?_
  refine z_aload_n hX dL_law__3553 2 rfl ?_
  replace hf := zb2_some hf
  obtain ⟨r_2, g2, h2, hf⟩ := hf
  refine z_callV1 hX ok_X12_back q1589 q1590 q1591 (zrm_law hR (by decide) hKa hNa (by omega) (by omega)) (ct_X12_back  h2) (zrec_Model hX zq_493) dL_law__3554 rfl rfl ?_
  refine z_icmp_eq hX 3587 dL_law__3557 (by decide) (fun h3 => ?_) (fun h3 => ?_)
  · replace hf := zif_pos h3 hf
    refine zW.widen (k' := K) (n' := N) (by omega) (by omega) ?_
    exact hkk g2 hf
  · replace hf := zif_neg h3 hf
    exact zno hf
def fLc_52 (L : Nat) (xs : Nat → Int32) (kk : zM → Option Unit) (v4 : Int32) (g : zM) : Option Unit := zchk (v4 + 1) L (zb (fX11_count (xs (v4 + 1).toNatClampNeg) g) (fun r_2 => zchk (v4 + 1) L (zb2 (fX12_count (xs (v4 + 1).toNatClampNeg) g) (fun r_4 g4 => if r_2 = r_4 then kk g4 else none))))
set_option maxHeartbeats 4000000 in
set_option maxRecDepth 100000 in
theorem fLc_52_ok {X : zX} (hX : zCX X cL_law_ RL) (hR : X.2.2.2.1 = room_1) (hn : X.2.2.2.2.2.2.2.2.2.1.maxLocals = 7) {b L : Nat} {xs : Nat → Int32} (hs : zSc X b L xs) {Q : State → Prop} {k n K N : Nat} (hKa : K ≤ 601024) (hNa : N ≤ 7293034) (hKb : k + 12 ≤ K) (hNb : n + 72 ≤ N) {kk : zM → Option Unit} {v4 : Int32} {g : zM} {r : Unit} (hkk : ∀ g, kk g = some r → zW X Q K N 3587 [(0, .ref b), (1, .ref (zB X + 0)), (2, .ref (zB X + 493)), (3, .ref (zB X + 508)), (4, .int v4)] [] g) (hf : fLc_52 L xs kk v4 g = some r) : zW X Q k n 3562 [(0, .ref b), (1, .ref (zB X + 0)), (2, .ref (zB X + 493)), (3, .ref (zB X + 508)), (4, .int v4)] [] g := by
  unfold fLc_52 at hf
  refine z_aload_n hX dL_law__3562 1 rfl ?_
  refine z_aload_n hX dL_law__3563 0 rfl ?_
  refine z_iload hX dL_law__3564 4 rfl ?_
  refine z_iconst hX dL_law__3566 ci_1 ?_
  refine z_iadd hX dL_law__3567 ?_
  replace hf := zchk_some hf
  obtain ⟨h1, hf⟩ := hf
  refine z_sld hX hs h1 dL_law__3568 ?_
  replace hf := zb_some hf
  obtain ⟨r_2, h2, hf⟩ := hf
  refine z_callV1 hX ok_X11_count q631 q632 q633 (zrm_law hR (by decide) hKa hNa (by omega) (by omega)) (ct_X11_count  h2) (zrec_Post hX zq_0) dL_law__3569 rfl rfl ?_
  refine z_aload_n hX dL_law__3572 2 rfl ?_
  refine z_aload_n hX dL_law__3573 0 rfl ?_
  refine z_iload hX dL_law__3574 4 rfl ?_
  refine z_iconst hX dL_law__3576 ci_1 ?_
  refine z_iadd hX dL_law__3577 ?_
  replace hf := zchk_some hf
  obtain ⟨h3, hf⟩ := hf
  refine z_sld hX hs h3 dL_law__3578 ?_
  replace hf := zb2_some hf
  obtain ⟨r_4, g4, h4, hf⟩ := hf
  refine z_callV1 hX ok_X12_count q2162 q2163 q2164 (zrm_law hR (by decide) hKa hNa (by omega) (by omega)) (ct_X12_count  h4) (zrec_Model hX zq_493) dL_law__3579 rfl rfl ?_
  refine z_icmp_eq hX 3587 dL_law__3582 (by decide) (fun h5 => ?_) (fun h5 => ?_)
  · replace hf := zif_pos h5 hf
    refine zW.widen (k' := K) (n' := N) (by omega) (by omega) ?_
    exact hkk g4 hf
  · replace hf := zif_neg h5 hf
    exact zno hf
