def fLc_18 (L : Nat) (xs : Nat → Int32) (kk : zM → Option Unit) (v4 : Int32) (g : zM) : Option Unit := zchk (v4 + 1) L (zchk (v4 + 2) L (zchk (v4 + 3) L (zb2 (fL_ahead (xs (v4 + 1).toNatClampNeg) (xs (v4 + 2).toNatClampNeg) (xs (v4 + 3).toNatClampNeg) g) (fun r_4 g4 => zchk (v4 + 1) L (zchk (v4 + 2) L (zchk (v4 + 3) L (zb2 (fX12_ahead (xs (v4 + 1).toNatClampNeg) (xs (v4 + 2).toNatClampNeg) (xs (v4 + 3).toNatClampNeg) g4) (fun r_8 g8 => zb (fX12_thrown g8) (fun r_9 => if r_9 = r_4 then if r_4 = 0 then zchk 0 1 (if (lg_cmp ((g8 508 (0 : Int32).toNatClampNeg).toInt64) r_8.toInt64) = 0 then kk g8 else none) else kk g8 else none)))))))))
set_option maxHeartbeats 4000000 in
set_option maxRecDepth 100000 in
theorem fLc_18_ok {X : zX} (hX : zCX X cL_law_ RL) (hR : X.2.2.2.1 = room_1) (hn : X.2.2.2.2.2.2.2.2.2.1.maxLocals = 7) {b L : Nat} {xs : Nat → Int32} (hs : zSc X b L xs) {Q : State → Prop} {k n K N : Nat} (hKa : K ≤ 601024) (hNa : N ≤ 7293034) (hKb : k + 12 ≤ K) (hNb : n + 72 ≤ N) {kk : zM → Option Unit} {v4 : Int32} {g : zM} {r : Unit} (hkk : ∀ g, kk g = some r → zW X Q K N 3587 [(0, .ref b), (1, .ref (zB X + 0)), (2, .ref (zB X + 493)), (3, .ref (zB X + 508)), (4, .int v4)] [] g) (hf : fLc_18 L xs kk v4 g = some r) : zW X Q k n 1381 [(0, .ref b), (1, .ref (zB X + 0)), (2, .ref (zB X + 493)), (3, .ref (zB X + 508)), (4, .int v4)] [] g := by
  unfold fLc_18 at hf
  refine z_aload_n hX dL_law__1381 1 rfl ?_
  refine z_aload_n hX dL_law__1382 0 rfl ?_
  refine z_iload hX dL_law__1383 4 rfl ?_
  refine z_iconst hX dL_law__1385 ci_1 ?_
  refine z_iadd hX dL_law__1386 ?_
  replace hf := zchk_some hf
  obtain ⟨h1, hf⟩ := hf
  refine z_sld hX hs h1 dL_law__1387 ?_
  refine z_aload_n hX dL_law__1388 0 rfl ?_
  refine z_iload hX dL_law__1389 4 rfl ?_
  refine z_iconst hX dL_law__1391 ci_2 ?_
  refine z_iadd hX dL_law__1392 ?_
  replace hf := zchk_some hf
  obtain ⟨h2, hf⟩ := hf
  refine z_sld hX hs h2 dL_law__1393 ?_
  refine z_aload_n hX dL_law__1394 0 rfl ?_
  refine z_iload hX dL_law__1395 4 rfl ?_
  refine z_iconst hX dL_law__1397 ci_3 ?_
  refine z_iadd hX dL_law__1398 ?_
  replace hf := zchk_some hf
  obtain ⟨h3, hf⟩ := hf
  refine z_sld hX hs h3 dL_law__1399 ?_
  refine z_aload_n hX dL_law__1400 3 rfl ?_
  replace hf := zb2_some hf
  obtain ⟨r_4, g4, h4, hf⟩ := hf
  refine z_callW1 hX okw_L_ahead q1188 q1189 (zrm_law hR (by decide) hKa hNa (by omega) (by omega)) (ct_L_ahead h4) dL_law__1401 rfl rfl ?_
  refine z_istore (lv' := [(5, .int r_4), (0, .ref b), (1, .ref (zB X + 0)), (2, .ref (zB X + 493)), (3, .ref (zB X + 508)), (4, .int v4)]) hX dL_law__1404 hn (by decide) rfl ?_
  refine z_aload_n hX dL_law__1406 3 rfl ?_
  refine z_aload_n hX dL_law__1407 1 rfl ?_
  refine z_iload hX dL_law__1408 5 rfl ?_
  refine z_iconst hX dL_law__1410 ci_1 ?_
  refine z_iadd hX dL_law__1411 ?_
  replace hf := zchk_some hf
  obtain ⟨h5, hf⟩ := hf
  refine z_sld hX hs h5 dL_law__1412 ?_
  refine z_aload_n hX dL_law__1413 1 rfl ?_
  refine z_iload hX dL_law__1414 5 rfl ?_
  refine z_iconst hX dL_law__1416 ci_2 ?_
  refine z_iadd hX dL_law__1417 ?_
  replace hf := zchk_some hf
  obtain ⟨h6, hf⟩ := hf
  refine z_sld hX hs h6 dL_law__1418 ?_
  refine z_aload_n hX dL_law__1419 1 rfl ?_
  refine z_iload hX dL_law__1420 5 rfl ?_
  refine z_iconst hX dL_law__1422 ci_3 ?_
  refine z_iadd hX dL_law__1423 ?_
  replace hf := zchk_some hf
  obtain ⟨h7, hf⟩ := hf
  refine z_sld hX hs h7 dL_law__1424 ?_
  replace hf := zb2_some hf
  obtain ⟨r_8, g8, h8, hf⟩ := hf
  refine z_callV1 hX ok_X12_ahead q1930 q1931 q1932 (zrm_law hR (by decide) hKa hNa (by omega) (by omega)) (ct_X12_ahead  h8) (zrec_Model hX zq_493) dL_law__1425 rfl rfl ?_
  refine z_istore (lv' := [(6, .int r_8), (5, .int r_4), (0, .ref b), (1, .ref (zB X + 0)), (2, .ref (zB X + 493)), (3, .ref (zB X + 508)), (4, .int v4)]) hX dL_law__1428 hn (by decide) rfl ?_
  refine z_aload_n hX dL_law__1430 4 rfl ?_
  replace hf := zb_some hf
  obtain ⟨r_9, h9, hf⟩ := hf
  refine z_callV1 hX ok_X12_thrown q1484 q1485 q1486 (zrm_law hR (by decide) hKa hNa (by omega) (by omega)) (ct_X12_thrown  h9) (zrec_Model hX zq_493) dL_law__1431 rfl rfl ?_
  refine z_iload hX dL_law__1434 1 rfl ?_
  refine z_icmp_eq hX 1441 dL_law__1436 (by decide) (fun h10 => ?_) (fun h10 => ?_)
  · replace hf := zif_pos h10 hf
    refine z_iload hX dL_law__1441 1 rfl ?_
    refine z_if_ne hX 1458 dL_law__1443 (by decide) (fun h11 => ?_) (fun h11 => ?_)
    · replace hf := zif_neg h11 hf
      refine z_goto hX 3587 dL_law__1458 (by decide) ?_
      refine zW.sub [2, 3, 4, 5, 6] rfl ?_
      refine zW.widen (k' := K) (n' := N) (by omega) (by omega) ?_
      exact hkk g8 hf
    · replace hf := zif_pos h11 hf
      refine z_aload_n hX dL_law__1446 5 rfl ?_
      refine z_iconst hX dL_law__1447 ci_0 ?_
      replace hf := zchk_some hf
      obtain ⟨h12, hf⟩ := hf
      refine z_lald hX zq_508 h12 dL_law__1448 ?_
      refine z_iload hX dL_law__1449 0 rfl ?_
      refine z_i2l hX dL_law__1451 ?_
      refine z_lcmp hX dL_law__1452 ?_
      refine z_if_eq hX 1458 dL_law__1453 (by decide) (fun h13 => ?_) (fun h13 => ?_)
      · replace hf := zif_pos h13 hf
        refine z_goto hX 3587 dL_law__1458 (by decide) ?_
        refine zW.sub [2, 3, 4, 5, 6] rfl ?_
        refine zW.widen (k' := K) (n' := N) (by omega) (by omega) ?_
        exact hkk g8 hf
      · replace hf := zif_neg h13 hf
        exact zno hf
  · replace hf := zif_neg h10 hf
    exact zno hf
def fLc_19 (L : Nat) (xs : Nat → Int32) (kk : zM → Option Unit) (v4 : Int32) (g : zM) : Option Unit := zchk (v4 + 1) L (zchk (v4 + 2) L (zchk (v4 + 3) L (if (xs (v4 + 3).toNatClampNeg) = 0 then zb2 (fL_says (xs (v4 + 1).toNatClampNeg) (xs (v4 + 2).toNatClampNeg) 0 g) (fun r_5 g5 => zchk (v4 + 1) L (zchk (v4 + 2) L (zchk (v4 + 3) L (if (xs (v4 + 3).toNatClampNeg) = 0 then zb2 (fX12_says (xs (v4 + 1).toNatClampNeg) (xs (v4 + 2).toNatClampNeg) 0 g5) (fun r_10 g10 => zb (fX12_thrown g10) (fun r_11 => if r_11 = r_5 then if r_5 = 0 then zchk 0 1 (if (lg_cmp ((g10 508 (0 : Int32).toNatClampNeg).toInt64) r_10.toInt64) = 0 then kk g10 else none) else kk g10 else none)) else zb2 (fX12_says (xs (v4 + 1).toNatClampNeg) (xs (v4 + 2).toNatClampNeg) 1 g5) (fun r_16 g16 => zb (fX12_thrown g16) (fun r_17 => if r_17 = r_5 then if r_5 = 0 then zchk 0 1 (if (lg_cmp ((g16 508 (0 : Int32).toNatClampNeg).toInt64) r_16.toInt64) = 0 then kk g16 else none) else kk g16 else none)))))) else zb2 (fL_says (xs (v4 + 1).toNatClampNeg) (xs (v4 + 2).toNatClampNeg) 1 g) (fun r_22 g22 => zchk (v4 + 1) L (zchk (v4 + 2) L (zchk (v4 + 3) L (if (xs (v4 + 3).toNatClampNeg) = 0 then zb2 (fX12_says (xs (v4 + 1).toNatClampNeg) (xs (v4 + 2).toNatClampNeg) 0 g22) (fun r_27 g27 => zb (fX12_thrown g27) (fun r_28 => if r_28 = r_22 then if r_22 = 0 then zchk 0 1 (if (lg_cmp ((g27 508 (0 : Int32).toNatClampNeg).toInt64) r_27.toInt64) = 0 then kk g27 else none) else kk g27 else none)) else zb2 (fX12_says (xs (v4 + 1).toNatClampNeg) (xs (v4 + 2).toNatClampNeg) 1 g22) (fun r_33 g33 => zb (fX12_thrown g33) (fun r_34 => if r_34 = r_22 then if r_22 = 0 then zchk 0 1 (if (lg_cmp ((g33 508 (0 : Int32).toNatClampNeg).toInt64) r_33.toInt64) = 0 then kk g33 else none) else kk g33 else none)))))))))
set_option maxHeartbeats 4000000 in
set_option maxRecDepth 100000 in
theorem fLc_19_ok {X : zX} (hX : zCX X cL_law_ RL) (hR : X.2.2.2.1 = room_1) (hn : X.2.2.2.2.2.2.2.2.2.1.maxLocals = 7) {b L : Nat} {xs : Nat → Int32} (hs : zSc X b L xs) {Q : State → Prop} {k n K N : Nat} (hKa : K ≤ 601024) (hNa : N ≤ 7293034) (hKb : k + 12 ≤ K) (hNb : n + 72 ≤ N) {kk : zM → Option Unit} {v4 : Int32} {g : zM} {r : Unit} (hkk : ∀ g, kk g = some r → zW X Q K N 3587 [(0, .ref b), (1, .ref (zB X + 0)), (2, .ref (zB X + 493)), (3, .ref (zB X + 508)), (4, .int v4)] [] g) (hf : fLc_19 L xs kk v4 g = some r) : zW X Q k n 1461 [(0, .ref b), (1, .ref (zB X + 0)), (2, .ref (zB X + 493)), (3, .ref (zB X + 508)), (4, .int v4)] [] g := by
  unfold fLc_19 at hf
  refine z_aload_n hX dL_law__1461 1 rfl ?_
  refine z_aload_n hX dL_law__1462 0 rfl ?_
  refine z_iload hX dL_law__1463 4 rfl ?_
  refine z_iconst hX dL_law__1465 ci_1 ?_
  refine z_iadd hX dL_law__1466 ?_
  replace hf := zchk_some hf
  obtain ⟨h1, hf⟩ := hf
  refine z_sld hX hs h1 dL_law__1467 ?_
  refine z_aload_n hX dL_law__1468 0 rfl ?_
  refine z_iload hX dL_law__1469 4 rfl ?_
  refine z_iconst hX dL_law__1471 ci_2 ?_
  refine z_iadd hX dL_law__1472 ?_
  replace hf := zchk_some hf
  obtain ⟨h2, hf⟩ := hf
  refine z_sld hX hs h2 dL_law__1473 ?_
  refine z_aload_n hX dL_law__1474 0 rfl ?_
  refine z_iload hX dL_law__1475 4 rfl ?_
  refine z_iconst hX dL_law__1477 ci_3 ?_
  refine z_iadd hX dL_law__1478 ?_
  replace hf := zchk_some hf
  obtain ⟨h3, hf⟩ := hf
  refine z_sld hX hs h3 dL_law__1479 ?_
  refine z_if_eq hX 1487 dL_law__1480 (by decide) (fun h4 => ?_) (fun h4 => ?_)
  · replace hf := zif_pos h4 hf
    refine z_iconst hX dL_law__1487 ci_0 ?_
    refine z_aload_n hX dL_law__1488 3 rfl ?_
    replace hf := zb2_some hf
    obtain ⟨r_5, g5, h5, hf⟩ := hf
    refine z_callW1 hX okw_L_says q1205 q1206 (zrm_law hR (by decide) hKa hNa (by omega) (by omega)) (ct_L_says h5) dL_law__1489 rfl rfl ?_
    refine z_istore (lv' := [(5, .int r_5), (0, .ref b), (1, .ref (zB X + 0)), (2, .ref (zB X + 493)), (3, .ref (zB X + 508)), (4, .int v4)]) hX dL_law__1492 hn (by decide) rfl ?_
    refine z_aload_n hX dL_law__1494 3 rfl ?_
    refine z_aload_n hX dL_law__1495 1 rfl ?_
    refine z_iload hX dL_law__1496 5 rfl ?_
    refine z_iconst hX dL_law__1498 ci_1 ?_
    refine z_iadd hX dL_law__1499 ?_
    replace hf := zchk_some hf
    obtain ⟨h6, hf⟩ := hf
    refine z_sld hX hs h6 dL_law__1500 ?_
    refine z_aload_n hX dL_law__1501 1 rfl ?_
    refine z_iload hX dL_law__1502 5 rfl ?_
    refine z_iconst hX dL_law__1504 ci_2 ?_
    refine z_iadd hX dL_law__1505 ?_
    replace hf := zchk_some hf
    obtain ⟨h7, hf⟩ := hf
    refine z_sld hX hs h7 dL_law__1506 ?_
    refine z_aload_n hX dL_law__1507 1 rfl ?_
    refine z_iload hX dL_law__1508 5 rfl ?_
    refine z_iconst hX dL_law__1510 ci_3 ?_
    refine z_iadd hX dL_law__1511 ?_
    replace hf := zchk_some hf
    obtain ⟨h8, hf⟩ := hf
    refine z_sld hX hs h8 dL_law__1512 ?_
    refine z_if_eq hX 1520 dL_law__1513 (by decide) (fun h9 => ?_) (fun h9 => ?_)
    · replace hf := zif_pos h9 hf
      refine z_iconst hX dL_law__1520 ci_0 ?_
      replace hf := zb2_some hf
      obtain ⟨r_10, g10, h10, hf⟩ := hf
      refine z_callV1 hX ok_X12_says q1953 q1954 q1955 (zrm_law hR (by decide) hKa hNa (by omega) (by omega)) (ct_X12_says  h10) (zrec_Model hX zq_493) dL_law__1521 rfl rfl ?_
      refine z_istore (lv' := [(6, .int r_10), (5, .int r_5), (0, .ref b), (1, .ref (zB X + 0)), (2, .ref (zB X + 493)), (3, .ref (zB X + 508)), (4, .int v4)]) hX dL_law__1524 hn (by decide) rfl ?_
      refine z_aload_n hX dL_law__1526 4 rfl ?_
      replace hf := zb_some hf
      obtain ⟨r_11, h11, hf⟩ := hf
      refine z_callV1 hX ok_X12_thrown q1484 q1485 q1486 (zrm_law hR (by decide) hKa hNa (by omega) (by omega)) (ct_X12_thrown  h11) (zrec_Model hX zq_493) dL_law__1527 rfl rfl ?_
      refine z_iload hX dL_law__1530 1 rfl ?_
      refine z_icmp_eq hX 1537 dL_law__1532 (by decide) (fun h12 => ?_) (fun h12 => ?_)
      · replace hf := zif_pos h12 hf
        refine z_iload hX dL_law__1537 1 rfl ?_
        refine z_if_ne hX 1554 dL_law__1539 (by decide) (fun h13 => ?_) (fun h13 => ?_)
        · replace hf := zif_neg h13 hf
          refine z_goto hX 3587 dL_law__1554 (by decide) ?_
          refine zW.sub [2, 3, 4, 5, 6] rfl ?_
          refine zW.widen (k' := K) (n' := N) (by omega) (by omega) ?_
          exact hkk g10 hf
        · replace hf := zif_pos h13 hf
          refine z_aload_n hX dL_law__1542 5 rfl ?_
          refine z_iconst hX dL_law__1543 ci_0 ?_
          replace hf := zchk_some hf
          obtain ⟨h14, hf⟩ := hf
          refine z_lald hX zq_508 h14 dL_law__1544 ?_
          refine z_iload hX dL_law__1545 0 rfl ?_
          refine z_i2l hX dL_law__1547 ?_
          refine z_lcmp hX dL_law__1548 ?_
          refine z_if_eq hX 1554 dL_law__1549 (by decide) (fun h15 => ?_) (fun h15 => ?_)
          · replace hf := zif_pos h15 hf
            refine z_goto hX 3587 dL_law__1554 (by decide) ?_
            refine zW.sub [2, 3, 4, 5, 6] rfl ?_
            refine zW.widen (k' := K) (n' := N) (by omega) (by omega) ?_
            exact hkk g10 hf
          · replace hf := zif_neg h15 hf
            exact zno hf
      · replace hf := zif_neg h12 hf
        exact zno hf
    · replace hf := zif_neg h9 hf
      refine z_iconst hX dL_law__1516 ci_1 ?_
      refine z_goto hX 1521 dL_law__1517 (by decide) ?_
      replace hf := zb2_some hf
      obtain ⟨r_16, g16, h16, hf⟩ := hf
      refine z_callV1 hX ok_X12_says q1953 q1954 q1955 (zrm_law hR (by decide) hKa hNa (by omega) (by omega)) (ct_X12_says  h16) (zrec_Model hX zq_493) dL_law__1521 rfl rfl ?_
      refine z_istore (lv' := [(6, .int r_16), (5, .int r_5), (0, .ref b), (1, .ref (zB X + 0)), (2, .ref (zB X + 493)), (3, .ref (zB X + 508)), (4, .int v4)]) hX dL_law__1524 hn (by decide) rfl ?_
      refine z_aload_n hX dL_law__1526 4 rfl ?_
      replace hf := zb_some hf
      obtain ⟨r_17, h17, hf⟩ := hf
      refine z_callV1 hX ok_X12_thrown q1484 q1485 q1486 (zrm_law hR (by decide) hKa hNa (by omega) (by omega)) (ct_X12_thrown  h17) (zrec_Model hX zq_493) dL_law__1527 rfl rfl ?_
      refine z_iload hX dL_law__1530 1 rfl ?_
      refine z_icmp_eq hX 1537 dL_law__1532 (by decide) (fun h18 => ?_) (fun h18 => ?_)
      · replace hf := zif_pos h18 hf
        refine z_iload hX dL_law__1537 1 rfl ?_
        refine z_if_ne hX 1554 dL_law__1539 (by decide) (fun h19 => ?_) (fun h19 => ?_)
        · replace hf := zif_neg h19 hf
          refine z_goto hX 3587 dL_law__1554 (by decide) ?_
          refine zW.sub [2, 3, 4, 5, 6] rfl ?_
          refine zW.widen (k' := K) (n' := N) (by omega) (by omega) ?_
          exact hkk g16 hf
        · replace hf := zif_pos h19 hf
          refine z_aload_n hX dL_law__1542 5 rfl ?_
          refine z_iconst hX dL_law__1543 ci_0 ?_
          replace hf := zchk_some hf
          obtain ⟨h20, hf⟩ := hf
          refine z_lald hX zq_508 h20 dL_law__1544 ?_
          refine z_iload hX dL_law__1545 0 rfl ?_
          refine z_i2l hX dL_law__1547 ?_
          refine z_lcmp hX dL_law__1548 ?_
          refine z_if_eq hX 1554 dL_law__1549 (by decide) (fun h21 => ?_) (fun h21 => ?_)
          · replace hf := zif_pos h21 hf
            refine z_goto hX 3587 dL_law__1554 (by decide) ?_
            refine zW.sub [2, 3, 4, 5, 6] rfl ?_
            refine zW.widen (k' := K) (n' := N) (by omega) (by omega) ?_
            exact hkk g16 hf
          · replace hf := zif_neg h21 hf
            exact zno hf
      · replace hf := zif_neg h18 hf
        exact zno hf
  · replace hf := zif_neg h4 hf
    refine z_iconst hX dL_law__1483 ci_1 ?_
    refine z_goto hX 1488 dL_law__1484 (by decide) ?_
    refine z_aload_n hX dL_law__1488 3 rfl ?_
    replace hf := zb2_some hf
    obtain ⟨r_22, g22, h22, hf⟩ := hf
    refine z_callW1 hX okw_L_says q1205 q1206 (zrm_law hR (by decide) hKa hNa (by omega) (by omega)) (ct_L_says h22) dL_law__1489 rfl rfl ?_
    refine z_istore (lv' := [(5, .int r_22), (0, .ref b), (1, .ref (zB X + 0)), (2, .ref (zB X + 493)), (3, .ref (zB X + 508)), (4, .int v4)]) hX dL_law__1492 hn (by decide) rfl ?_
    refine z_aload_n hX dL_law__1494 3 rfl ?_
    refine z_aload_n hX dL_law__1495 1 rfl ?_
    refine z_iload hX dL_law__1496 5 rfl ?_
    refine z_iconst hX dL_law__1498 ci_1 ?_
    refine z_iadd hX dL_law__1499 ?_
    replace hf := zchk_some hf
    obtain ⟨h23, hf⟩ := hf
    refine z_sld hX hs h23 dL_law__1500 ?_
    refine z_aload_n hX dL_law__1501 1 rfl ?_
    refine z_iload hX dL_law__1502 5 rfl ?_
    refine z_iconst hX dL_law__1504 ci_2 ?_
    refine z_iadd hX dL_law__1505 ?_
    replace hf := zchk_some hf
    obtain ⟨h24, hf⟩ := hf
    refine z_sld hX hs h24 dL_law__1506 ?_
    refine z_aload_n hX dL_law__1507 1 rfl ?_
    refine z_iload hX dL_law__1508 5 rfl ?_
    refine z_iconst hX dL_law__1510 ci_3 ?_
    refine z_iadd hX dL_law__1511 ?_
    replace hf := zchk_some hf
    obtain ⟨h25, hf⟩ := hf
    refine z_sld hX hs h25 dL_law__1512 ?_
    refine z_if_eq hX 1520 dL_law__1513 (by decide) (fun h26 => ?_) (fun h26 => ?_)
    · replace hf := zif_pos h26 hf
      refine z_iconst hX dL_law__1520 ci_0 ?_
      replace hf := zb2_some hf
      obtain ⟨r_27, g27, h27, hf⟩ := hf
      refine z_callV1 hX ok_X12_says q1953 q1954 q1955 (zrm_law hR (by decide) hKa hNa (by omega) (by omega)) (ct_X12_says  h27) (zrec_Model hX zq_493) dL_law__1521 rfl rfl ?_
      refine z_istore (lv' := [(6, .int r_27), (5, .int r_22), (0, .ref b), (1, .ref (zB X + 0)), (2, .ref (zB X + 493)), (3, .ref (zB X + 508)), (4, .int v4)]) hX dL_law__1524 hn (by decide) rfl ?_
      refine z_aload_n hX dL_law__1526 4 rfl ?_
      replace hf := zb_some hf
      obtain ⟨r_28, h28, hf⟩ := hf
      refine z_callV1 hX ok_X12_thrown q1484 q1485 q1486 (zrm_law hR (by decide) hKa hNa (by omega) (by omega)) (ct_X12_thrown  h28) (zrec_Model hX zq_493) dL_law__1527 rfl rfl ?_
      refine z_iload hX dL_law__1530 1 rfl ?_
      refine z_icmp_eq hX 1537 dL_law__1532 (by decide) (fun h29 => ?_) (fun h29 => ?_)
      · replace hf := zif_pos h29 hf
        refine z_iload hX dL_law__1537 1 rfl ?_
        refine z_if_ne hX 1554 dL_law__1539 (by decide) (fun h30 => ?_) (fun h30 => ?_)
        · replace hf := zif_neg h30 hf
          refine z_goto hX 3587 dL_law__1554 (by decide) ?_
          refine zW.sub [2, 3, 4, 5, 6] rfl ?_
          refine zW.widen (k' := K) (n' := N) (by omega) (by omega) ?_
          exact hkk g27 hf
        · replace hf := zif_pos h30 hf
          refine z_aload_n hX dL_law__1542 5 rfl ?_
          refine z_iconst hX dL_law__1543 ci_0 ?_
          replace hf := zchk_some hf
          obtain ⟨h31, hf⟩ := hf
          refine z_lald hX zq_508 h31 dL_law__1544 ?_
          refine z_iload hX dL_law__1545 0 rfl ?_
          refine z_i2l hX dL_law__1547 ?_
          refine z_lcmp hX dL_law__1548 ?_
          refine z_if_eq hX 1554 dL_law__1549 (by decide) (fun h32 => ?_) (fun h32 => ?_)
          · replace hf := zif_pos h32 hf
            refine z_goto hX 3587 dL_law__1554 (by decide) ?_
            refine zW.sub [2, 3, 4, 5, 6] rfl ?_
            refine zW.widen (k' := K) (n' := N) (by omega) (by omega) ?_
            exact hkk g27 hf
          · replace hf := zif_neg h32 hf
            exact zno hf
      · replace hf := zif_neg h29 hf
        exact zno hf
    · replace hf := zif_neg h26 hf
      refine z_iconst hX dL_law__1516 ci_1 ?_
      refine z_goto hX 1521 dL_law__1517 (by decide) ?_
      replace hf := zb2_some hf
      obtain ⟨r_33, g33, h33, hf⟩ := hf
      refine z_callV1 hX ok_X12_says q1953 q1954 q1955 (zrm_law hR (by decide) hKa hNa (by omega) (by omega)) (ct_X12_says  h33) (zrec_Model hX zq_493) dL_law__1521 rfl rfl ?_
      refine z_istore (lv' := [(6, .int r_33), (5, .int r_22), (0, .ref b), (1, .ref (zB X + 0)), (2, .ref (zB X + 493)), (3, .ref (zB X + 508)), (4, .int v4)]) hX dL_law__1524 hn (by decide) rfl ?_
      refine z_aload_n hX dL_law__1526 4 rfl ?_
      replace hf := zb_some hf
      obtain ⟨r_34, h34, hf⟩ := hf
      refine z_callV1 hX ok_X12_thrown q1484 q1485 q1486 (zrm_law hR (by decide) hKa hNa (by omega) (by omega)) (ct_X12_thrown  h34) (zrec_Model hX zq_493) dL_law__1527 rfl rfl ?_
      refine z_iload hX dL_law__1530 1 rfl ?_
      refine z_icmp_eq hX 1537 dL_law__1532 (by decide) (fun h35 => ?_) (fun h35 => ?_)
      · replace hf := zif_pos h35 hf
        refine z_iload hX dL_law__1537 1 rfl ?_
        refine z_if_ne hX 1554 dL_law__1539 (by decide) (fun h36 => ?_) (fun h36 => ?_)
        · replace hf := zif_neg h36 hf
          refine z_goto hX 3587 dL_law__1554 (by decide) ?_
          refine zW.sub [2, 3, 4, 5, 6] rfl ?_
          refine zW.widen (k' := K) (n' := N) (by omega) (by omega) ?_
          exact hkk g33 hf
        · replace hf := zif_pos h36 hf
          refine z_aload_n hX dL_law__1542 5 rfl ?_
          refine z_iconst hX dL_law__1543 ci_0 ?_
          replace hf := zchk_some hf
          obtain ⟨h37, hf⟩ := hf
          refine z_lald hX zq_508 h37 dL_law__1544 ?_
          refine z_iload hX dL_law__1545 0 rfl ?_
          refine z_i2l hX dL_law__1547 ?_
          refine z_lcmp hX dL_law__1548 ?_
          refine z_if_eq hX 1554 dL_law__1549 (by decide) (fun h38 => ?_) (fun h38 => ?_)
          · replace hf := zif_pos h38 hf
            refine z_goto hX 3587 dL_law__1554 (by decide) ?_
            refine zW.sub [2, 3, 4, 5, 6] rfl ?_
            refine zW.widen (k' := K) (n' := N) (by omega) (by omega) ?_
            exact hkk g33 hf
          · replace hf := zif_neg h38 hf
            exact zno hf
      · replace hf := zif_neg h35 hf
        exact zno hf
def fLc_20 (L : Nat) (xs : Nat → Int32) (kk : zM → Option Unit) (v4 : Int32) (g : zM) : Option Unit := zchk (v4 + 1) L (zb2 (fL_stops (xs (v4 + 1).toNatClampNeg) g) (fun r_2 g2 => zchk (v4 + 1) L (zb2 (fX12_stops (xs (v4 + 1).toNatClampNeg) g2) (fun r_4 g4 => zb (fX12_thrown g4) (fun r_5 => if r_5 = r_2 then if r_2 = 0 then zchk 0 1 (if (lg_cmp ((g4 508 (0 : Int32).toNatClampNeg).toInt64) r_4.toInt64) = 0 then kk g4 else none) else kk g4 else none)))))
set_option maxHeartbeats 4000000 in
set_option maxRecDepth 100000 in
theorem fLc_20_ok {X : zX} (hX : zCX X cL_law_ RL) (hR : X.2.2.2.1 = room_1) (hn : X.2.2.2.2.2.2.2.2.2.1.maxLocals = 7) {b L : Nat} {xs : Nat → Int32} (hs : zSc X b L xs) {Q : State → Prop} {k n K N : Nat} (hKa : K ≤ 601024) (hNa : N ≤ 7293034) (hKb : k + 12 ≤ K) (hNb : n + 72 ≤ N) {kk : zM → Option Unit} {v4 : Int32} {g : zM} {r : Unit} (hkk : ∀ g, kk g = some r → zW X Q K N 3587 [(0, .ref b), (1, .ref (zB X + 0)), (2, .ref (zB X + 493)), (3, .ref (zB X + 508)), (4, .int v4)] [] g) (hf : fLc_20 L xs kk v4 g = some r) : zW X Q k n 1557 [(0, .ref b), (1, .ref (zB X + 0)), (2, .ref (zB X + 493)), (3, .ref (zB X + 508)), (4, .int v4)] [] g := by
  unfold fLc_20 at hf
  refine z_aload_n hX dL_law__1557 1 rfl ?_
  refine z_aload_n hX dL_law__1558 0 rfl ?_
  refine z_iload hX dL_law__1559 4 rfl ?_
  refine z_iconst hX dL_law__1561 ci_1 ?_
  refine z_iadd hX dL_law__1562 ?_
  replace hf := zchk_some hf
  obtain ⟨h1, hf⟩ := hf
  refine z_sld hX hs h1 dL_law__1563 ?_
  refine z_aload_n hX dL_law__1564 3 rfl ?_
  replace hf := zb2_some hf
  obtain ⟨r_2, g2, h2, hf⟩ := hf
  refine z_callW1 hX okw_L_stops q1220 q1221 (zrm_law hR (by decide) hKa hNa (by omega) (by omega)) (ct_L_stops h2) dL_law__1565 rfl rfl ?_
  refine z_istore (lv' := [(5, .int r_2), (0, .ref b), (1, .ref (zB X + 0)), (2, .ref (zB X + 493)), (3, .ref (zB X + 508)), (4, .int v4)]) hX dL_law__1568 hn (by decide) rfl ?_
  refine z_aload_n hX dL_law__1570 3 rfl ?_
  refine z_aload_n hX dL_law__1571 1 rfl ?_
  refine z_iload hX dL_law__1572 5 rfl ?_
  refine z_iconst hX dL_law__1574 ci_1 ?_
  refine z_iadd hX dL_law__1575 ?_
  replace hf := zchk_some hf
  obtain ⟨h3, hf⟩ := hf
  refine z_sld hX hs h3 dL_law__1576 ?_
  replace hf := zb2_some hf
  obtain ⟨r_4, g4, h4, hf⟩ := hf
  refine z_callV1 hX ok_X12_stops q1965 q1966 q1967 (zrm_law hR (by decide) hKa hNa (by omega) (by omega)) (ct_X12_stops  h4) (zrec_Model hX zq_493) dL_law__1577 rfl rfl ?_
  refine z_istore (lv' := [(6, .int r_4), (5, .int r_2), (0, .ref b), (1, .ref (zB X + 0)), (2, .ref (zB X + 493)), (3, .ref (zB X + 508)), (4, .int v4)]) hX dL_law__1580 hn (by decide) rfl ?_
  refine z_aload_n hX dL_law__1582 4 rfl ?_
  replace hf := zb_some hf
  obtain ⟨r_5, h5, hf⟩ := hf
  refine z_callV1 hX ok_X12_thrown q1484 q1485 q1486 (zrm_law hR (by decide) hKa hNa (by omega) (by omega)) (ct_X12_thrown  h5) (zrec_Model hX zq_493) dL_law__1583 rfl rfl ?_
  refine z_iload hX dL_law__1586 1 rfl ?_
  refine z_icmp_eq hX 1593 dL_law__1588 (by decide) (fun h6 => ?_) (fun h6 => ?_)
  · replace hf := zif_pos h6 hf
    refine z_iload hX dL_law__1593 1 rfl ?_
    refine z_if_ne hX 1610 dL_law__1595 (by decide) (fun h7 => ?_) (fun h7 => ?_)
    · replace hf := zif_neg h7 hf
      refine z_goto hX 3587 dL_law__1610 (by decide) ?_
      refine zW.sub [2, 3, 4, 5, 6] rfl ?_
      refine zW.widen (k' := K) (n' := N) (by omega) (by omega) ?_
      exact hkk g4 hf
    · replace hf := zif_pos h7 hf
      refine z_aload_n hX dL_law__1598 5 rfl ?_
      refine z_iconst hX dL_law__1599 ci_0 ?_
      replace hf := zchk_some hf
      obtain ⟨h8, hf⟩ := hf
      refine z_lald hX zq_508 h8 dL_law__1600 ?_
      refine z_iload hX dL_law__1601 0 rfl ?_
      refine z_i2l hX dL_law__1603 ?_
      refine z_lcmp hX dL_law__1604 ?_
      refine z_if_eq hX 1610 dL_law__1605 (by decide) (fun h9 => ?_) (fun h9 => ?_)
      · replace hf := zif_pos h9 hf
        refine z_goto hX 3587 dL_law__1610 (by decide) ?_
        refine zW.sub [2, 3, 4, 5, 6] rfl ?_
        refine zW.widen (k' := K) (n' := N) (by omega) (by omega) ?_
        exact hkk g4 hf
      · replace hf := zif_neg h9 hf
        exact zno hf
  · replace hf := zif_neg h6 hf
    exact zno hf
def fLc_21 (L : Nat) (xs : Nat → Int32) (kk : zM → Option Unit) (v4 : Int32) (g : zM) : Option Unit := zchk (v4 + 1) L (zchk (v4 + 2) L (zb2 (fL_stays (xs (v4 + 1).toNatClampNeg) (xs (v4 + 2).toNatClampNeg) g) (fun r_3 g3 => zchk (v4 + 1) L (zchk (v4 + 2) L (zb2 (fX12_stays (xs (v4 + 1).toNatClampNeg) (xs (v4 + 2).toNatClampNeg) g3) (fun r_6 g6 => zb (fX12_thrown g6) (fun r_7 => if r_7 = r_3 then if r_3 = 0 then zchk 0 1 (if (lg_cmp ((g6 508 (0 : Int32).toNatClampNeg).toInt64) r_6.toInt64) = 0 then kk g6 else none) else kk g6 else none)))))))
set_option maxHeartbeats 4000000 in
set_option maxRecDepth 100000 in
theorem fLc_21_ok {X : zX} (hX : zCX X cL_law_ RL) (hR : X.2.2.2.1 = room_1) (hn : X.2.2.2.2.2.2.2.2.2.1.maxLocals = 7) {b L : Nat} {xs : Nat → Int32} (hs : zSc X b L xs) {Q : State → Prop} {k n K N : Nat} (hKa : K ≤ 601024) (hNa : N ≤ 7293034) (hKb : k + 12 ≤ K) (hNb : n + 72 ≤ N) {kk : zM → Option Unit} {v4 : Int32} {g : zM} {r : Unit} (hkk : ∀ g, kk g = some r → zW X Q K N 3587 [(0, .ref b), (1, .ref (zB X + 0)), (2, .ref (zB X + 493)), (3, .ref (zB X + 508)), (4, .int v4)] [] g) (hf : fLc_21 L xs kk v4 g = some r) : zW X Q k n 1613 [(0, .ref b), (1, .ref (zB X + 0)), (2, .ref (zB X + 493)), (3, .ref (zB X + 508)), (4, .int v4)] [] g := by
  unfold fLc_21 at hf
  refine z_aload_n hX dL_law__1613 1 rfl ?_
  refine z_aload_n hX dL_law__1614 0 rfl ?_
  refine z_iload hX dL_law__1615 4 rfl ?_
  refine z_iconst hX dL_law__1617 ci_1 ?_
  refine z_iadd hX dL_law__1618 ?_
  replace hf := zchk_some hf
  obtain ⟨h1, hf⟩ := hf
  refine z_sld hX hs h1 dL_law__1619 ?_
  refine z_aload_n hX dL_law__1620 0 rfl ?_
  refine z_iload hX dL_law__1621 4 rfl ?_
  refine z_iconst hX dL_law__1623 ci_2 ?_
  refine z_iadd hX dL_law__1624 ?_
  replace hf := zchk_some hf
  obtain ⟨h2, hf⟩ := hf
  refine z_sld hX hs h2 dL_law__1625 ?_
  refine z_aload_n hX dL_law__1626 3 rfl ?_
  replace hf := zb2_some hf
  obtain ⟨r_3, g3, h3, hf⟩ := hf
  refine z_callW1 hX okw_L_stays q1227 q1228 (zrm_law hR (by decide) hKa hNa (by omega) (by omega)) (ct_L_stays h3) dL_law__1627 rfl rfl ?_
  refine z_istore (lv' := [(5, .int r_3), (0, .ref b), (1, .ref (zB X + 0)), (2, .ref (zB X + 493)), (3, .ref (zB X + 508)), (4, .int v4)]) hX dL_law__1630 hn (by decide) rfl ?_
  refine z_aload_n hX dL_law__1632 3 rfl ?_
  refine z_aload_n hX dL_law__1633 1 rfl ?_
  refine z_iload hX dL_law__1634 5 rfl ?_
  refine z_iconst hX dL_law__1636 ci_1 ?_
  refine z_iadd hX dL_law__1637 ?_
  replace hf := zchk_some hf
  obtain ⟨h4, hf⟩ := hf
  refine z_sld hX hs h4 dL_law__1638 ?_
  refine z_aload_n hX dL_law__1639 1 rfl ?_
  refine z_iload hX dL_law__1640 5 rfl ?_
  refine z_iconst hX dL_law__1642 ci_2 ?_
  refine z_iadd hX dL_law__1643 ?_
  replace hf := zchk_some hf
  obtain ⟨h5, hf⟩ := hf
  refine z_sld hX hs h5 dL_law__1644 ?_
  replace hf := zb2_some hf
  obtain ⟨r_6, g6, h6, hf⟩ := hf
  refine z_callV1 hX ok_X12_stays q1969 q1970 q1971 (zrm_law hR (by decide) hKa hNa (by omega) (by omega)) (ct_X12_stays  h6) (zrec_Model hX zq_493) dL_law__1645 rfl rfl ?_
  refine z_istore (lv' := [(6, .int r_6), (5, .int r_3), (0, .ref b), (1, .ref (zB X + 0)), (2, .ref (zB X + 493)), (3, .ref (zB X + 508)), (4, .int v4)]) hX dL_law__1648 hn (by decide) rfl ?_
  refine z_aload_n hX dL_law__1650 4 rfl ?_
  replace hf := zb_some hf
  obtain ⟨r_7, h7, hf⟩ := hf
  refine z_callV1 hX ok_X12_thrown q1484 q1485 q1486 (zrm_law hR (by decide) hKa hNa (by omega) (by omega)) (ct_X12_thrown  h7) (zrec_Model hX zq_493) dL_law__1651 rfl rfl ?_
  refine z_iload hX dL_law__1654 1 rfl ?_
  refine z_icmp_eq hX 1661 dL_law__1656 (by decide) (fun h8 => ?_) (fun h8 => ?_)
  · replace hf := zif_pos h8 hf
    refine z_iload hX dL_law__1661 1 rfl ?_
    refine z_if_ne hX 1678 dL_law__1663 (by decide) (fun h9 => ?_) (fun h9 => ?_)
    · replace hf := zif_neg h9 hf
      refine z_goto hX 3587 dL_law__1678 (by decide) ?_
      refine zW.sub [2, 3, 4, 5, 6] rfl ?_
      refine zW.widen (k' := K) (n' := N) (by omega) (by omega) ?_
      exact hkk g6 hf
    · replace hf := zif_pos h9 hf
      refine z_aload_n hX dL_law__1666 5 rfl ?_
      refine z_iconst hX dL_law__1667 ci_0 ?_
      replace hf := zchk_some hf
      obtain ⟨h10, hf⟩ := hf
      refine z_lald hX zq_508 h10 dL_law__1668 ?_
      refine z_iload hX dL_law__1669 0 rfl ?_
      refine z_i2l hX dL_law__1671 ?_
      refine z_lcmp hX dL_law__1672 ?_
      refine z_if_eq hX 1678 dL_law__1673 (by decide) (fun h11 => ?_) (fun h11 => ?_)
      · replace hf := zif_pos h11 hf
        refine z_goto hX 3587 dL_law__1678 (by decide) ?_
        refine zW.sub [2, 3, 4, 5, 6] rfl ?_
        refine zW.widen (k' := K) (n' := N) (by omega) (by omega) ?_
        exact hkk g6 hf
      · replace hf := zif_neg h11 hf
        exact zno hf
  · replace hf := zif_neg h8 hf
    exact zno hf
def fLc_22 (L : Nat) (xs : Nat → Int32) (kk : zM → Option Unit) (v4 : Int32) (g : zM) : Option Unit := zchk (v4 + 1) L (zchk (v4 + 2) L (zchk (v4 + 3) L (zchk (v4 + 4) L (zchk (v4 + 5) L (if (xs (v4 + 5).toNatClampNeg) = 0 then zb2 (fL_send (xs (v4 + 1).toNatClampNeg) (xs (v4 + 2).toNatClampNeg) (xs (v4 + 3).toNatClampNeg) (xs (v4 + 4).toNatClampNeg) 0 g) (fun r_7 g7 => zchk (v4 + 1) L (zchk (v4 + 2) L (zchk (v4 + 3) L (zchk (v4 + 4) L (zchk (v4 + 5) L (if (xs (v4 + 5).toNatClampNeg) = 0 then zb2 (fX12_send (xs (v4 + 1).toNatClampNeg) (xs (v4 + 2).toNatClampNeg) (xs (v4 + 3).toNatClampNeg) (xs (v4 + 4).toNatClampNeg) 0 g7) (fun r_14 g14 => zb (fX12_thrown g14) (fun r_15 => if r_15 = r_7 then if r_7 = 0 then zchk 0 1 (if (lg_cmp ((g14 508 (0 : Int32).toNatClampNeg).toInt64) r_14.toInt64) = 0 then kk g14 else none) else kk g14 else none)) else zb2 (fX12_send (xs (v4 + 1).toNatClampNeg) (xs (v4 + 2).toNatClampNeg) (xs (v4 + 3).toNatClampNeg) (xs (v4 + 4).toNatClampNeg) 1 g7) (fun r_20 g20 => zb (fX12_thrown g20) (fun r_21 => if r_21 = r_7 then if r_7 = 0 then zchk 0 1 (if (lg_cmp ((g20 508 (0 : Int32).toNatClampNeg).toInt64) r_20.toInt64) = 0 then kk g20 else none) else kk g20 else none)))))))) else zb2 (fL_send (xs (v4 + 1).toNatClampNeg) (xs (v4 + 2).toNatClampNeg) (xs (v4 + 3).toNatClampNeg) (xs (v4 + 4).toNatClampNeg) 1 g) (fun r_26 g26 => zchk (v4 + 1) L (zchk (v4 + 2) L (zchk (v4 + 3) L (zchk (v4 + 4) L (zchk (v4 + 5) L (if (xs (v4 + 5).toNatClampNeg) = 0 then zb2 (fX12_send (xs (v4 + 1).toNatClampNeg) (xs (v4 + 2).toNatClampNeg) (xs (v4 + 3).toNatClampNeg) (xs (v4 + 4).toNatClampNeg) 0 g26) (fun r_33 g33 => zb (fX12_thrown g33) (fun r_34 => if r_34 = r_26 then if r_26 = 0 then zchk 0 1 (if (lg_cmp ((g33 508 (0 : Int32).toNatClampNeg).toInt64) r_33.toInt64) = 0 then kk g33 else none) else kk g33 else none)) else zb2 (fX12_send (xs (v4 + 1).toNatClampNeg) (xs (v4 + 2).toNatClampNeg) (xs (v4 + 3).toNatClampNeg) (xs (v4 + 4).toNatClampNeg) 1 g26) (fun r_39 g39 => zb (fX12_thrown g39) (fun r_40 => if r_40 = r_26 then if r_26 = 0 then zchk 0 1 (if (lg_cmp ((g39 508 (0 : Int32).toNatClampNeg).toInt64) r_39.toInt64) = 0 then kk g39 else none) else kk g39 else none)))))))))))))
set_option maxHeartbeats 4000000 in
set_option maxRecDepth 100000 in
theorem fLc_22_ok {X : zX} (hX : zCX X cL_law_ RL) (hR : X.2.2.2.1 = room_1) (hn : X.2.2.2.2.2.2.2.2.2.1.maxLocals = 7) {b L : Nat} {xs : Nat → Int32} (hs : zSc X b L xs) {Q : State → Prop} {k n K N : Nat} (hKa : K ≤ 601024) (hNa : N ≤ 7293034) (hKb : k + 12 ≤ K) (hNb : n + 72 ≤ N) {kk : zM → Option Unit} {v4 : Int32} {g : zM} {r : Unit} (hkk : ∀ g, kk g = some r → zW X Q K N 3587 [(0, .ref b), (1, .ref (zB X + 0)), (2, .ref (zB X + 493)), (3, .ref (zB X + 508)), (4, .int v4)] [] g) (hf : fLc_22 L xs kk v4 g = some r) : zW X Q k n 1681 [(0, .ref b), (1, .ref (zB X + 0)), (2, .ref (zB X + 493)), (3, .ref (zB X + 508)), (4, .int v4)] [] g := by
  unfold fLc_22 at hf
  refine z_aload_n hX dL_law__1681 1 rfl ?_
  refine z_aload_n hX dL_law__1682 0 rfl ?_
  refine z_iload hX dL_law__1683 4 rfl ?_
  refine z_iconst hX dL_law__1685 ci_1 ?_
  refine z_iadd hX dL_law__1686 ?_
  replace hf := zchk_some hf
  obtain ⟨h1, hf⟩ := hf
  refine z_sld hX hs h1 dL_law__1687 ?_
  refine z_aload_n hX dL_law__1688 0 rfl ?_
  refine z_iload hX dL_law__1689 4 rfl ?_
  refine z_iconst hX dL_law__1691 ci_2 ?_
  refine z_iadd hX dL_law__1692 ?_
  replace hf := zchk_some hf
  obtain ⟨h2, hf⟩ := hf
  refine z_sld hX hs h2 dL_law__1693 ?_
  refine z_aload_n hX dL_law__1694 0 rfl ?_
  refine z_iload hX dL_law__1695 4 rfl ?_
  refine z_iconst hX dL_law__1697 ci_3 ?_
  refine z_iadd hX dL_law__1698 ?_
  replace hf := zchk_some hf
  obtain ⟨h3, hf⟩ := hf
  refine z_sld hX hs h3 dL_law__1699 ?_
  refine z_aload_n hX dL_law__1700 0 rfl ?_
  refine z_iload hX dL_law__1701 4 rfl ?_
  refine z_iconst hX dL_law__1703 ci_4 ?_
  refine z_iadd hX dL_law__1704 ?_
  replace hf := zchk_some hf
  obtain ⟨h4, hf⟩ := hf
  refine z_sld hX hs h4 dL_law__1705 ?_
  refine z_aload_n hX dL_law__1706 0 rfl ?_
  refine z_iload hX dL_law__1707 4 rfl ?_
  refine z_iconst hX dL_law__1709 ci_5 ?_
  refine z_iadd hX dL_law__1710 ?_
  replace hf := zchk_some hf
  obtain ⟨h5, hf⟩ := hf
  refine z_sld hX hs h5 dL_law__1711 ?_
  refine z_if_eq hX 1719 dL_law__1712 (by decide) (fun h6 => ?_) (fun h6 => ?_)
  · replace hf := zif_pos h6 hf
    refine z_iconst hX dL_law__1719 ci_0 ?_
    refine z_aload_n hX dL_law__1720 3 rfl ?_
    replace hf := zb2_some hf
    obtain ⟨r_7, g7, h7, hf⟩ := hf
    refine z_callW1 hX okw_L_send q1234 q1235 (zrm_law hR (by decide) hKa hNa (by omega) (by omega)) (ct_L_send h7) dL_law__1721 rfl rfl ?_
    refine z_istore (lv' := [(5, .int r_7), (0, .ref b), (1, .ref (zB X + 0)), (2, .ref (zB X + 493)), (3, .ref (zB X + 508)), (4, .int v4)]) hX dL_law__1724 hn (by decide) rfl ?_
    refine z_aload_n hX dL_law__1726 3 rfl ?_
    refine z_aload_n hX dL_law__1727 1 rfl ?_
    refine z_iload hX dL_law__1728 5 rfl ?_
    refine z_iconst hX dL_law__1730 ci_1 ?_
    refine z_iadd hX dL_law__1731 ?_
    replace hf := zchk_some hf
    obtain ⟨h8, hf⟩ := hf
    refine z_sld hX hs h8 dL_law__1732 ?_
    refine z_aload_n hX dL_law__1733 1 rfl ?_
    refine z_iload hX dL_law__1734 5 rfl ?_
    refine z_iconst hX dL_law__1736 ci_2 ?_
    refine z_iadd hX dL_law__1737 ?_
    replace hf := zchk_some hf
    obtain ⟨h9, hf⟩ := hf
    refine z_sld hX hs h9 dL_law__1738 ?_
    refine z_aload_n hX dL_law__1739 1 rfl ?_
    refine z_iload hX dL_law__1740 5 rfl ?_
    refine z_iconst hX dL_law__1742 ci_3 ?_
    refine z_iadd hX dL_law__1743 ?_
    replace hf := zchk_some hf
    obtain ⟨h10, hf⟩ := hf
    refine z_sld hX hs h10 dL_law__1744 ?_
    refine z_aload_n hX dL_law__1745 1 rfl ?_
    refine z_iload hX dL_law__1746 5 rfl ?_
    refine z_iconst hX dL_law__1748 ci_4 ?_
    refine z_iadd hX dL_law__1749 ?_
    replace hf := zchk_some hf
    obtain ⟨h11, hf⟩ := hf
    refine z_sld hX hs h11 dL_law__1750 ?_
    refine z_aload_n hX dL_law__1751 1 rfl ?_
    refine z_iload hX dL_law__1752 5 rfl ?_
    refine z_iconst hX dL_law__1754 ci_5 ?_
    refine z_iadd hX dL_law__1755 ?_
    replace hf := zchk_some hf
    obtain ⟨h12, hf⟩ := hf
    refine z_sld hX hs h12 dL_law__1756 ?_
    refine z_if_eq hX 1764 dL_law__1757 (by decide) (fun h13 => ?_) (fun h13 => ?_)
    · replace hf := zif_pos h13 hf
      refine z_iconst hX dL_law__1764 ci_0 ?_
      replace hf := zb2_some hf
      obtain ⟨r_14, g14, h14, hf⟩ := hf
      refine z_callV1 hX ok_X12_send q1973 q1974 q1975 (zrm_law hR (by decide) hKa hNa (by omega) (by omega)) (ct_X12_send  h14) (zrec_Model hX zq_493) dL_law__1765 rfl rfl ?_
      refine z_istore (lv' := [(6, .int r_14), (5, .int r_7), (0, .ref b), (1, .ref (zB X + 0)), (2, .ref (zB X + 493)), (3, .ref (zB X + 508)), (4, .int v4)]) hX dL_law__1768 hn (by decide) rfl ?_
      refine z_aload_n hX dL_law__1770 4 rfl ?_
      replace hf := zb_some hf
      obtain ⟨r_15, h15, hf⟩ := hf
      refine z_callV1 hX ok_X12_thrown q1484 q1485 q1486 (zrm_law hR (by decide) hKa hNa (by omega) (by omega)) (ct_X12_thrown  h15) (zrec_Model hX zq_493) dL_law__1771 rfl rfl ?_
      refine z_iload hX dL_law__1774 1 rfl ?_
      refine z_icmp_eq hX 1781 dL_law__1776 (by decide) (fun h16 => ?_) (fun h16 => ?_)
      · replace hf := zif_pos h16 hf
        refine z_iload hX dL_law__1781 1 rfl ?_
        refine z_if_ne hX 1798 dL_law__1783 (by decide) (fun h17 => ?_) (fun h17 => ?_)
        · replace hf := zif_neg h17 hf
          refine z_goto hX 3587 dL_law__1798 (by decide) ?_
          refine zW.sub [2, 3, 4, 5, 6] rfl ?_
          refine zW.widen (k' := K) (n' := N) (by omega) (by omega) ?_
          exact hkk g14 hf
        · replace hf := zif_pos h17 hf
          refine z_aload_n hX dL_law__1786 5 rfl ?_
          refine z_iconst hX dL_law__1787 ci_0 ?_
          replace hf := zchk_some hf
          obtain ⟨h18, hf⟩ := hf
          refine z_lald hX zq_508 h18 dL_law__1788 ?_
          refine z_iload hX dL_law__1789 0 rfl ?_
          refine z_i2l hX dL_law__1791 ?_
          refine z_lcmp hX dL_law__1792 ?_
          refine z_if_eq hX 1798 dL_law__1793 (by decide) (fun h19 => ?_) (fun h19 => ?_)
          · replace hf := zif_pos h19 hf
            refine z_goto hX 3587 dL_law__1798 (by decide) ?_
            refine zW.sub [2, 3, 4, 5, 6] rfl ?_
            refine zW.widen (k' := K) (n' := N) (by omega) (by omega) ?_
            exact hkk g14 hf
          · replace hf := zif_neg h19 hf
            exact zno hf
      · replace hf := zif_neg h16 hf
        exact zno hf
    · replace hf := zif_neg h13 hf
      refine z_iconst hX dL_law__1760 ci_1 ?_
      refine z_goto hX 1765 dL_law__1761 (by decide) ?_
      replace hf := zb2_some hf
      obtain ⟨r_20, g20, h20, hf⟩ := hf
      refine z_callV1 hX ok_X12_send q1973 q1974 q1975 (zrm_law hR (by decide) hKa hNa (by omega) (by omega)) (ct_X12_send  h20) (zrec_Model hX zq_493) dL_law__1765 rfl rfl ?_
      refine z_istore (lv' := [(6, .int r_20), (5, .int r_7), (0, .ref b), (1, .ref (zB X + 0)), (2, .ref (zB X + 493)), (3, .ref (zB X + 508)), (4, .int v4)]) hX dL_law__1768 hn (by decide) rfl ?_
      refine z_aload_n hX dL_law__1770 4 rfl ?_
      replace hf := zb_some hf
      obtain ⟨r_21, h21, hf⟩ := hf
      refine z_callV1 hX ok_X12_thrown q1484 q1485 q1486 (zrm_law hR (by decide) hKa hNa (by omega) (by omega)) (ct_X12_thrown  h21) (zrec_Model hX zq_493) dL_law__1771 rfl rfl ?_
      refine z_iload hX dL_law__1774 1 rfl ?_
      refine z_icmp_eq hX 1781 dL_law__1776 (by decide) (fun h22 => ?_) (fun h22 => ?_)
      · replace hf := zif_pos h22 hf
        refine z_iload hX dL_law__1781 1 rfl ?_
        refine z_if_ne hX 1798 dL_law__1783 (by decide) (fun h23 => ?_) (fun h23 => ?_)
        · replace hf := zif_neg h23 hf
          refine z_goto hX 3587 dL_law__1798 (by decide) ?_
          refine zW.sub [2, 3, 4, 5, 6] rfl ?_
          refine zW.widen (k' := K) (n' := N) (by omega) (by omega) ?_
          exact hkk g20 hf
        · replace hf := zif_pos h23 hf
          refine z_aload_n hX dL_law__1786 5 rfl ?_
          refine z_iconst hX dL_law__1787 ci_0 ?_
          replace hf := zchk_some hf
          obtain ⟨h24, hf⟩ := hf
          refine z_lald hX zq_508 h24 dL_law__1788 ?_
          refine z_iload hX dL_law__1789 0 rfl ?_
          refine z_i2l hX dL_law__1791 ?_
          refine z_lcmp hX dL_law__1792 ?_
          refine z_if_eq hX 1798 dL_law__1793 (by decide) (fun h25 => ?_) (fun h25 => ?_)
          · replace hf := zif_pos h25 hf
            refine z_goto hX 3587 dL_law__1798 (by decide) ?_
            refine zW.sub [2, 3, 4, 5, 6] rfl ?_
            refine zW.widen (k' := K) (n' := N) (by omega) (by omega) ?_
            exact hkk g20 hf
          · replace hf := zif_neg h25 hf
            exact zno hf
      · replace hf := zif_neg h22 hf
        exact zno hf
  · replace hf := zif_neg h6 hf
    refine z_iconst hX dL_law__1715 ci_1 ?_
    refine z_goto hX 1720 dL_law__1716 (by decide) ?_
    refine z_aload_n hX dL_law__1720 3 rfl ?_
    replace hf := zb2_some hf
    obtain ⟨r_26, g26, h26, hf⟩ := hf
    refine z_callW1 hX okw_L_send q1234 q1235 (zrm_law hR (by decide) hKa hNa (by omega) (by omega)) (ct_L_send h26) dL_law__1721 rfl rfl ?_
    refine z_istore (lv' := [(5, .int r_26), (0, .ref b), (1, .ref (zB X + 0)), (2, .ref (zB X + 493)), (3, .ref (zB X + 508)), (4, .int v4)]) hX dL_law__1724 hn (by decide) rfl ?_
    refine z_aload_n hX dL_law__1726 3 rfl ?_
    refine z_aload_n hX dL_law__1727 1 rfl ?_
    refine z_iload hX dL_law__1728 5 rfl ?_
    refine z_iconst hX dL_law__1730 ci_1 ?_
    refine z_iadd hX dL_law__1731 ?_
    replace hf := zchk_some hf
    obtain ⟨h27, hf⟩ := hf
    refine z_sld hX hs h27 dL_law__1732 ?_
    refine z_aload_n hX dL_law__1733 1 rfl ?_
    refine z_iload hX dL_law__1734 5 rfl ?_
    refine z_iconst hX dL_law__1736 ci_2 ?_
    refine z_iadd hX dL_law__1737 ?_
    replace hf := zchk_some hf
    obtain ⟨h28, hf⟩ := hf
    refine z_sld hX hs h28 dL_law__1738 ?_
    refine z_aload_n hX dL_law__1739 1 rfl ?_
    refine z_iload hX dL_law__1740 5 rfl ?_
    refine z_iconst hX dL_law__1742 ci_3 ?_
    refine z_iadd hX dL_law__1743 ?_
    replace hf := zchk_some hf
    obtain ⟨h29, hf⟩ := hf
    refine z_sld hX hs h29 dL_law__1744 ?_
    refine z_aload_n hX dL_law__1745 1 rfl ?_
    refine z_iload hX dL_law__1746 5 rfl ?_
    refine z_iconst hX dL_law__1748 ci_4 ?_
    refine z_iadd hX dL_law__1749 ?_
    replace hf := zchk_some hf
    obtain ⟨h30, hf⟩ := hf
    refine z_sld hX hs h30 dL_law__1750 ?_
    refine z_aload_n hX dL_law__1751 1 rfl ?_
    refine z_iload hX dL_law__1752 5 rfl ?_
    refine z_iconst hX dL_law__1754 ci_5 ?_
    refine z_iadd hX dL_law__1755 ?_
    replace hf := zchk_some hf
    obtain ⟨h31, hf⟩ := hf
    refine z_sld hX hs h31 dL_law__1756 ?_
    refine z_if_eq hX 1764 dL_law__1757 (by decide) (fun h32 => ?_) (fun h32 => ?_)
    · replace hf := zif_pos h32 hf
      refine z_iconst hX dL_law__1764 ci_0 ?_
      replace hf := zb2_some hf
      obtain ⟨r_33, g33, h33, hf⟩ := hf
      refine z_callV1 hX ok_X12_send q1973 q1974 q1975 (zrm_law hR (by decide) hKa hNa (by omega) (by omega)) (ct_X12_send  h33) (zrec_Model hX zq_493) dL_law__1765 rfl rfl ?_
      refine z_istore (lv' := [(6, .int r_33), (5, .int r_26), (0, .ref b), (1, .ref (zB X + 0)), (2, .ref (zB X + 493)), (3, .ref (zB X + 508)), (4, .int v4)]) hX dL_law__1768 hn (by decide) rfl ?_
      refine z_aload_n hX dL_law__1770 4 rfl ?_
      replace hf := zb_some hf
      obtain ⟨r_34, h34, hf⟩ := hf
      refine z_callV1 hX ok_X12_thrown q1484 q1485 q1486 (zrm_law hR (by decide) hKa hNa (by omega) (by omega)) (ct_X12_thrown  h34) (zrec_Model hX zq_493) dL_law__1771 rfl rfl ?_
      refine z_iload hX dL_law__1774 1 rfl ?_
      refine z_icmp_eq hX 1781 dL_law__1776 (by decide) (fun h35 => ?_) (fun h35 => ?_)
      · replace hf := zif_pos h35 hf
        refine z_iload hX dL_law__1781 1 rfl ?_
        refine z_if_ne hX 1798 dL_law__1783 (by decide) (fun h36 => ?_) (fun h36 => ?_)
        · replace hf := zif_neg h36 hf
          refine z_goto hX 3587 dL_law__1798 (by decide) ?_
          refine zW.sub [2, 3, 4, 5, 6] rfl ?_
          refine zW.widen (k' := K) (n' := N) (by omega) (by omega) ?_
          exact hkk g33 hf
        · replace hf := zif_pos h36 hf
          refine z_aload_n hX dL_law__1786 5 rfl ?_
          refine z_iconst hX dL_law__1787 ci_0 ?_
          replace hf := zchk_some hf
          obtain ⟨h37, hf⟩ := hf
          refine z_lald hX zq_508 h37 dL_law__1788 ?_
          refine z_iload hX dL_law__1789 0 rfl ?_
          refine z_i2l hX dL_law__1791 ?_
          refine z_lcmp hX dL_law__1792 ?_
          refine z_if_eq hX 1798 dL_law__1793 (by decide) (fun h38 => ?_) (fun h38 => ?_)
          · replace hf := zif_pos h38 hf
            refine z_goto hX 3587 dL_law__1798 (by decide) ?_
            refine zW.sub [2, 3, 4, 5, 6] rfl ?_
            refine zW.widen (k' := K) (n' := N) (by omega) (by omega) ?_
            exact hkk g33 hf
          · replace hf := zif_neg h38 hf
            exact zno hf
      · replace hf := zif_neg h35 hf
        exact zno hf
    · replace hf := zif_neg h32 hf
      refine z_iconst hX dL_law__1760 ci_1 ?_
      refine z_goto hX 1765 dL_law__1761 (by decide) ?_
      replace hf := zb2_some hf
      obtain ⟨r_39, g39, h39, hf⟩ := hf
      refine z_callV1 hX ok_X12_send q1973 q1974 q1975 (zrm_law hR (by decide) hKa hNa (by omega) (by omega)) (ct_X12_send  h39) (zrec_Model hX zq_493) dL_law__1765 rfl rfl ?_
      refine z_istore (lv' := [(6, .int r_39), (5, .int r_26), (0, .ref b), (1, .ref (zB X + 0)), (2, .ref (zB X + 493)), (3, .ref (zB X + 508)), (4, .int v4)]) hX dL_law__1768 hn (by decide) rfl ?_
      refine z_aload_n hX dL_law__1770 4 rfl ?_
      replace hf := zb_some hf
      obtain ⟨r_40, h40, hf⟩ := hf
      refine z_callV1 hX ok_X12_thrown q1484 q1485 q1486 (zrm_law hR (by decide) hKa hNa (by omega) (by omega)) (ct_X12_thrown  h40) (zrec_Model hX zq_493) dL_law__1771 rfl rfl ?_
      refine z_iload hX dL_law__1774 1 rfl ?_
      refine z_icmp_eq hX 1781 dL_law__1776 (by decide) (fun h41 => ?_) (fun h41 => ?_)
      · replace hf := zif_pos h41 hf
        refine z_iload hX dL_law__1781 1 rfl ?_
        refine z_if_ne hX 1798 dL_law__1783 (by decide) (fun h42 => ?_) (fun h42 => ?_)
        · replace hf := zif_neg h42 hf
          refine z_goto hX 3587 dL_law__1798 (by decide) ?_
          refine zW.sub [2, 3, 4, 5, 6] rfl ?_
          refine zW.widen (k' := K) (n' := N) (by omega) (by omega) ?_
          exact hkk g39 hf
        · replace hf := zif_pos h42 hf
          refine z_aload_n hX dL_law__1786 5 rfl ?_
          refine z_iconst hX dL_law__1787 ci_0 ?_
          replace hf := zchk_some hf
          obtain ⟨h43, hf⟩ := hf
          refine z_lald hX zq_508 h43 dL_law__1788 ?_
          refine z_iload hX dL_law__1789 0 rfl ?_
          refine z_i2l hX dL_law__1791 ?_
          refine z_lcmp hX dL_law__1792 ?_
          refine z_if_eq hX 1798 dL_law__1793 (by decide) (fun h44 => ?_) (fun h44 => ?_)
          · replace hf := zif_pos h44 hf
            refine z_goto hX 3587 dL_law__1798 (by decide) ?_
            refine zW.sub [2, 3, 4, 5, 6] rfl ?_
            refine zW.widen (k' := K) (n' := N) (by omega) (by omega) ?_
            exact hkk g39 hf
          · replace hf := zif_neg h44 hf
            exact zno hf
      · replace hf := zif_neg h41 hf
        exact zno hf
def fLc_23 (L : Nat) (xs : Nat → Int32) (kk : zM → Option Unit) (v4 : Int32) (g : zM) : Option Unit := zchk (v4 + 1) L (zchk (v4 + 2) L (zchk (v4 + 3) L (zchk (v4 + 4) L (if (xs (v4 + 4).toNatClampNeg) = 0 then zb2 (fL_cuts (xs (v4 + 1).toNatClampNeg) (xs (v4 + 2).toNatClampNeg) (xs (v4 + 3).toNatClampNeg) 0 g) (fun r_6 g6 => zchk (v4 + 1) L (zchk (v4 + 2) L (zchk (v4 + 3) L (zchk (v4 + 4) L (if (xs (v4 + 4).toNatClampNeg) = 0 then zb2 (fX12_cuts (xs (v4 + 1).toNatClampNeg) (xs (v4 + 2).toNatClampNeg) (xs (v4 + 3).toNatClampNeg) 0 g6) (fun r_12 g12 => zb (fX12_thrown g12) (fun r_13 => if r_13 = r_6 then if r_6 = 0 then zchk 0 1 (if (lg_cmp ((g12 508 (0 : Int32).toNatClampNeg).toInt64) r_12.toInt64) = 0 then kk g12 else none) else kk g12 else none)) else zb2 (fX12_cuts (xs (v4 + 1).toNatClampNeg) (xs (v4 + 2).toNatClampNeg) (xs (v4 + 3).toNatClampNeg) 1 g6) (fun r_18 g18 => zb (fX12_thrown g18) (fun r_19 => if r_19 = r_6 then if r_6 = 0 then zchk 0 1 (if (lg_cmp ((g18 508 (0 : Int32).toNatClampNeg).toInt64) r_18.toInt64) = 0 then kk g18 else none) else kk g18 else none))))))) else zb2 (fL_cuts (xs (v4 + 1).toNatClampNeg) (xs (v4 + 2).toNatClampNeg) (xs (v4 + 3).toNatClampNeg) 1 g) (fun r_24 g24 => zchk (v4 + 1) L (zchk (v4 + 2) L (zchk (v4 + 3) L (zchk (v4 + 4) L (if (xs (v4 + 4).toNatClampNeg) = 0 then zb2 (fX12_cuts (xs (v4 + 1).toNatClampNeg) (xs (v4 + 2).toNatClampNeg) (xs (v4 + 3).toNatClampNeg) 0 g24) (fun r_30 g30 => zb (fX12_thrown g30) (fun r_31 => if r_31 = r_24 then if r_24 = 0 then zchk 0 1 (if (lg_cmp ((g30 508 (0 : Int32).toNatClampNeg).toInt64) r_30.toInt64) = 0 then kk g30 else none) else kk g30 else none)) else zb2 (fX12_cuts (xs (v4 + 1).toNatClampNeg) (xs (v4 + 2).toNatClampNeg) (xs (v4 + 3).toNatClampNeg) 1 g24) (fun r_36 g36 => zb (fX12_thrown g36) (fun r_37 => if r_37 = r_24 then if r_24 = 0 then zchk 0 1 (if (lg_cmp ((g36 508 (0 : Int32).toNatClampNeg).toInt64) r_36.toInt64) = 0 then kk g36 else none) else kk g36 else none)))))))))))
set_option maxHeartbeats 4000000 in
set_option maxRecDepth 100000 in
theorem fLc_23_ok {X : zX} (hX : zCX X cL_law_ RL) (hR : X.2.2.2.1 = room_1) (hn : X.2.2.2.2.2.2.2.2.2.1.maxLocals = 7) {b L : Nat} {xs : Nat → Int32} (hs : zSc X b L xs) {Q : State → Prop} {k n K N : Nat} (hKa : K ≤ 601024) (hNa : N ≤ 7293034) (hKb : k + 12 ≤ K) (hNb : n + 72 ≤ N) {kk : zM → Option Unit} {v4 : Int32} {g : zM} {r : Unit} (hkk : ∀ g, kk g = some r → zW X Q K N 3587 [(0, .ref b), (1, .ref (zB X + 0)), (2, .ref (zB X + 493)), (3, .ref (zB X + 508)), (4, .int v4)] [] g) (hf : fLc_23 L xs kk v4 g = some r) : zW X Q k n 1801 [(0, .ref b), (1, .ref (zB X + 0)), (2, .ref (zB X + 493)), (3, .ref (zB X + 508)), (4, .int v4)] [] g := by
  unfold fLc_23 at hf
  refine z_aload_n hX dL_law__1801 1 rfl ?_
  refine z_aload_n hX dL_law__1802 0 rfl ?_
  refine z_iload hX dL_law__1803 4 rfl ?_
  refine z_iconst hX dL_law__1805 ci_1 ?_
  refine z_iadd hX dL_law__1806 ?_
  replace hf := zchk_some hf
  obtain ⟨h1, hf⟩ := hf
  refine z_sld hX hs h1 dL_law__1807 ?_
  refine z_aload_n hX dL_law__1808 0 rfl ?_
  refine z_iload hX dL_law__1809 4 rfl ?_
  refine z_iconst hX dL_law__1811 ci_2 ?_
  refine z_iadd hX dL_law__1812 ?_
  replace hf := zchk_some hf
  obtain ⟨h2, hf⟩ := hf
  refine z_sld hX hs h2 dL_law__1813 ?_
  refine z_aload_n hX dL_law__1814 0 rfl ?_
  refine z_iload hX dL_law__1815 4 rfl ?_
  refine z_iconst hX dL_law__1817 ci_3 ?_
  refine z_iadd hX dL_law__1818 ?_
  replace hf := zchk_some hf
  obtain ⟨h3, hf⟩ := hf
  refine z_sld hX hs h3 dL_law__1819 ?_
  refine z_aload_n hX dL_law__1820 0 rfl ?_
  refine z_iload hX dL_law__1821 4 rfl ?_
  refine z_iconst hX dL_law__1823 ci_4 ?_
  refine z_iadd hX dL_law__1824 ?_
  replace hf := zchk_some hf
  obtain ⟨h4, hf⟩ := hf
  refine z_sld hX hs h4 dL_law__1825 ?_
  refine z_if_eq hX 1833 dL_law__1826 (by decide) (fun h5 => ?_) (fun h5 => ?_)
  · replace hf := zif_pos h5 hf
    refine z_iconst hX dL_law__1833 ci_0 ?_
    refine z_aload_n hX dL_law__1834 3 rfl ?_
    replace hf := zb2_some hf
    obtain ⟨r_6, g6, h6, hf⟩ := hf
    refine z_callW1 hX okw_L_cuts q1250 q1251 (zrm_law hR (by decide) hKa hNa (by omega) (by omega)) (ct_L_cuts h6) dL_law__1835 rfl rfl ?_
    refine z_istore (lv' := [(5, .int r_6), (0, .ref b), (1, .ref (zB X + 0)), (2, .ref (zB X + 493)), (3, .ref (zB X + 508)), (4, .int v4)]) hX dL_law__1838 hn (by decide) rfl ?_
    refine z_aload_n hX dL_law__1840 3 rfl ?_
    refine z_aload_n hX dL_law__1841 1 rfl ?_
    refine z_iload hX dL_law__1842 5 rfl ?_
    refine z_iconst hX dL_law__1844 ci_1 ?_
    refine z_iadd hX dL_law__1845 ?_
    replace hf := zchk_some hf
    obtain ⟨h7, hf⟩ := hf
    refine z_sld hX hs h7 dL_law__1846 ?_
    refine z_aload_n hX dL_law__1847 1 rfl ?_
    refine z_iload hX dL_law__1848 5 rfl ?_
    refine z_iconst hX dL_law__1850 ci_2 ?_
    refine z_iadd hX dL_law__1851 ?_
    replace hf := zchk_some hf
    obtain ⟨h8, hf⟩ := hf
    refine z_sld hX hs h8 dL_law__1852 ?_
    refine z_aload_n hX dL_law__1853 1 rfl ?_
    refine z_iload hX dL_law__1854 5 rfl ?_
    refine z_iconst hX dL_law__1856 ci_3 ?_
    refine z_iadd hX dL_law__1857 ?_
    replace hf := zchk_some hf
    obtain ⟨h9, hf⟩ := hf
    refine z_sld hX hs h9 dL_law__1858 ?_
    refine z_aload_n hX dL_law__1859 1 rfl ?_
    refine z_iload hX dL_law__1860 5 rfl ?_
    refine z_iconst hX dL_law__1862 ci_4 ?_
    refine z_iadd hX dL_law__1863 ?_
    replace hf := zchk_some hf
    obtain ⟨h10, hf⟩ := hf
    refine z_sld hX hs h10 dL_law__1864 ?_
    refine z_if_eq hX 1872 dL_law__1865 (by decide) (fun h11 => ?_) (fun h11 => ?_)
    · replace hf := zif_pos h11 hf
      refine z_iconst hX dL_law__1872 ci_0 ?_
      replace hf := zb2_some hf
      obtain ⟨r_12, g12, h12, hf⟩ := hf
      refine z_callV1 hX ok_X12_cuts q1981 q1982 q1983 (zrm_law hR (by decide) hKa hNa (by omega) (by omega)) (ct_X12_cuts  h12) (zrec_Model hX zq_493) dL_law__1873 rfl rfl ?_
      refine z_istore (lv' := [(6, .int r_12), (5, .int r_6), (0, .ref b), (1, .ref (zB X + 0)), (2, .ref (zB X + 493)), (3, .ref (zB X + 508)), (4, .int v4)]) hX dL_law__1876 hn (by decide) rfl ?_
      refine z_aload_n hX dL_law__1878 4 rfl ?_
      replace hf := zb_some hf
      obtain ⟨r_13, h13, hf⟩ := hf
      refine z_callV1 hX ok_X12_thrown q1484 q1485 q1486 (zrm_law hR (by decide) hKa hNa (by omega) (by omega)) (ct_X12_thrown  h13) (zrec_Model hX zq_493) dL_law__1879 rfl rfl ?_
      refine z_iload hX dL_law__1882 1 rfl ?_
      refine z_icmp_eq hX 1889 dL_law__1884 (by decide) (fun h14 => ?_) (fun h14 => ?_)
      · replace hf := zif_pos h14 hf
        refine z_iload hX dL_law__1889 1 rfl ?_
        refine z_if_ne hX 1906 dL_law__1891 (by decide) (fun h15 => ?_) (fun h15 => ?_)
        · replace hf := zif_neg h15 hf
          refine z_goto hX 3587 dL_law__1906 (by decide) ?_
          refine zW.sub [2, 3, 4, 5, 6] rfl ?_
          refine zW.widen (k' := K) (n' := N) (by omega) (by omega) ?_
          exact hkk g12 hf
        · replace hf := zif_pos h15 hf
          refine z_aload_n hX dL_law__1894 5 rfl ?_
          refine z_iconst hX dL_law__1895 ci_0 ?_
          replace hf := zchk_some hf
          obtain ⟨h16, hf⟩ := hf
          refine z_lald hX zq_508 h16 dL_law__1896 ?_
          refine z_iload hX dL_law__1897 0 rfl ?_
          refine z_i2l hX dL_law__1899 ?_
          refine z_lcmp hX dL_law__1900 ?_
          refine z_if_eq hX 1906 dL_law__1901 (by decide) (fun h17 => ?_) (fun h17 => ?_)
          · replace hf := zif_pos h17 hf
            refine z_goto hX 3587 dL_law__1906 (by decide) ?_
            refine zW.sub [2, 3, 4, 5, 6] rfl ?_
            refine zW.widen (k' := K) (n' := N) (by omega) (by omega) ?_
            exact hkk g12 hf
          · replace hf := zif_neg h17 hf
            exact zno hf
      · replace hf := zif_neg h14 hf
        exact zno hf
    · replace hf := zif_neg h11 hf
      refine z_iconst hX dL_law__1868 ci_1 ?_
      refine z_goto hX 1873 dL_law__1869 (by decide) ?_
      replace hf := zb2_some hf
      obtain ⟨r_18, g18, h18, hf⟩ := hf
      refine z_callV1 hX ok_X12_cuts q1981 q1982 q1983 (zrm_law hR (by decide) hKa hNa (by omega) (by omega)) (ct_X12_cuts  h18) (zrec_Model hX zq_493) dL_law__1873 rfl rfl ?_
      refine z_istore (lv' := [(6, .int r_18), (5, .int r_6), (0, .ref b), (1, .ref (zB X + 0)), (2, .ref (zB X + 493)), (3, .ref (zB X + 508)), (4, .int v4)]) hX dL_law__1876 hn (by decide) rfl ?_
      refine z_aload_n hX dL_law__1878 4 rfl ?_
      replace hf := zb_some hf
      obtain ⟨r_19, h19, hf⟩ := hf
      refine z_callV1 hX ok_X12_thrown q1484 q1485 q1486 (zrm_law hR (by decide) hKa hNa (by omega) (by omega)) (ct_X12_thrown  h19) (zrec_Model hX zq_493) dL_law__1879 rfl rfl ?_
      refine z_iload hX dL_law__1882 1 rfl ?_
      refine z_icmp_eq hX 1889 dL_law__1884 (by decide) (fun h20 => ?_) (fun h20 => ?_)
      · replace hf := zif_pos h20 hf
        refine z_iload hX dL_law__1889 1 rfl ?_
        refine z_if_ne hX 1906 dL_law__1891 (by decide) (fun h21 => ?_) (fun h21 => ?_)
        · replace hf := zif_neg h21 hf
          refine z_goto hX 3587 dL_law__1906 (by decide) ?_
          refine zW.sub [2, 3, 4, 5, 6] rfl ?_
          refine zW.widen (k' := K) (n' := N) (by omega) (by omega) ?_
          exact hkk g18 hf
        · replace hf := zif_pos h21 hf
          refine z_aload_n hX dL_law__1894 5 rfl ?_
          refine z_iconst hX dL_law__1895 ci_0 ?_
          replace hf := zchk_some hf
          obtain ⟨h22, hf⟩ := hf
          refine z_lald hX zq_508 h22 dL_law__1896 ?_
          refine z_iload hX dL_law__1897 0 rfl ?_
          refine z_i2l hX dL_law__1899 ?_
          refine z_lcmp hX dL_law__1900 ?_
          refine z_if_eq hX 1906 dL_law__1901 (by decide) (fun h23 => ?_) (fun h23 => ?_)
          · replace hf := zif_pos h23 hf
            refine z_goto hX 3587 dL_law__1906 (by decide) ?_
            refine zW.sub [2, 3, 4, 5, 6] rfl ?_
            refine zW.widen (k' := K) (n' := N) (by omega) (by omega) ?_
            exact hkk g18 hf
          · replace hf := zif_neg h23 hf
            exact zno hf
      · replace hf := zif_neg h20 hf
        exact zno hf
  · replace hf := zif_neg h5 hf
    refine z_iconst hX dL_law__1829 ci_1 ?_
    refine z_goto hX 1834 dL_law__1830 (by decide) ?_
    refine z_aload_n hX dL_law__1834 3 rfl ?_
    replace hf := zb2_some hf
    obtain ⟨r_24, g24, h24, hf⟩ := hf
    refine z_callW1 hX okw_L_cuts q1250 q1251 (zrm_law hR (by decide) hKa hNa (by omega) (by omega)) (ct_L_cuts h24) dL_law__1835 rfl rfl ?_
    refine z_istore (lv' := [(5, .int r_24), (0, .ref b), (1, .ref (zB X + 0)), (2, .ref (zB X + 493)), (3, .ref (zB X + 508)), (4, .int v4)]) hX dL_law__1838 hn (by decide) rfl ?_
    refine z_aload_n hX dL_law__1840 3 rfl ?_
    refine z_aload_n hX dL_law__1841 1 rfl ?_
    refine z_iload hX dL_law__1842 5 rfl ?_
    refine z_iconst hX dL_law__1844 ci_1 ?_
    refine z_iadd hX dL_law__1845 ?_
    replace hf := zchk_some hf
    obtain ⟨h25, hf⟩ := hf
    refine z_sld hX hs h25 dL_law__1846 ?_
    refine z_aload_n hX dL_law__1847 1 rfl ?_
    refine z_iload hX dL_law__1848 5 rfl ?_
    refine z_iconst hX dL_law__1850 ci_2 ?_
    refine z_iadd hX dL_law__1851 ?_
    replace hf := zchk_some hf
    obtain ⟨h26, hf⟩ := hf
    refine z_sld hX hs h26 dL_law__1852 ?_
    refine z_aload_n hX dL_law__1853 1 rfl ?_
    refine z_iload hX dL_law__1854 5 rfl ?_
    refine z_iconst hX dL_law__1856 ci_3 ?_
    refine z_iadd hX dL_law__1857 ?_
    replace hf := zchk_some hf
    obtain ⟨h27, hf⟩ := hf
    refine z_sld hX hs h27 dL_law__1858 ?_
    refine z_aload_n hX dL_law__1859 1 rfl ?_
    refine z_iload hX dL_law__1860 5 rfl ?_
    refine z_iconst hX dL_law__1862 ci_4 ?_
    refine z_iadd hX dL_law__1863 ?_
    replace hf := zchk_some hf
    obtain ⟨h28, hf⟩ := hf
    refine z_sld hX hs h28 dL_law__1864 ?_
    refine z_if_eq hX 1872 dL_law__1865 (by decide) (fun h29 => ?_) (fun h29 => ?_)
    · replace hf := zif_pos h29 hf
      refine z_iconst hX dL_law__1872 ci_0 ?_
      replace hf := zb2_some hf
      obtain ⟨r_30, g30, h30, hf⟩ := hf
      refine z_callV1 hX ok_X12_cuts q1981 q1982 q1983 (zrm_law hR (by decide) hKa hNa (by omega) (by omega)) (ct_X12_cuts  h30) (zrec_Model hX zq_493) dL_law__1873 rfl rfl ?_
      refine z_istore (lv' := [(6, .int r_30), (5, .int r_24), (0, .ref b), (1, .ref (zB X + 0)), (2, .ref (zB X + 493)), (3, .ref (zB X + 508)), (4, .int v4)]) hX dL_law__1876 hn (by decide) rfl ?_
      refine z_aload_n hX dL_law__1878 4 rfl ?_
      replace hf := zb_some hf
      obtain ⟨r_31, h31, hf⟩ := hf
      refine z_callV1 hX ok_X12_thrown q1484 q1485 q1486 (zrm_law hR (by decide) hKa hNa (by omega) (by omega)) (ct_X12_thrown  h31) (zrec_Model hX zq_493) dL_law__1879 rfl rfl ?_
      refine z_iload hX dL_law__1882 1 rfl ?_
      refine z_icmp_eq hX 1889 dL_law__1884 (by decide) (fun h32 => ?_) (fun h32 => ?_)
      · replace hf := zif_pos h32 hf
        refine z_iload hX dL_law__1889 1 rfl ?_
        refine z_if_ne hX 1906 dL_law__1891 (by decide) (fun h33 => ?_) (fun h33 => ?_)
        · replace hf := zif_neg h33 hf
          refine z_goto hX 3587 dL_law__1906 (by decide) ?_
          refine zW.sub [2, 3, 4, 5, 6] rfl ?_
          refine zW.widen (k' := K) (n' := N) (by omega) (by omega) ?_
          exact hkk g30 hf
        · replace hf := zif_pos h33 hf
          refine z_aload_n hX dL_law__1894 5 rfl ?_
          refine z_iconst hX dL_law__1895 ci_0 ?_
          replace hf := zchk_some hf
          obtain ⟨h34, hf⟩ := hf
          refine z_lald hX zq_508 h34 dL_law__1896 ?_
          refine z_iload hX dL_law__1897 0 rfl ?_
          refine z_i2l hX dL_law__1899 ?_
          refine z_lcmp hX dL_law__1900 ?_
          refine z_if_eq hX 1906 dL_law__1901 (by decide) (fun h35 => ?_) (fun h35 => ?_)
          · replace hf := zif_pos h35 hf
            refine z_goto hX 3587 dL_law__1906 (by decide) ?_
            refine zW.sub [2, 3, 4, 5, 6] rfl ?_
            refine zW.widen (k' := K) (n' := N) (by omega) (by omega) ?_
            exact hkk g30 hf
          · replace hf := zif_neg h35 hf
            exact zno hf
      · replace hf := zif_neg h32 hf
        exact zno hf
    · replace hf := zif_neg h29 hf
      refine z_iconst hX dL_law__1868 ci_1 ?_
      refine z_goto hX 1873 dL_law__1869 (by decide) ?_
      replace hf := zb2_some hf
      obtain ⟨r_36, g36, h36, hf⟩ := hf
      refine z_callV1 hX ok_X12_cuts q1981 q1982 q1983 (zrm_law hR (by decide) hKa hNa (by omega) (by omega)) (ct_X12_cuts  h36) (zrec_Model hX zq_493) dL_law__1873 rfl rfl ?_
      refine z_istore (lv' := [(6, .int r_36), (5, .int r_24), (0, .ref b), (1, .ref (zB X + 0)), (2, .ref (zB X + 493)), (3, .ref (zB X + 508)), (4, .int v4)]) hX dL_law__1876 hn (by decide) rfl ?_
      refine z_aload_n hX dL_law__1878 4 rfl ?_
      replace hf := zb_some hf
      obtain ⟨r_37, h37, hf⟩ := hf
      refine z_callV1 hX ok_X12_thrown q1484 q1485 q1486 (zrm_law hR (by decide) hKa hNa (by omega) (by omega)) (ct_X12_thrown  h37) (zrec_Model hX zq_493) dL_law__1879 rfl rfl ?_
      refine z_iload hX dL_law__1882 1 rfl ?_
      refine z_icmp_eq hX 1889 dL_law__1884 (by decide) (fun h38 => ?_) (fun h38 => ?_)
      · replace hf := zif_pos h38 hf
        refine z_iload hX dL_law__1889 1 rfl ?_
        refine z_if_ne hX 1906 dL_law__1891 (by decide) (fun h39 => ?_) (fun h39 => ?_)
        · replace hf := zif_neg h39 hf
          refine z_goto hX 3587 dL_law__1906 (by decide) ?_
          refine zW.sub [2, 3, 4, 5, 6] rfl ?_
          refine zW.widen (k' := K) (n' := N) (by omega) (by omega) ?_
          exact hkk g36 hf
        · replace hf := zif_pos h39 hf
          refine z_aload_n hX dL_law__1894 5 rfl ?_
          refine z_iconst hX dL_law__1895 ci_0 ?_
          replace hf := zchk_some hf
          obtain ⟨h40, hf⟩ := hf
          refine z_lald hX zq_508 h40 dL_law__1896 ?_
          refine z_iload hX dL_law__1897 0 rfl ?_
          refine z_i2l hX dL_law__1899 ?_
          refine z_lcmp hX dL_law__1900 ?_
          refine z_if_eq hX 1906 dL_law__1901 (by decide) (fun h41 => ?_) (fun h41 => ?_)
          · replace hf := zif_pos h41 hf
            refine z_goto hX 3587 dL_law__1906 (by decide) ?_
            refine zW.sub [2, 3, 4, 5, 6] rfl ?_
            refine zW.widen (k' := K) (n' := N) (by omega) (by omega) ?_
            exact hkk g36 hf
          · replace hf := zif_neg h41 hf
            exact zno hf
      · replace hf := zif_neg h38 hf
        exact zno hf
def fLc_24 (L : Nat) (xs : Nat → Int32) (kk : zM → Option Unit) (v4 : Int32) (g : zM) : Option Unit := zchk (v4 + 1) L (zchk (v4 + 2) L (zchk (v4 + 3) L (zchk (v4 + 4) L (if (xs (v4 + 4).toNatClampNeg) = 0 then zb2 (fL_out (xs (v4 + 1).toNatClampNeg) (xs (v4 + 2).toNatClampNeg) (xs (v4 + 3).toNatClampNeg) 0 g) (fun r_6 g6 => zchk (v4 + 1) L (zchk (v4 + 2) L (zchk (v4 + 3) L (zchk (v4 + 4) L (if (xs (v4 + 4).toNatClampNeg) = 0 then zb2 (fX12_out (xs (v4 + 1).toNatClampNeg) (xs (v4 + 2).toNatClampNeg) (xs (v4 + 3).toNatClampNeg) 0 g6) (fun r_12 g12 => zb (fX12_thrown g12) (fun r_13 => if r_13 = r_6 then if r_6 = 0 then zchk 0 1 (if (lg_cmp ((g12 508 (0 : Int32).toNatClampNeg).toInt64) r_12.toInt64) = 0 then kk g12 else none) else kk g12 else none)) else zb2 (fX12_out (xs (v4 + 1).toNatClampNeg) (xs (v4 + 2).toNatClampNeg) (xs (v4 + 3).toNatClampNeg) 1 g6) (fun r_18 g18 => zb (fX12_thrown g18) (fun r_19 => if r_19 = r_6 then if r_6 = 0 then zchk 0 1 (if (lg_cmp ((g18 508 (0 : Int32).toNatClampNeg).toInt64) r_18.toInt64) = 0 then kk g18 else none) else kk g18 else none))))))) else zb2 (fL_out (xs (v4 + 1).toNatClampNeg) (xs (v4 + 2).toNatClampNeg) (xs (v4 + 3).toNatClampNeg) 1 g) (fun r_24 g24 => zchk (v4 + 1) L (zchk (v4 + 2) L (zchk (v4 + 3) L (zchk (v4 + 4) L (if (xs (v4 + 4).toNatClampNeg) = 0 then zb2 (fX12_out (xs (v4 + 1).toNatClampNeg) (xs (v4 + 2).toNatClampNeg) (xs (v4 + 3).toNatClampNeg) 0 g24) (fun r_30 g30 => zb (fX12_thrown g30) (fun r_31 => if r_31 = r_24 then if r_24 = 0 then zchk 0 1 (if (lg_cmp ((g30 508 (0 : Int32).toNatClampNeg).toInt64) r_30.toInt64) = 0 then kk g30 else none) else kk g30 else none)) else zb2 (fX12_out (xs (v4 + 1).toNatClampNeg) (xs (v4 + 2).toNatClampNeg) (xs (v4 + 3).toNatClampNeg) 1 g24) (fun r_36 g36 => zb (fX12_thrown g36) (fun r_37 => if r_37 = r_24 then if r_24 = 0 then zchk 0 1 (if (lg_cmp ((g36 508 (0 : Int32).toNatClampNeg).toInt64) r_36.toInt64) = 0 then kk g36 else none) else kk g36 else none)))))))))))
set_option maxHeartbeats 4000000 in
set_option maxRecDepth 100000 in
theorem fLc_24_ok {X : zX} (hX : zCX X cL_law_ RL) (hR : X.2.2.2.1 = room_1) (hn : X.2.2.2.2.2.2.2.2.2.1.maxLocals = 7) {b L : Nat} {xs : Nat → Int32} (hs : zSc X b L xs) {Q : State → Prop} {k n K N : Nat} (hKa : K ≤ 601024) (hNa : N ≤ 7293034) (hKb : k + 12 ≤ K) (hNb : n + 72 ≤ N) {kk : zM → Option Unit} {v4 : Int32} {g : zM} {r : Unit} (hkk : ∀ g, kk g = some r → zW X Q K N 3587 [(0, .ref b), (1, .ref (zB X + 0)), (2, .ref (zB X + 493)), (3, .ref (zB X + 508)), (4, .int v4)] [] g) (hf : fLc_24 L xs kk v4 g = some r) : zW X Q k n 1909 [(0, .ref b), (1, .ref (zB X + 0)), (2, .ref (zB X + 493)), (3, .ref (zB X + 508)), (4, .int v4)] [] g := by
  unfold fLc_24 at hf
  refine z_aload_n hX dL_law__1909 1 rfl ?_
  refine z_aload_n hX dL_law__1910 0 rfl ?_
  refine z_iload hX dL_law__1911 4 rfl ?_
  refine z_iconst hX dL_law__1913 ci_1 ?_
  refine z_iadd hX dL_law__1914 ?_
  replace hf := zchk_some hf
  obtain ⟨h1, hf⟩ := hf
  refine z_sld hX hs h1 dL_law__1915 ?_
  refine z_aload_n hX dL_law__1916 0 rfl ?_
  refine z_iload hX dL_law__1917 4 rfl ?_
  refine z_iconst hX dL_law__1919 ci_2 ?_
  refine z_iadd hX dL_law__1920 ?_
  replace hf := zchk_some hf
  obtain ⟨h2, hf⟩ := hf
  refine z_sld hX hs h2 dL_law__1921 ?_
  refine z_aload_n hX dL_law__1922 0 rfl ?_
  refine z_iload hX dL_law__1923 4 rfl ?_
  refine z_iconst hX dL_law__1925 ci_3 ?_
  refine z_iadd hX dL_law__1926 ?_
  replace hf := zchk_some hf
  obtain ⟨h3, hf⟩ := hf
  refine z_sld hX hs h3 dL_law__1927 ?_
  refine z_aload_n hX dL_law__1928 0 rfl ?_
  refine z_iload hX dL_law__1929 4 rfl ?_
  refine z_iconst hX dL_law__1931 ci_4 ?_
  refine z_iadd hX dL_law__1932 ?_
  replace hf := zchk_some hf
  obtain ⟨h4, hf⟩ := hf
  refine z_sld hX hs h4 dL_law__1933 ?_
  refine z_if_eq hX 1941 dL_law__1934 (by decide) (fun h5 => ?_) (fun h5 => ?_)
  · replace hf := zif_pos h5 hf
    refine z_iconst hX dL_law__1941 ci_0 ?_
    refine z_aload_n hX dL_law__1942 3 rfl ?_
    replace hf := zb2_some hf
    obtain ⟨r_6, g6, h6, hf⟩ := hf
    refine z_callW1 hX okw_L_out q1257 q1258 (zrm_law hR (by decide) hKa hNa (by omega) (by omega)) (ct_L_out h6) dL_law__1943 rfl rfl ?_
    refine z_istore (lv' := [(5, .int r_6), (0, .ref b), (1, .ref (zB X + 0)), (2, .ref (zB X + 493)), (3, .ref (zB X + 508)), (4, .int v4)]) hX dL_law__1946 hn (by decide) rfl ?_
    refine z_aload_n hX dL_law__1948 3 rfl ?_
    refine z_aload_n hX dL_law__1949 1 rfl ?_
    refine z_iload hX dL_law__1950 5 rfl ?_
    refine z_iconst hX dL_law__1952 ci_1 ?_
    refine z_iadd hX dL_law__1953 ?_
    replace hf := zchk_some hf
    obtain ⟨h7, hf⟩ := hf
    refine z_sld hX hs h7 dL_law__1954 ?_
    refine z_aload_n hX dL_law__1955 1 rfl ?_
    refine z_iload hX dL_law__1956 5 rfl ?_
    refine z_iconst hX dL_law__1958 ci_2 ?_
    refine z_iadd hX dL_law__1959 ?_
    replace hf := zchk_some hf
    obtain ⟨h8, hf⟩ := hf
    refine z_sld hX hs h8 dL_law__1960 ?_
    refine z_aload_n hX dL_law__1961 1 rfl ?_
    refine z_iload hX dL_law__1962 5 rfl ?_
    refine z_iconst hX dL_law__1964 ci_3 ?_
    refine z_iadd hX dL_law__1965 ?_
    replace hf := zchk_some hf
    obtain ⟨h9, hf⟩ := hf
    refine z_sld hX hs h9 dL_law__1966 ?_
    refine z_aload_n hX dL_law__1967 1 rfl ?_
    refine z_iload hX dL_law__1968 5 rfl ?_
    refine z_iconst hX dL_law__1970 ci_4 ?_
    refine z_iadd hX dL_law__1971 ?_
    replace hf := zchk_some hf
    obtain ⟨h10, hf⟩ := hf
    refine z_sld hX hs h10 dL_law__1972 ?_
    refine z_if_eq hX 1980 dL_law__1973 (by decide) (fun h11 => ?_) (fun h11 => ?_)
    · replace hf := zif_pos h11 hf
      refine z_iconst hX dL_law__1980 ci_0 ?_
      replace hf := zb2_some hf
      obtain ⟨r_12, g12, h12, hf⟩ := hf
      refine z_callV1 hX ok_X12_out q1985 q1986 q1987 (zrm_law hR (by decide) hKa hNa (by omega) (by omega)) (ct_X12_out  h12) (zrec_Model hX zq_493) dL_law__1981 rfl rfl ?_
      refine z_istore (lv' := [(6, .int r_12), (5, .int r_6), (0, .ref b), (1, .ref (zB X + 0)), (2, .ref (zB X + 493)), (3, .ref (zB X + 508)), (4, .int v4)]) hX dL_law__1984 hn (by decide) rfl ?_
      refine z_aload_n hX dL_law__1986 4 rfl ?_
      replace hf := zb_some hf
      obtain ⟨r_13, h13, hf⟩ := hf
      refine z_callV1 hX ok_X12_thrown q1484 q1485 q1486 (zrm_law hR (by decide) hKa hNa (by omega) (by omega)) (ct_X12_thrown  h13) (zrec_Model hX zq_493) dL_law__1987 rfl rfl ?_
      refine z_iload hX dL_law__1990 1 rfl ?_
      refine z_icmp_eq hX 1997 dL_law__1992 (by decide) (fun h14 => ?_) (fun h14 => ?_)
      · replace hf := zif_pos h14 hf
        refine z_iload hX dL_law__1997 1 rfl ?_
        refine z_if_ne hX 2014 dL_law__1999 (by decide) (fun h15 => ?_) (fun h15 => ?_)
        · replace hf := zif_neg h15 hf
          refine z_goto hX 3587 dL_law__2014 (by decide) ?_
          refine zW.sub [2, 3, 4, 5, 6] rfl ?_
          refine zW.widen (k' := K) (n' := N) (by omega) (by omega) ?_
          exact hkk g12 hf
        · replace hf := zif_pos h15 hf
          refine z_aload_n hX dL_law__2002 5 rfl ?_
          refine z_iconst hX dL_law__2003 ci_0 ?_
          replace hf := zchk_some hf
          obtain ⟨h16, hf⟩ := hf
          refine z_lald hX zq_508 h16 dL_law__2004 ?_
          refine z_iload hX dL_law__2005 0 rfl ?_
          refine z_i2l hX dL_law__2007 ?_
          refine z_lcmp hX dL_law__2008 ?_
          refine z_if_eq hX 2014 dL_law__2009 (by decide) (fun h17 => ?_) (fun h17 => ?_)
          · replace hf := zif_pos h17 hf
            refine z_goto hX 3587 dL_law__2014 (by decide) ?_
            refine zW.sub [2, 3, 4, 5, 6] rfl ?_
            refine zW.widen (k' := K) (n' := N) (by omega) (by omega) ?_
            exact hkk g12 hf
          · replace hf := zif_neg h17 hf
            exact zno hf
      · replace hf := zif_neg h14 hf
        exact zno hf
    · replace hf := zif_neg h11 hf
      refine z_iconst hX dL_law__1976 ci_1 ?_
      refine z_goto hX 1981 dL_law__1977 (by decide) ?_
      replace hf := zb2_some hf
      obtain ⟨r_18, g18, h18, hf⟩ := hf
      refine z_callV1 hX ok_X12_out q1985 q1986 q1987 (zrm_law hR (by decide) hKa hNa (by omega) (by omega)) (ct_X12_out  h18) (zrec_Model hX zq_493) dL_law__1981 rfl rfl ?_
      refine z_istore (lv' := [(6, .int r_18), (5, .int r_6), (0, .ref b), (1, .ref (zB X + 0)), (2, .ref (zB X + 493)), (3, .ref (zB X + 508)), (4, .int v4)]) hX dL_law__1984 hn (by decide) rfl ?_
      refine z_aload_n hX dL_law__1986 4 rfl ?_
      replace hf := zb_some hf
      obtain ⟨r_19, h19, hf⟩ := hf
      refine z_callV1 hX ok_X12_thrown q1484 q1485 q1486 (zrm_law hR (by decide) hKa hNa (by omega) (by omega)) (ct_X12_thrown  h19) (zrec_Model hX zq_493) dL_law__1987 rfl rfl ?_
      refine z_iload hX dL_law__1990 1 rfl ?_
      refine z_icmp_eq hX 1997 dL_law__1992 (by decide) (fun h20 => ?_) (fun h20 => ?_)
      · replace hf := zif_pos h20 hf
        refine z_iload hX dL_law__1997 1 rfl ?_
        refine z_if_ne hX 2014 dL_law__1999 (by decide) (fun h21 => ?_) (fun h21 => ?_)
        · replace hf := zif_neg h21 hf
          refine z_goto hX 3587 dL_law__2014 (by decide) ?_
          refine zW.sub [2, 3, 4, 5, 6] rfl ?_
          refine zW.widen (k' := K) (n' := N) (by omega) (by omega) ?_
          exact hkk g18 hf
        · replace hf := zif_pos h21 hf
          refine z_aload_n hX dL_law__2002 5 rfl ?_
          refine z_iconst hX dL_law__2003 ci_0 ?_
          replace hf := zchk_some hf
          obtain ⟨h22, hf⟩ := hf
          refine z_lald hX zq_508 h22 dL_law__2004 ?_
          refine z_iload hX dL_law__2005 0 rfl ?_
          refine z_i2l hX dL_law__2007 ?_
          refine z_lcmp hX dL_law__2008 ?_
          refine z_if_eq hX 2014 dL_law__2009 (by decide) (fun h23 => ?_) (fun h23 => ?_)
          · replace hf := zif_pos h23 hf
            refine z_goto hX 3587 dL_law__2014 (by decide) ?_
            refine zW.sub [2, 3, 4, 5, 6] rfl ?_
            refine zW.widen (k' := K) (n' := N) (by omega) (by omega) ?_
            exact hkk g18 hf
          · replace hf := zif_neg h23 hf
            exact zno hf
      · replace hf := zif_neg h20 hf
        exact zno hf
  · replace hf := zif_neg h5 hf
    refine z_iconst hX dL_law__1937 ci_1 ?_
    refine z_goto hX 1942 dL_law__1938 (by decide) ?_
    refine z_aload_n hX dL_law__1942 3 rfl ?_
    replace hf := zb2_some hf
    obtain ⟨r_24, g24, h24, hf⟩ := hf
    refine z_callW1 hX okw_L_out q1257 q1258 (zrm_law hR (by decide) hKa hNa (by omega) (by omega)) (ct_L_out h24) dL_law__1943 rfl rfl ?_
    refine z_istore (lv' := [(5, .int r_24), (0, .ref b), (1, .ref (zB X + 0)), (2, .ref (zB X + 493)), (3, .ref (zB X + 508)), (4, .int v4)]) hX dL_law__1946 hn (by decide) rfl ?_
    refine z_aload_n hX dL_law__1948 3 rfl ?_
    refine z_aload_n hX dL_law__1949 1 rfl ?_
    refine z_iload hX dL_law__1950 5 rfl ?_
    refine z_iconst hX dL_law__1952 ci_1 ?_
    refine z_iadd hX dL_law__1953 ?_
    replace hf := zchk_some hf
    obtain ⟨h25, hf⟩ := hf
    refine z_sld hX hs h25 dL_law__1954 ?_
    refine z_aload_n hX dL_law__1955 1 rfl ?_
    refine z_iload hX dL_law__1956 5 rfl ?_
    refine z_iconst hX dL_law__1958 ci_2 ?_
    refine z_iadd hX dL_law__1959 ?_
    replace hf := zchk_some hf
    obtain ⟨h26, hf⟩ := hf
    refine z_sld hX hs h26 dL_law__1960 ?_
    refine z_aload_n hX dL_law__1961 1 rfl ?_
    refine z_iload hX dL_law__1962 5 rfl ?_
    refine z_iconst hX dL_law__1964 ci_3 ?_
    refine z_iadd hX dL_law__1965 ?_
    replace hf := zchk_some hf
    obtain ⟨h27, hf⟩ := hf
    refine z_sld hX hs h27 dL_law__1966 ?_
    refine z_aload_n hX dL_law__1967 1 rfl ?_
    refine z_iload hX dL_law__1968 5 rfl ?_
    refine z_iconst hX dL_law__1970 ci_4 ?_
    refine z_iadd hX dL_law__1971 ?_
    replace hf := zchk_some hf
    obtain ⟨h28, hf⟩ := hf
    refine z_sld hX hs h28 dL_law__1972 ?_
    refine z_if_eq hX 1980 dL_law__1973 (by decide) (fun h29 => ?_) (fun h29 => ?_)
    · replace hf := zif_pos h29 hf
      refine z_iconst hX dL_law__1980 ci_0 ?_
      replace hf := zb2_some hf
      obtain ⟨r_30, g30, h30, hf⟩ := hf
      refine z_callV1 hX ok_X12_out q1985 q1986 q1987 (zrm_law hR (by decide) hKa hNa (by omega) (by omega)) (ct_X12_out  h30) (zrec_Model hX zq_493) dL_law__1981 rfl rfl ?_
      refine z_istore (lv' := [(6, .int r_30), (5, .int r_24), (0, .ref b), (1, .ref (zB X + 0)), (2, .ref (zB X + 493)), (3, .ref (zB X + 508)), (4, .int v4)]) hX dL_law__1984 hn (by decide) rfl ?_
      refine z_aload_n hX dL_law__1986 4 rfl ?_
      replace hf := zb_some hf
      obtain ⟨r_31, h31, hf⟩ := hf
      refine z_callV1 hX ok_X12_thrown q1484 q1485 q1486 (zrm_law hR (by decide) hKa hNa (by omega) (by omega)) (ct_X12_thrown  h31) (zrec_Model hX zq_493) dL_law__1987 rfl rfl ?_
      refine z_iload hX dL_law__1990 1 rfl ?_
      refine z_icmp_eq hX 1997 dL_law__1992 (by decide) (fun h32 => ?_) (fun h32 => ?_)
      · replace hf := zif_pos h32 hf
        refine z_iload hX dL_law__1997 1 rfl ?_
        refine z_if_ne hX 2014 dL_law__1999 (by decide) (fun h33 => ?_) (fun h33 => ?_)
        · replace hf := zif_neg h33 hf
          refine z_goto hX 3587 dL_law__2014 (by decide) ?_
          refine zW.sub [2, 3, 4, 5, 6] rfl ?_
          refine zW.widen (k' := K) (n' := N) (by omega) (by omega) ?_
          exact hkk g30 hf
        · replace hf := zif_pos h33 hf
          refine z_aload_n hX dL_law__2002 5 rfl ?_
          refine z_iconst hX dL_law__2003 ci_0 ?_
          replace hf := zchk_some hf
          obtain ⟨h34, hf⟩ := hf
          refine z_lald hX zq_508 h34 dL_law__2004 ?_
          refine z_iload hX dL_law__2005 0 rfl ?_
          refine z_i2l hX dL_law__2007 ?_
          refine z_lcmp hX dL_law__2008 ?_
          refine z_if_eq hX 2014 dL_law__2009 (by decide) (fun h35 => ?_) (fun h35 => ?_)
          · replace hf := zif_pos h35 hf
            refine z_goto hX 3587 dL_law__2014 (by decide) ?_
            refine zW.sub [2, 3, 4, 5, 6] rfl ?_
            refine zW.widen (k' := K) (n' := N) (by omega) (by omega) ?_
            exact hkk g30 hf
          · replace hf := zif_neg h35 hf
            exact zno hf
      · replace hf := zif_neg h32 hf
        exact zno hf
    · replace hf := zif_neg h29 hf
      refine z_iconst hX dL_law__1976 ci_1 ?_
      refine z_goto hX 1981 dL_law__1977 (by decide) ?_
      replace hf := zb2_some hf
      obtain ⟨r_36, g36, h36, hf⟩ := hf
      refine z_callV1 hX ok_X12_out q1985 q1986 q1987 (zrm_law hR (by decide) hKa hNa (by omega) (by omega)) (ct_X12_out  h36) (zrec_Model hX zq_493) dL_law__1981 rfl rfl ?_
      refine z_istore (lv' := [(6, .int r_36), (5, .int r_24), (0, .ref b), (1, .ref (zB X + 0)), (2, .ref (zB X + 493)), (3, .ref (zB X + 508)), (4, .int v4)]) hX dL_law__1984 hn (by decide) rfl ?_
      refine z_aload_n hX dL_law__1986 4 rfl ?_
      replace hf := zb_some hf
      obtain ⟨r_37, h37, hf⟩ := hf
      refine z_callV1 hX ok_X12_thrown q1484 q1485 q1486 (zrm_law hR (by decide) hKa hNa (by omega) (by omega)) (ct_X12_thrown  h37) (zrec_Model hX zq_493) dL_law__1987 rfl rfl ?_
      refine z_iload hX dL_law__1990 1 rfl ?_
      refine z_icmp_eq hX 1997 dL_law__1992 (by decide) (fun h38 => ?_) (fun h38 => ?_)
      · replace hf := zif_pos h38 hf
        refine z_iload hX dL_law__1997 1 rfl ?_
        refine z_if_ne hX 2014 dL_law__1999 (by decide) (fun h39 => ?_) (fun h39 => ?_)
        · replace hf := zif_neg h39 hf
          refine z_goto hX 3587 dL_law__2014 (by decide) ?_
          refine zW.sub [2, 3, 4, 5, 6] rfl ?_
          refine zW.widen (k' := K) (n' := N) (by omega) (by omega) ?_
          exact hkk g36 hf
        · replace hf := zif_pos h39 hf
          refine z_aload_n hX dL_law__2002 5 rfl ?_
          refine z_iconst hX dL_law__2003 ci_0 ?_
          replace hf := zchk_some hf
          obtain ⟨h40, hf⟩ := hf
          refine z_lald hX zq_508 h40 dL_law__2004 ?_
          refine z_iload hX dL_law__2005 0 rfl ?_
          refine z_i2l hX dL_law__2007 ?_
          refine z_lcmp hX dL_law__2008 ?_
          refine z_if_eq hX 2014 dL_law__2009 (by decide) (fun h41 => ?_) (fun h41 => ?_)
          · replace hf := zif_pos h41 hf
            refine z_goto hX 3587 dL_law__2014 (by decide) ?_
            refine zW.sub [2, 3, 4, 5, 6] rfl ?_
            refine zW.widen (k' := K) (n' := N) (by omega) (by omega) ?_
            exact hkk g36 hf
          · replace hf := zif_neg h41 hf
            exact zno hf
      · replace hf := zif_neg h38 hf
        exact zno hf
def fLc_25 (L : Nat) (xs : Nat → Int32) (kk : zM → Option Unit) (v4 : Int32) (g : zM) : Option Unit := zchk (v4 + 1) L (zb2 (fL_astray (xs (v4 + 1).toNatClampNeg) g) (fun r_2 g2 => zchk (v4 + 1) L (zb2 (fX12_astray (xs (v4 + 1).toNatClampNeg) g2) (fun r_4 g4 => zb (fX12_thrown g4) (fun r_5 => if r_5 = r_2 then if r_2 = 0 then zchk 0 1 (if (lg_cmp ((g4 508 (0 : Int32).toNatClampNeg).toInt64) r_4.toInt64) = 0 then kk g4 else none) else kk g4 else none)))))
set_option maxHeartbeats 4000000 in
set_option maxRecDepth 100000 in
theorem fLc_25_ok {X : zX} (hX : zCX X cL_law_ RL) (hR : X.2.2.2.1 = room_1) (hn : X.2.2.2.2.2.2.2.2.2.1.maxLocals = 7) {b L : Nat} {xs : Nat → Int32} (hs : zSc X b L xs) {Q : State → Prop} {k n K N : Nat} (hKa : K ≤ 601024) (hNa : N ≤ 7293034) (hKb : k + 12 ≤ K) (hNb : n + 72 ≤ N) {kk : zM → Option Unit} {v4 : Int32} {g : zM} {r : Unit} (hkk : ∀ g, kk g = some r → zW X Q K N 3587 [(0, .ref b), (1, .ref (zB X + 0)), (2, .ref (zB X + 493)), (3, .ref (zB X + 508)), (4, .int v4)] [] g) (hf : fLc_25 L xs kk v4 g = some r) : zW X Q k n 2017 [(0, .ref b), (1, .ref (zB X + 0)), (2, .ref (zB X + 493)), (3, .ref (zB X + 508)), (4, .int v4)] [] g := by
  unfold fLc_25 at hf
  refine z_aload_n hX dL_law__2017 1 rfl ?_
  refine z_aload_n hX dL_law__2018 0 rfl ?_
  refine z_iload hX dL_law__2019 4 rfl ?_
  refine z_iconst hX dL_law__2021 ci_1 ?_
  refine z_iadd hX dL_law__2022 ?_
  replace hf := zchk_some hf
  obtain ⟨h1, hf⟩ := hf
  refine z_sld hX hs h1 dL_law__2023 ?_
  refine z_aload_n hX dL_law__2024 3 rfl ?_
  replace hf := zb2_some hf
  obtain ⟨r_2, g2, h2, hf⟩ := hf
  refine z_callW1 hX okw_L_astray q1264 q1265 (zrm_law hR (by decide) hKa hNa (by omega) (by omega)) (ct_L_astray h2) dL_law__2025 rfl rfl ?_
  refine z_istore (lv' := [(5, .int r_2), (0, .ref b), (1, .ref (zB X + 0)), (2, .ref (zB X + 493)), (3, .ref (zB X + 508)), (4, .int v4)]) hX dL_law__2028 hn (by decide) rfl ?_
  refine z_aload_n hX dL_law__2030 3 rfl ?_
  refine z_aload_n hX dL_law__2031 1 rfl ?_
  refine z_iload hX dL_law__2032 5 rfl ?_
  refine z_iconst hX dL_law__2034 ci_1 ?_
  refine z_iadd hX dL_law__2035 ?_
  replace hf := zchk_some hf
  obtain ⟨h3, hf⟩ := hf
  refine z_sld hX hs h3 dL_law__2036 ?_
  replace hf := zb2_some hf
  obtain ⟨r_4, g4, h4, hf⟩ := hf
  refine z_callV1 hX ok_X12_astray q1989 q1990 q1991 (zrm_law hR (by decide) hKa hNa (by omega) (by omega)) (ct_X12_astray  h4) (zrec_Model hX zq_493) dL_law__2037 rfl rfl ?_
  refine z_istore (lv' := [(6, .int r_4), (5, .int r_2), (0, .ref b), (1, .ref (zB X + 0)), (2, .ref (zB X + 493)), (3, .ref (zB X + 508)), (4, .int v4)]) hX dL_law__2040 hn (by decide) rfl ?_
  refine z_aload_n hX dL_law__2042 4 rfl ?_
  replace hf := zb_some hf
  obtain ⟨r_5, h5, hf⟩ := hf
  refine z_callV1 hX ok_X12_thrown q1484 q1485 q1486 (zrm_law hR (by decide) hKa hNa (by omega) (by omega)) (ct_X12_thrown  h5) (zrec_Model hX zq_493) dL_law__2043 rfl rfl ?_
  refine z_iload hX dL_law__2046 1 rfl ?_
  refine z_icmp_eq hX 2053 dL_law__2048 (by decide) (fun h6 => ?_) (fun h6 => ?_)
  · replace hf := zif_pos h6 hf
    refine z_iload hX dL_law__2053 1 rfl ?_
    refine z_if_ne hX 2070 dL_law__2055 (by decide) (fun h7 => ?_) (fun h7 => ?_)
    · replace hf := zif_neg h7 hf
      refine z_goto hX 3587 dL_law__2070 (by decide) ?_
      refine zW.sub [2, 3, 4, 5, 6] rfl ?_
      refine zW.widen (k' := K) (n' := N) (by omega) (by omega) ?_
      exact hkk g4 hf
    · replace hf := zif_pos h7 hf
      refine z_aload_n hX dL_law__2058 5 rfl ?_
      refine z_iconst hX dL_law__2059 ci_0 ?_
      replace hf := zchk_some hf
      obtain ⟨h8, hf⟩ := hf
      refine z_lald hX zq_508 h8 dL_law__2060 ?_
      refine z_iload hX dL_law__2061 0 rfl ?_
      refine z_i2l hX dL_law__2063 ?_
      refine z_lcmp hX dL_law__2064 ?_
      refine z_if_eq hX 2070 dL_law__2065 (by decide) (fun h9 => ?_) (fun h9 => ?_)
      · replace hf := zif_pos h9 hf
        refine z_goto hX 3587 dL_law__2070 (by decide) ?_
        refine zW.sub [2, 3, 4, 5, 6] rfl ?_
        refine zW.widen (k' := K) (n' := N) (by omega) (by omega) ?_
        exact hkk g4 hf
      · replace hf := zif_neg h9 hf
        exact zno hf
  · replace hf := zif_neg h6 hf
    exact zno hf
def fLc_26 (L : Nat) (xs : Nat → Int32) (kk : zM → Option Unit) (v4 : Int32) (g : zM) : Option Unit := zchk (v4 + 1) L (zb2 (fL_written (xs (v4 + 1).toNatClampNeg) g) (fun r_2 g2 => zchk (v4 + 1) L (zb2 (fX12_written (xs (v4 + 1).toNatClampNeg) g2) (fun r_4 g4 => zb (fX12_thrown g4) (fun r_5 => if r_5 = r_2 then if r_2 = 0 then zchk 0 1 (if (lg_cmp ((g4 508 (0 : Int32).toNatClampNeg).toInt64) r_4.toInt64) = 0 then kk g4 else none) else kk g4 else none)))))
set_option maxHeartbeats 4000000 in
set_option maxRecDepth 100000 in
theorem fLc_26_ok {X : zX} (hX : zCX X cL_law_ RL) (hR : X.2.2.2.1 = room_1) (hn : X.2.2.2.2.2.2.2.2.2.1.maxLocals = 7) {b L : Nat} {xs : Nat → Int32} (hs : zSc X b L xs) {Q : State → Prop} {k n K N : Nat} (hKa : K ≤ 601024) (hNa : N ≤ 7293034) (hKb : k + 12 ≤ K) (hNb : n + 72 ≤ N) {kk : zM → Option Unit} {v4 : Int32} {g : zM} {r : Unit} (hkk : ∀ g, kk g = some r → zW X Q K N 3587 [(0, .ref b), (1, .ref (zB X + 0)), (2, .ref (zB X + 493)), (3, .ref (zB X + 508)), (4, .int v4)] [] g) (hf : fLc_26 L xs kk v4 g = some r) : zW X Q k n 2073 [(0, .ref b), (1, .ref (zB X + 0)), (2, .ref (zB X + 493)), (3, .ref (zB X + 508)), (4, .int v4)] [] g := by
  unfold fLc_26 at hf
  refine z_aload_n hX dL_law__2073 1 rfl ?_
  refine z_aload_n hX dL_law__2074 0 rfl ?_
  refine z_iload hX dL_law__2075 4 rfl ?_
  refine z_iconst hX dL_law__2077 ci_1 ?_
  refine z_iadd hX dL_law__2078 ?_
  replace hf := zchk_some hf
  obtain ⟨h1, hf⟩ := hf
  refine z_sld hX hs h1 dL_law__2079 ?_
  refine z_aload_n hX dL_law__2080 3 rfl ?_
  replace hf := zb2_some hf
  obtain ⟨r_2, g2, h2, hf⟩ := hf
  refine z_callW1 hX okw_L_written q1276 q1277 (zrm_law hR (by decide) hKa hNa (by omega) (by omega)) (ct_L_written h2) dL_law__2081 rfl rfl ?_
  refine z_istore (lv' := [(5, .int r_2), (0, .ref b), (1, .ref (zB X + 0)), (2, .ref (zB X + 493)), (3, .ref (zB X + 508)), (4, .int v4)]) hX dL_law__2084 hn (by decide) rfl ?_
  refine z_aload_n hX dL_law__2086 3 rfl ?_
  refine z_aload_n hX dL_law__2087 1 rfl ?_
  refine z_iload hX dL_law__2088 5 rfl ?_
  refine z_iconst hX dL_law__2090 ci_1 ?_
  refine z_iadd hX dL_law__2091 ?_
  replace hf := zchk_some hf
  obtain ⟨h3, hf⟩ := hf
  refine z_sld hX hs h3 dL_law__2092 ?_
  replace hf := zb2_some hf
  obtain ⟨r_4, g4, h4, hf⟩ := hf
  refine z_callV1 hX ok_X12_written q1997 q1998 q1999 (zrm_law hR (by decide) hKa hNa (by omega) (by omega)) (ct_X12_written  h4) (zrec_Model hX zq_493) dL_law__2093 rfl rfl ?_
  refine z_istore (lv' := [(6, .int r_4), (5, .int r_2), (0, .ref b), (1, .ref (zB X + 0)), (2, .ref (zB X + 493)), (3, .ref (zB X + 508)), (4, .int v4)]) hX dL_law__2096 hn (by decide) rfl ?_
  refine z_aload_n hX dL_law__2098 4 rfl ?_
  replace hf := zb_some hf
  obtain ⟨r_5, h5, hf⟩ := hf
  refine z_callV1 hX ok_X12_thrown q1484 q1485 q1486 (zrm_law hR (by decide) hKa hNa (by omega) (by omega)) (ct_X12_thrown  h5) (zrec_Model hX zq_493) dL_law__2099 rfl rfl ?_
  refine z_iload hX dL_law__2102 1 rfl ?_
  refine z_icmp_eq hX 2109 dL_law__2104 (by decide) (fun h6 => ?_) (fun h6 => ?_)
  · replace hf := zif_pos h6 hf
    refine z_iload hX dL_law__2109 1 rfl ?_
    refine z_if_ne hX 2126 dL_law__2111 (by decide) (fun h7 => ?_) (fun h7 => ?_)
    · replace hf := zif_neg h7 hf
      refine z_goto hX 3587 dL_law__2126 (by decide) ?_
      refine zW.sub [2, 3, 4, 5, 6] rfl ?_
      refine zW.widen (k' := K) (n' := N) (by omega) (by omega) ?_
      exact hkk g4 hf
    · replace hf := zif_pos h7 hf
      refine z_aload_n hX dL_law__2114 5 rfl ?_
      refine z_iconst hX dL_law__2115 ci_0 ?_
      replace hf := zchk_some hf
      obtain ⟨h8, hf⟩ := hf
      refine z_lald hX zq_508 h8 dL_law__2116 ?_
      refine z_iload hX dL_law__2117 0 rfl ?_
      refine z_i2l hX dL_law__2119 ?_
      refine z_lcmp hX dL_law__2120 ?_
      refine z_if_eq hX 2126 dL_law__2121 (by decide) (fun h9 => ?_) (fun h9 => ?_)
      · replace hf := zif_pos h9 hf
        refine z_goto hX 3587 dL_law__2126 (by decide) ?_
        refine zW.sub [2, 3, 4, 5, 6] rfl ?_
        refine zW.widen (k' := K) (n' := N) (by omega) (by omega) ?_
        exact hkk g4 hf
      · replace hf := zif_neg h9 hf
        exact zno hf
  · replace hf := zif_neg h6 hf
    exact zno hf
def fLc_27 (L : Nat) (xs : Nat → Int32) (kk : zM → Option Unit) (v4 : Int32) (g : zM) : Option Unit := zchk (v4 + 1) L (zb2 (fL_senseless (xs (v4 + 1).toNatClampNeg) g) (fun r_2 g2 => zchk (v4 + 1) L (zb2 (fX12_senseless (xs (v4 + 1).toNatClampNeg) g2) (fun r_4 g4 => zb (fX12_thrown g4) (fun r_5 => if r_5 = r_2 then if r_2 = 0 then zchk 0 1 (if (lg_cmp ((g4 508 (0 : Int32).toNatClampNeg).toInt64) r_4.toInt64) = 0 then kk g4 else none) else kk g4 else none)))))
set_option maxHeartbeats 4000000 in
set_option maxRecDepth 100000 in
theorem fLc_27_ok {X : zX} (hX : zCX X cL_law_ RL) (hR : X.2.2.2.1 = room_1) (hn : X.2.2.2.2.2.2.2.2.2.1.maxLocals = 7) {b L : Nat} {xs : Nat → Int32} (hs : zSc X b L xs) {Q : State → Prop} {k n K N : Nat} (hKa : K ≤ 601024) (hNa : N ≤ 7293034) (hKb : k + 12 ≤ K) (hNb : n + 72 ≤ N) {kk : zM → Option Unit} {v4 : Int32} {g : zM} {r : Unit} (hkk : ∀ g, kk g = some r → zW X Q K N 3587 [(0, .ref b), (1, .ref (zB X + 0)), (2, .ref (zB X + 493)), (3, .ref (zB X + 508)), (4, .int v4)] [] g) (hf : fLc_27 L xs kk v4 g = some r) : zW X Q k n 2129 [(0, .ref b), (1, .ref (zB X + 0)), (2, .ref (zB X + 493)), (3, .ref (zB X + 508)), (4, .int v4)] [] g := by
  unfold fLc_27 at hf
  refine z_aload_n hX dL_law__2129 1 rfl ?_
  refine z_aload_n hX dL_law__2130 0 rfl ?_
  refine z_iload hX dL_law__2131 4 rfl ?_
  refine z_iconst hX dL_law__2133 ci_1 ?_
  refine z_iadd hX dL_law__2134 ?_
  replace hf := zchk_some hf
  obtain ⟨h1, hf⟩ := hf
  refine z_sld hX hs h1 dL_law__2135 ?_
  refine z_aload_n hX dL_law__2136 3 rfl ?_
  replace hf := zb2_some hf
  obtain ⟨r_2, g2, h2, hf⟩ := hf
  refine z_callW1 hX okw_L_senseless q1283 q1284 (zrm_law hR (by decide) hKa hNa (by omega) (by omega)) (ct_L_senseless h2) dL_law__2137 rfl rfl ?_
  refine z_istore (lv' := [(5, .int r_2), (0, .ref b), (1, .ref (zB X + 0)), (2, .ref (zB X + 493)), (3, .ref (zB X + 508)), (4, .int v4)]) hX dL_law__2140 hn (by decide) rfl ?_
  refine z_aload_n hX dL_law__2142 3 rfl ?_
  refine z_aload_n hX dL_law__2143 1 rfl ?_
  refine z_iload hX dL_law__2144 5 rfl ?_
  refine z_iconst hX dL_law__2146 ci_1 ?_
  refine z_iadd hX dL_law__2147 ?_
  replace hf := zchk_some hf
  obtain ⟨h3, hf⟩ := hf
  refine z_sld hX hs h3 dL_law__2148 ?_
  replace hf := zb2_some hf
  obtain ⟨r_4, g4, h4, hf⟩ := hf
  refine z_callV1 hX ok_X12_senseless q2005 q2006 q2007 (zrm_law hR (by decide) hKa hNa (by omega) (by omega)) (ct_X12_senseless  h4) (zrec_Model hX zq_493) dL_law__2149 rfl rfl ?_
  refine z_istore (lv' := [(6, .int r_4), (5, .int r_2), (0, .ref b), (1, .ref (zB X + 0)), (2, .ref (zB X + 493)), (3, .ref (zB X + 508)), (4, .int v4)]) hX dL_law__2152 hn (by decide) rfl ?_
  refine z_aload_n hX dL_law__2154 4 rfl ?_
  replace hf := zb_some hf
  obtain ⟨r_5, h5, hf⟩ := hf
  refine z_callV1 hX ok_X12_thrown q1484 q1485 q1486 (zrm_law hR (by decide) hKa hNa (by omega) (by omega)) (ct_X12_thrown  h5) (zrec_Model hX zq_493) dL_law__2155 rfl rfl ?_
  refine z_iload hX dL_law__2158 1 rfl ?_
  refine z_icmp_eq hX 2165 dL_law__2160 (by decide) (fun h6 => ?_) (fun h6 => ?_)
  · replace hf := zif_pos h6 hf
    refine z_iload hX dL_law__2165 1 rfl ?_
    refine z_if_ne hX 2182 dL_law__2167 (by decide) (fun h7 => ?_) (fun h7 => ?_)
    · replace hf := zif_neg h7 hf
      refine z_goto hX 3587 dL_law__2182 (by decide) ?_
      refine zW.sub [2, 3, 4, 5, 6] rfl ?_
      refine zW.widen (k' := K) (n' := N) (by omega) (by omega) ?_
      exact hkk g4 hf
    · replace hf := zif_pos h7 hf
      refine z_aload_n hX dL_law__2170 5 rfl ?_
      refine z_iconst hX dL_law__2171 ci_0 ?_
      replace hf := zchk_some hf
      obtain ⟨h8, hf⟩ := hf
      refine z_lald hX zq_508 h8 dL_law__2172 ?_
      refine z_iload hX dL_law__2173 0 rfl ?_
      refine z_i2l hX dL_law__2175 ?_
      refine z_lcmp hX dL_law__2176 ?_
      refine z_if_eq hX 2182 dL_law__2177 (by decide) (fun h9 => ?_) (fun h9 => ?_)
      · replace hf := zif_pos h9 hf
        refine z_goto hX 3587 dL_law__2182 (by decide) ?_
        refine zW.sub [2, 3, 4, 5, 6] rfl ?_
        refine zW.widen (k' := K) (n' := N) (by omega) (by omega) ?_
        exact hkk g4 hf
      · replace hf := zif_neg h9 hf
        exact zno hf
  · replace hf := zif_neg h6 hf
    exact zno hf
def fLc_28 (L : Nat) (xs : Nat → Int32) (kk : zM → Option Unit) (v4 : Int32) (g : zM) : Option Unit := zchk (v4 + 1) L (zchk (v4 + 2) L (zchk (v4 + 3) L (if (xs (v4 + 3).toNatClampNeg) = 0 then zb2 (fL_meet (xs (v4 + 1).toNatClampNeg) (xs (v4 + 2).toNatClampNeg) 0 g) (fun r_5 g5 => zchk (v4 + 1) L (zchk (v4 + 2) L (zchk (v4 + 3) L (if (xs (v4 + 3).toNatClampNeg) = 0 then zb2 (fX12_meet (xs (v4 + 1).toNatClampNeg) (xs (v4 + 2).toNatClampNeg) 0 g5) (fun r_10 g10 => zb (fX12_thrown g10) (fun r_11 => if r_11 = r_5 then if r_5 = 0 then zchk 0 1 (if (lg_cmp ((g10 508 (0 : Int32).toNatClampNeg).toInt64) r_10.toInt64) = 0 then kk g10 else none) else kk g10 else none)) else zb2 (fX12_meet (xs (v4 + 1).toNatClampNeg) (xs (v4 + 2).toNatClampNeg) 1 g5) (fun r_16 g16 => zb (fX12_thrown g16) (fun r_17 => if r_17 = r_5 then if r_5 = 0 then zchk 0 1 (if (lg_cmp ((g16 508 (0 : Int32).toNatClampNeg).toInt64) r_16.toInt64) = 0 then kk g16 else none) else kk g16 else none)))))) else zb2 (fL_meet (xs (v4 + 1).toNatClampNeg) (xs (v4 + 2).toNatClampNeg) 1 g) (fun r_22 g22 => zchk (v4 + 1) L (zchk (v4 + 2) L (zchk (v4 + 3) L (if (xs (v4 + 3).toNatClampNeg) = 0 then zb2 (fX12_meet (xs (v4 + 1).toNatClampNeg) (xs (v4 + 2).toNatClampNeg) 0 g22) (fun r_27 g27 => zb (fX12_thrown g27) (fun r_28 => if r_28 = r_22 then if r_22 = 0 then zchk 0 1 (if (lg_cmp ((g27 508 (0 : Int32).toNatClampNeg).toInt64) r_27.toInt64) = 0 then kk g27 else none) else kk g27 else none)) else zb2 (fX12_meet (xs (v4 + 1).toNatClampNeg) (xs (v4 + 2).toNatClampNeg) 1 g22) (fun r_33 g33 => zb (fX12_thrown g33) (fun r_34 => if r_34 = r_22 then if r_22 = 0 then zchk 0 1 (if (lg_cmp ((g33 508 (0 : Int32).toNatClampNeg).toInt64) r_33.toInt64) = 0 then kk g33 else none) else kk g33 else none)))))))))
set_option maxHeartbeats 4000000 in
set_option maxRecDepth 100000 in
theorem fLc_28_ok {X : zX} (hX : zCX X cL_law_ RL) (hR : X.2.2.2.1 = room_1) (hn : X.2.2.2.2.2.2.2.2.2.1.maxLocals = 7) {b L : Nat} {xs : Nat → Int32} (hs : zSc X b L xs) {Q : State → Prop} {k n K N : Nat} (hKa : K ≤ 601024) (hNa : N ≤ 7293034) (hKb : k + 12 ≤ K) (hNb : n + 72 ≤ N) {kk : zM → Option Unit} {v4 : Int32} {g : zM} {r : Unit} (hkk : ∀ g, kk g = some r → zW X Q K N 3587 [(0, .ref b), (1, .ref (zB X + 0)), (2, .ref (zB X + 493)), (3, .ref (zB X + 508)), (4, .int v4)] [] g) (hf : fLc_28 L xs kk v4 g = some r) : zW X Q k n 2185 [(0, .ref b), (1, .ref (zB X + 0)), (2, .ref (zB X + 493)), (3, .ref (zB X + 508)), (4, .int v4)] [] g := by
  unfold fLc_28 at hf
  refine z_aload_n hX dL_law__2185 1 rfl ?_
  refine z_aload_n hX dL_law__2186 0 rfl ?_
  refine z_iload hX dL_law__2187 4 rfl ?_
  refine z_iconst hX dL_law__2189 ci_1 ?_
  refine z_iadd hX dL_law__2190 ?_
  replace hf := zchk_some hf
  obtain ⟨h1, hf⟩ := hf
  refine z_sld hX hs h1 dL_law__2191 ?_
  refine z_aload_n hX dL_law__2192 0 rfl ?_
  refine z_iload hX dL_law__2193 4 rfl ?_
  refine z_iconst hX dL_law__2195 ci_2 ?_
  refine z_iadd hX dL_law__2196 ?_
  replace hf := zchk_some hf
  obtain ⟨h2, hf⟩ := hf
  refine z_sld hX hs h2 dL_law__2197 ?_
  refine z_aload_n hX dL_law__2198 0 rfl ?_
  refine z_iload hX dL_law__2199 4 rfl ?_
  refine z_iconst hX dL_law__2201 ci_3 ?_
  refine z_iadd hX dL_law__2202 ?_
  replace hf := zchk_some hf
  obtain ⟨h3, hf⟩ := hf
  refine z_sld hX hs h3 dL_law__2203 ?_
  refine z_if_eq hX 2211 dL_law__2204 (by decide) (fun h4 => ?_) (fun h4 => ?_)
  · replace hf := zif_pos h4 hf
    refine z_iconst hX dL_law__2211 ci_0 ?_
    refine z_aload_n hX dL_law__2212 3 rfl ?_
    replace hf := zb2_some hf
    obtain ⟨r_5, g5, h5, hf⟩ := hf
    refine z_callW1 hX okw_L_meet q1294 q1295 (zrm_law hR (by decide) hKa hNa (by omega) (by omega)) (ct_L_meet h5) dL_law__2213 rfl rfl ?_
    refine z_istore (lv' := [(5, .int r_5), (0, .ref b), (1, .ref (zB X + 0)), (2, .ref (zB X + 493)), (3, .ref (zB X + 508)), (4, .int v4)]) hX dL_law__2216 hn (by decide) rfl ?_
    refine z_aload_n hX dL_law__2218 3 rfl ?_
    refine z_aload_n hX dL_law__2219 1 rfl ?_
    refine z_iload hX dL_law__2220 5 rfl ?_
    refine z_iconst hX dL_law__2222 ci_1 ?_
    refine z_iadd hX dL_law__2223 ?_
    replace hf := zchk_some hf
    obtain ⟨h6, hf⟩ := hf
    refine z_sld hX hs h6 dL_law__2224 ?_
    refine z_aload_n hX dL_law__2225 1 rfl ?_
    refine z_iload hX dL_law__2226 5 rfl ?_
    refine z_iconst hX dL_law__2228 ci_2 ?_
    refine z_iadd hX dL_law__2229 ?_
    replace hf := zchk_some hf
    obtain ⟨h7, hf⟩ := hf
    refine z_sld hX hs h7 dL_law__2230 ?_
    refine z_aload_n hX dL_law__2231 1 rfl ?_
    refine z_iload hX dL_law__2232 5 rfl ?_
    refine z_iconst hX dL_law__2234 ci_3 ?_
    refine z_iadd hX dL_law__2235 ?_
    replace hf := zchk_some hf
    obtain ⟨h8, hf⟩ := hf
    refine z_sld hX hs h8 dL_law__2236 ?_
    refine z_if_eq hX 2244 dL_law__2237 (by decide) (fun h9 => ?_) (fun h9 => ?_)
    · replace hf := zif_pos h9 hf
      refine z_iconst hX dL_law__2244 ci_0 ?_
      replace hf := zb2_some hf
      obtain ⟨r_10, g10, h10, hf⟩ := hf
      refine z_callV1 hX ok_X12_meet q2018 q2019 q2020 (zrm_law hR (by decide) hKa hNa (by omega) (by omega)) (ct_X12_meet  h10) (zrec_Model hX zq_493) dL_law__2245 rfl rfl ?_
      refine z_istore (lv' := [(6, .int r_10), (5, .int r_5), (0, .ref b), (1, .ref (zB X + 0)), (2, .ref (zB X + 493)), (3, .ref (zB X + 508)), (4, .int v4)]) hX dL_law__2248 hn (by decide) rfl ?_
      refine z_aload_n hX dL_law__2250 4 rfl ?_
      replace hf := zb_some hf
      obtain ⟨r_11, h11, hf⟩ := hf
      refine z_callV1 hX ok_X12_thrown q1484 q1485 q1486 (zrm_law hR (by decide) hKa hNa (by omega) (by omega)) (ct_X12_thrown  h11) (zrec_Model hX zq_493) dL_law__2251 rfl rfl ?_
      refine z_iload hX dL_law__2254 1 rfl ?_
      refine z_icmp_eq hX 2261 dL_law__2256 (by decide) (fun h12 => ?_) (fun h12 => ?_)
      · replace hf := zif_pos h12 hf
        refine z_iload hX dL_law__2261 1 rfl ?_
        refine z_if_ne hX 2278 dL_law__2263 (by decide) (fun h13 => ?_) (fun h13 => ?_)
        · replace hf := zif_neg h13 hf
          refine z_goto hX 3587 dL_law__2278 (by decide) ?_
          refine zW.sub [2, 3, 4, 5, 6] rfl ?_
          refine zW.widen (k' := K) (n' := N) (by omega) (by omega) ?_
          exact hkk g10 hf
        · replace hf := zif_pos h13 hf
          refine z_aload_n hX dL_law__2266 5 rfl ?_
          refine z_iconst hX dL_law__2267 ci_0 ?_
          replace hf := zchk_some hf
          obtain ⟨h14, hf⟩ := hf
          refine z_lald hX zq_508 h14 dL_law__2268 ?_
          refine z_iload hX dL_law__2269 0 rfl ?_
          refine z_i2l hX dL_law__2271 ?_
          refine z_lcmp hX dL_law__2272 ?_
          refine z_if_eq hX 2278 dL_law__2273 (by decide) (fun h15 => ?_) (fun h15 => ?_)
          · replace hf := zif_pos h15 hf
            refine z_goto hX 3587 dL_law__2278 (by decide) ?_
            refine zW.sub [2, 3, 4, 5, 6] rfl ?_
            refine zW.widen (k' := K) (n' := N) (by omega) (by omega) ?_
            exact hkk g10 hf
          · replace hf := zif_neg h15 hf
            exact zno hf
      · replace hf := zif_neg h12 hf
        exact zno hf
    · replace hf := zif_neg h9 hf
      refine z_iconst hX dL_law__2240 ci_1 ?_
      refine z_goto hX 2245 dL_law__2241 (by decide) ?_
      replace hf := zb2_some hf
      obtain ⟨r_16, g16, h16, hf⟩ := hf
      refine z_callV1 hX ok_X12_meet q2018 q2019 q2020 (zrm_law hR (by decide) hKa hNa (by omega) (by omega)) (ct_X12_meet  h16) (zrec_Model hX zq_493) dL_law__2245 rfl rfl ?_
      refine z_istore (lv' := [(6, .int r_16), (5, .int r_5), (0, .ref b), (1, .ref (zB X + 0)), (2, .ref (zB X + 493)), (3, .ref (zB X + 508)), (4, .int v4)]) hX dL_law__2248 hn (by decide) rfl ?_
      refine z_aload_n hX dL_law__2250 4 rfl ?_
      replace hf := zb_some hf
      obtain ⟨r_17, h17, hf⟩ := hf
      refine z_callV1 hX ok_X12_thrown q1484 q1485 q1486 (zrm_law hR (by decide) hKa hNa (by omega) (by omega)) (ct_X12_thrown  h17) (zrec_Model hX zq_493) dL_law__2251 rfl rfl ?_
      refine z_iload hX dL_law__2254 1 rfl ?_
      refine z_icmp_eq hX 2261 dL_law__2256 (by decide) (fun h18 => ?_) (fun h18 => ?_)
      · replace hf := zif_pos h18 hf
        refine z_iload hX dL_law__2261 1 rfl ?_
        refine z_if_ne hX 2278 dL_law__2263 (by decide) (fun h19 => ?_) (fun h19 => ?_)
        · replace hf := zif_neg h19 hf
          refine z_goto hX 3587 dL_law__2278 (by decide) ?_
          refine zW.sub [2, 3, 4, 5, 6] rfl ?_
          refine zW.widen (k' := K) (n' := N) (by omega) (by omega) ?_
          exact hkk g16 hf
        · replace hf := zif_pos h19 hf
          refine z_aload_n hX dL_law__2266 5 rfl ?_
          refine z_iconst hX dL_law__2267 ci_0 ?_
          replace hf := zchk_some hf
          obtain ⟨h20, hf⟩ := hf
          refine z_lald hX zq_508 h20 dL_law__2268 ?_
          refine z_iload hX dL_law__2269 0 rfl ?_
          refine z_i2l hX dL_law__2271 ?_
          refine z_lcmp hX dL_law__2272 ?_
          refine z_if_eq hX 2278 dL_law__2273 (by decide) (fun h21 => ?_) (fun h21 => ?_)
          · replace hf := zif_pos h21 hf
            refine z_goto hX 3587 dL_law__2278 (by decide) ?_
            refine zW.sub [2, 3, 4, 5, 6] rfl ?_
            refine zW.widen (k' := K) (n' := N) (by omega) (by omega) ?_
            exact hkk g16 hf
          · replace hf := zif_neg h21 hf
            exact zno hf
      · replace hf := zif_neg h18 hf
        exact zno hf
  · replace hf := zif_neg h4 hf
    refine z_iconst hX dL_law__2207 ci_1 ?_
    refine z_goto hX 2212 dL_law__2208 (by decide) ?_
    refine z_aload_n hX dL_law__2212 3 rfl ?_
    replace hf := zb2_some hf
    obtain ⟨r_22, g22, h22, hf⟩ := hf
    refine z_callW1 hX okw_L_meet q1294 q1295 (zrm_law hR (by decide) hKa hNa (by omega) (by omega)) (ct_L_meet h22) dL_law__2213 rfl rfl ?_
    refine z_istore (lv' := [(5, .int r_22), (0, .ref b), (1, .ref (zB X + 0)), (2, .ref (zB X + 493)), (3, .ref (zB X + 508)), (4, .int v4)]) hX dL_law__2216 hn (by decide) rfl ?_
    refine z_aload_n hX dL_law__2218 3 rfl ?_
    refine z_aload_n hX dL_law__2219 1 rfl ?_
    refine z_iload hX dL_law__2220 5 rfl ?_
    refine z_iconst hX dL_law__2222 ci_1 ?_
    refine z_iadd hX dL_law__2223 ?_
    replace hf := zchk_some hf
    obtain ⟨h23, hf⟩ := hf
    refine z_sld hX hs h23 dL_law__2224 ?_
    refine z_aload_n hX dL_law__2225 1 rfl ?_
    refine z_iload hX dL_law__2226 5 rfl ?_
    refine z_iconst hX dL_law__2228 ci_2 ?_
    refine z_iadd hX dL_law__2229 ?_
    replace hf := zchk_some hf
    obtain ⟨h24, hf⟩ := hf
    refine z_sld hX hs h24 dL_law__2230 ?_
    refine z_aload_n hX dL_law__2231 1 rfl ?_
    refine z_iload hX dL_law__2232 5 rfl ?_
    refine z_iconst hX dL_law__2234 ci_3 ?_
    refine z_iadd hX dL_law__2235 ?_
    replace hf := zchk_some hf
    obtain ⟨h25, hf⟩ := hf
    refine z_sld hX hs h25 dL_law__2236 ?_
    refine z_if_eq hX 2244 dL_law__2237 (by decide) (fun h26 => ?_) (fun h26 => ?_)
    · replace hf := zif_pos h26 hf
      refine z_iconst hX dL_law__2244 ci_0 ?_
      replace hf := zb2_some hf
      obtain ⟨r_27, g27, h27, hf⟩ := hf
      refine z_callV1 hX ok_X12_meet q2018 q2019 q2020 (zrm_law hR (by decide) hKa hNa (by omega) (by omega)) (ct_X12_meet  h27) (zrec_Model hX zq_493) dL_law__2245 rfl rfl ?_
      refine z_istore (lv' := [(6, .int r_27), (5, .int r_22), (0, .ref b), (1, .ref (zB X + 0)), (2, .ref (zB X + 493)), (3, .ref (zB X + 508)), (4, .int v4)]) hX dL_law__2248 hn (by decide) rfl ?_
      refine z_aload_n hX dL_law__2250 4 rfl ?_
      replace hf := zb_some hf
      obtain ⟨r_28, h28, hf⟩ := hf
      refine z_callV1 hX ok_X12_thrown q1484 q1485 q1486 (zrm_law hR (by decide) hKa hNa (by omega) (by omega)) (ct_X12_thrown  h28) (zrec_Model hX zq_493) dL_law__2251 rfl rfl ?_
      refine z_iload hX dL_law__2254 1 rfl ?_
      refine z_icmp_eq hX 2261 dL_law__2256 (by decide) (fun h29 => ?_) (fun h29 => ?_)
      · replace hf := zif_pos h29 hf
        refine z_iload hX dL_law__2261 1 rfl ?_
        refine z_if_ne hX 2278 dL_law__2263 (by decide) (fun h30 => ?_) (fun h30 => ?_)
        · replace hf := zif_neg h30 hf
          refine z_goto hX 3587 dL_law__2278 (by decide) ?_
          refine zW.sub [2, 3, 4, 5, 6] rfl ?_
          refine zW.widen (k' := K) (n' := N) (by omega) (by omega) ?_
          exact hkk g27 hf
        · replace hf := zif_pos h30 hf
          refine z_aload_n hX dL_law__2266 5 rfl ?_
          refine z_iconst hX dL_law__2267 ci_0 ?_
          replace hf := zchk_some hf
          obtain ⟨h31, hf⟩ := hf
          refine z_lald hX zq_508 h31 dL_law__2268 ?_
          refine z_iload hX dL_law__2269 0 rfl ?_
          refine z_i2l hX dL_law__2271 ?_
          refine z_lcmp hX dL_law__2272 ?_
          refine z_if_eq hX 2278 dL_law__2273 (by decide) (fun h32 => ?_) (fun h32 => ?_)
          · replace hf := zif_pos h32 hf
            refine z_goto hX 3587 dL_law__2278 (by decide) ?_
            refine zW.sub [2, 3, 4, 5, 6] rfl ?_
            refine zW.widen (k' := K) (n' := N) (by omega) (by omega) ?_
            exact hkk g27 hf
          · replace hf := zif_neg h32 hf
            exact zno hf
      · replace hf := zif_neg h29 hf
        exact zno hf
    · replace hf := zif_neg h26 hf
      refine z_iconst hX dL_law__2240 ci_1 ?_
      refine z_goto hX 2245 dL_law__2241 (by decide) ?_
      replace hf := zb2_some hf
      obtain ⟨r_33, g33, h33, hf⟩ := hf
      refine z_callV1 hX ok_X12_meet q2018 q2019 q2020 (zrm_law hR (by decide) hKa hNa (by omega) (by omega)) (ct_X12_meet  h33) (zrec_Model hX zq_493) dL_law__2245 rfl rfl ?_
      refine z_istore (lv' := [(6, .int r_33), (5, .int r_22), (0, .ref b), (1, .ref (zB X + 0)), (2, .ref (zB X + 493)), (3, .ref (zB X + 508)), (4, .int v4)]) hX dL_law__2248 hn (by decide) rfl ?_
      refine z_aload_n hX dL_law__2250 4 rfl ?_
      replace hf := zb_some hf
      obtain ⟨r_34, h34, hf⟩ := hf
      refine z_callV1 hX ok_X12_thrown q1484 q1485 q1486 (zrm_law hR (by decide) hKa hNa (by omega) (by omega)) (ct_X12_thrown  h34) (zrec_Model hX zq_493) dL_law__2251 rfl rfl ?_
      refine z_iload hX dL_law__2254 1 rfl ?_
      refine z_icmp_eq hX 2261 dL_law__2256 (by decide) (fun h35 => ?_) (fun h35 => ?_)
      · replace hf := zif_pos h35 hf
        refine z_iload hX dL_law__2261 1 rfl ?_
        refine z_if_ne hX 2278 dL_law__2263 (by decide) (fun h36 => ?_) (fun h36 => ?_)
        · replace hf := zif_neg h36 hf
          refine z_goto hX 3587 dL_law__2278 (by decide) ?_
          refine zW.sub [2, 3, 4, 5, 6] rfl ?_
          refine zW.widen (k' := K) (n' := N) (by omega) (by omega) ?_
          exact hkk g33 hf
        · replace hf := zif_pos h36 hf
          refine z_aload_n hX dL_law__2266 5 rfl ?_
          refine z_iconst hX dL_law__2267 ci_0 ?_
          replace hf := zchk_some hf
          obtain ⟨h37, hf⟩ := hf
          refine z_lald hX zq_508 h37 dL_law__2268 ?_
          refine z_iload hX dL_law__2269 0 rfl ?_
          refine z_i2l hX dL_law__2271 ?_
          refine z_lcmp hX dL_law__2272 ?_
          refine z_if_eq hX 2278 dL_law__2273 (by decide) (fun h38 => ?_) (fun h38 => ?_)
          · replace hf := zif_pos h38 hf
            refine z_goto hX 3587 dL_law__2278 (by decide) ?_
            refine zW.sub [2, 3, 4, 5, 6] rfl ?_
            refine zW.widen (k' := K) (n' := N) (by omega) (by omega) ?_
            exact hkk g33 hf
          · replace hf := zif_neg h38 hf
            exact zno hf
      · replace hf := zif_neg h35 hf
        exact zno hf
def fLc_29 (L : Nat) (xs : Nat → Int32) (kk : zM → Option Unit) (v4 : Int32) (g : zM) : Option Unit := zchk (v4 + 1) L (zchk (v4 + 2) L (zb2 (fL_part (xs (v4 + 1).toNatClampNeg) (xs (v4 + 2).toNatClampNeg) g) (fun r_3 g3 => zchk (v4 + 1) L (zchk (v4 + 2) L (zb2 (fX12_part (xs (v4 + 1).toNatClampNeg) (xs (v4 + 2).toNatClampNeg) g3) (fun r_6 g6 => zb (fX12_thrown g6) (fun r_7 => if r_7 = r_3 then if r_3 = 0 then zchk 0 1 (if (lg_cmp ((g6 508 (0 : Int32).toNatClampNeg).toInt64) r_6.toInt64) = 0 then kk g6 else none) else kk g6 else none)))))))
set_option maxHeartbeats 4000000 in
set_option maxRecDepth 100000 in
theorem fLc_29_ok {X : zX} (hX : zCX X cL_law_ RL) (hR : X.2.2.2.1 = room_1) (hn : X.2.2.2.2.2.2.2.2.2.1.maxLocals = 7) {b L : Nat} {xs : Nat → Int32} (hs : zSc X b L xs) {Q : State → Prop} {k n K N : Nat} (hKa : K ≤ 601024) (hNa : N ≤ 7293034) (hKb : k + 12 ≤ K) (hNb : n + 72 ≤ N) {kk : zM → Option Unit} {v4 : Int32} {g : zM} {r : Unit} (hkk : ∀ g, kk g = some r → zW X Q K N 3587 [(0, .ref b), (1, .ref (zB X + 0)), (2, .ref (zB X + 493)), (3, .ref (zB X + 508)), (4, .int v4)] [] g) (hf : fLc_29 L xs kk v4 g = some r) : zW X Q k n 2281 [(0, .ref b), (1, .ref (zB X + 0)), (2, .ref (zB X + 493)), (3, .ref (zB X + 508)), (4, .int v4)] [] g := by
  unfold fLc_29 at hf
  refine z_aload_n hX dL_law__2281 1 rfl ?_
  refine z_aload_n hX dL_law__2282 0 rfl ?_
  refine z_iload hX dL_law__2283 4 rfl ?_
  refine z_iconst hX dL_law__2285 ci_1 ?_
  refine z_iadd hX dL_law__2286 ?_
  replace hf := zchk_some hf
  obtain ⟨h1, hf⟩ := hf
  refine z_sld hX hs h1 dL_law__2287 ?_
  refine z_aload_n hX dL_law__2288 0 rfl ?_
  refine z_iload hX dL_law__2289 4 rfl ?_
  refine z_iconst hX dL_law__2291 ci_2 ?_
  refine z_iadd hX dL_law__2292 ?_
  replace hf := zchk_some hf
  obtain ⟨h2, hf⟩ := hf
  refine z_sld hX hs h2 dL_law__2293 ?_
  refine z_aload_n hX dL_law__2294 3 rfl ?_
  replace hf := zb2_some hf
  obtain ⟨r_3, g3, h3, hf⟩ := hf
  refine z_callW1 hX okw_L_part q1312 q1313 (zrm_law hR (by decide) hKa hNa (by omega) (by omega)) (ct_L_part h3) dL_law__2295 rfl rfl ?_
  refine z_istore (lv' := [(5, .int r_3), (0, .ref b), (1, .ref (zB X + 0)), (2, .ref (zB X + 493)), (3, .ref (zB X + 508)), (4, .int v4)]) hX dL_law__2298 hn (by decide) rfl ?_
  refine z_aload_n hX dL_law__2300 3 rfl ?_
  refine z_aload_n hX dL_law__2301 1 rfl ?_
  refine z_iload hX dL_law__2302 5 rfl ?_
  refine z_iconst hX dL_law__2304 ci_1 ?_
  refine z_iadd hX dL_law__2305 ?_
  replace hf := zchk_some hf
  obtain ⟨h4, hf⟩ := hf
  refine z_sld hX hs h4 dL_law__2306 ?_
  refine z_aload_n hX dL_law__2307 1 rfl ?_
  refine z_iload hX dL_law__2308 5 rfl ?_
  refine z_iconst hX dL_law__2310 ci_2 ?_
  refine z_iadd hX dL_law__2311 ?_
  replace hf := zchk_some hf
  obtain ⟨h5, hf⟩ := hf
  refine z_sld hX hs h5 dL_law__2312 ?_
  replace hf := zb2_some hf
  obtain ⟨r_6, g6, h6, hf⟩ := hf
  refine z_callV1 hX ok_X12_part q2034 q2035 q2036 (zrm_law hR (by decide) hKa hNa (by omega) (by omega)) (ct_X12_part  h6) (zrec_Model hX zq_493) dL_law__2313 rfl rfl ?_
  refine z_istore (lv' := [(6, .int r_6), (5, .int r_3), (0, .ref b), (1, .ref (zB X + 0)), (2, .ref (zB X + 493)), (3, .ref (zB X + 508)), (4, .int v4)]) hX dL_law__2316 hn (by decide) rfl ?_
  refine z_aload_n hX dL_law__2318 4 rfl ?_
  replace hf := zb_some hf
  obtain ⟨r_7, h7, hf⟩ := hf
  refine z_callV1 hX ok_X12_thrown q1484 q1485 q1486 (zrm_law hR (by decide) hKa hNa (by omega) (by omega)) (ct_X12_thrown  h7) (zrec_Model hX zq_493) dL_law__2319 rfl rfl ?_
  refine z_iload hX dL_law__2322 1 rfl ?_
  refine z_icmp_eq hX 2329 dL_law__2324 (by decide) (fun h8 => ?_) (fun h8 => ?_)
  · replace hf := zif_pos h8 hf
    refine z_iload hX dL_law__2329 1 rfl ?_
    refine z_if_ne hX 2346 dL_law__2331 (by decide) (fun h9 => ?_) (fun h9 => ?_)
    · replace hf := zif_neg h9 hf
      refine z_goto hX 3587 dL_law__2346 (by decide) ?_
      refine zW.sub [2, 3, 4, 5, 6] rfl ?_
      refine zW.widen (k' := K) (n' := N) (by omega) (by omega) ?_
      exact hkk g6 hf
    · replace hf := zif_pos h9 hf
      refine z_aload_n hX dL_law__2334 5 rfl ?_
      refine z_iconst hX dL_law__2335 ci_0 ?_
      replace hf := zchk_some hf
      obtain ⟨h10, hf⟩ := hf
      refine z_lald hX zq_508 h10 dL_law__2336 ?_
      refine z_iload hX dL_law__2337 0 rfl ?_
      refine z_i2l hX dL_law__2339 ?_
      refine z_lcmp hX dL_law__2340 ?_
      refine z_if_eq hX 2346 dL_law__2341 (by decide) (fun h11 => ?_) (fun h11 => ?_)
      · replace hf := zif_pos h11 hf
        refine z_goto hX 3587 dL_law__2346 (by decide) ?_
        refine zW.sub [2, 3, 4, 5, 6] rfl ?_
        refine zW.widen (k' := K) (n' := N) (by omega) (by omega) ?_
        exact hkk g6 hf
      · replace hf := zif_neg h11 hf
        exact zno hf
  · replace hf := zif_neg h8 hf
    exact zno hf
def fLc_30 (L : Nat) (xs : Nat → Int32) (kk : zM → Option Unit) (v4 : Int32) (g : zM) : Option Unit := zb2 (fX11_drawer g) (fun r_1 g1 => zb2 (fX12_drawer g1) (fun r_2 g2 => if r_1 = r_2 then kk g2 else none))
set_option maxHeartbeats 4000000 in
set_option maxRecDepth 100000 in
theorem fLc_30_ok {X : zX} (hX : zCX X cL_law_ RL) (hR : X.2.2.2.1 = room_1) (hn : X.2.2.2.2.2.2.2.2.2.1.maxLocals = 7) {b L : Nat} {xs : Nat → Int32} (hs : zSc X b L xs) {Q : State → Prop} {k n K N : Nat} (hKa : K ≤ 601024) (hNa : N ≤ 7293034) (hKb : k + 12 ≤ K) (hNb : n + 72 ≤ N) {kk : zM → Option Unit} {v4 : Int32} {g : zM} {r : Unit} (hkk : ∀ g, kk g = some r → zW X Q K N 3587 [(0, .ref b), (1, .ref (zB X + 0)), (2, .ref (zB X + 493)), (3, .ref (zB X + 508)), (4, .int v4)] [] g) (hf : fLc_30 L xs kk v4 g = some r) : zW X Q k n 2349 [(0, .ref b), (1, .ref (zB X + 0)), (2, .ref (zB X + 493)), (3, .ref (zB X + 508)), (4, .int v4)] [] g := by
  unfold fLc_30 at hf
  refine z_aload_n hX dL_law__2349 1 rfl ?_
  replace hf := zb2_some hf
  obtain ⟨r_1, g1, h1, hf⟩ := hf
  refine z_callV1 hX ok_X11_drawer q498 q499 q500 (zrm_law hR (by decide) hKa hNa (by omega) (by omega)) (ct_X11_drawer  h1) (zrec_Post hX zq_0) dL_law__2350 rfl rfl ?_
  refine z_aload_n hX dL_law__2353 2 rfl ?_
  replace hf := zb2_some hf
  obtain ⟨r_2, g2, h2, hf⟩ := hf
  refine z_callV1 hX ok_X12_drawer q2038 q2039 q2040 (zrm_law hR (by decide) hKa hNa (by omega) (by omega)) (ct_X12_drawer  h2) (zrec_Model hX zq_493) dL_law__2354 rfl rfl ?_
  refine z_icmp_eq hX 3587 dL_law__2357 (by decide) (fun h3 => ?_) (fun h3 => ?_)
  · replace hf := zif_pos h3 hf
    refine zW.widen (k' := K) (n' := N) (by omega) (by omega) ?_
    exact hkk g2 hf
  · replace hf := zif_neg h3 hf
    exact zno hf
def fLc_31 (L : Nat) (xs : Nat → Int32) (kk : zM → Option Unit) (v4 : Int32) (g : zM) : Option Unit := zchk (v4 + 1) L (zchk (v4 + 2) L (zb2 (fL_bound (xs (v4 + 1).toNatClampNeg) (xs (v4 + 2).toNatClampNeg) g) (fun r_3 g3 => zchk (v4 + 1) L (zchk (v4 + 2) L (zb2 (fX12_bound (xs (v4 + 1).toNatClampNeg) (xs (v4 + 2).toNatClampNeg) g3) (fun r_6 g6 => zb (fX12_thrown g6) (fun r_7 => if r_7 = r_3 then if r_3 = 0 then zchk 0 1 (if (lg_cmp ((g6 508 (0 : Int32).toNatClampNeg).toInt64) r_6.toInt64) = 0 then kk g6 else none) else kk g6 else none)))))))
set_option maxHeartbeats 4000000 in
set_option maxRecDepth 100000 in
theorem fLc_31_ok {X : zX} (hX : zCX X cL_law_ RL) (hR : X.2.2.2.1 = room_1) (hn : X.2.2.2.2.2.2.2.2.2.1.maxLocals = 7) {b L : Nat} {xs : Nat → Int32} (hs : zSc X b L xs) {Q : State → Prop} {k n K N : Nat} (hKa : K ≤ 601024) (hNa : N ≤ 7293034) (hKb : k + 12 ≤ K) (hNb : n + 72 ≤ N) {kk : zM → Option Unit} {v4 : Int32} {g : zM} {r : Unit} (hkk : ∀ g, kk g = some r → zW X Q K N 3587 [(0, .ref b), (1, .ref (zB X + 0)), (2, .ref (zB X + 493)), (3, .ref (zB X + 508)), (4, .int v4)] [] g) (hf : fLc_31 L xs kk v4 g = some r) : zW X Q k n 2362 [(0, .ref b), (1, .ref (zB X + 0)), (2, .ref (zB X + 493)), (3, .ref (zB X + 508)), (4, .int v4)] [] g := by
  unfold fLc_31 at hf
  refine z_aload_n hX dL_law__2362 1 rfl ?_
  refine z_aload_n hX dL_law__2363 0 rfl ?_
  refine z_iload hX dL_law__2364 4 rfl ?_
  refine z_iconst hX dL_law__2366 ci_1 ?_
  refine z_iadd hX dL_law__2367 ?_
  replace hf := zchk_some hf
  obtain ⟨h1, hf⟩ := hf
  refine z_sld hX hs h1 dL_law__2368 ?_
  refine z_aload_n hX dL_law__2369 0 rfl ?_
  refine z_iload hX dL_law__2370 4 rfl ?_
  refine z_iconst hX dL_law__2372 ci_2 ?_
  refine z_iadd hX dL_law__2373 ?_
  replace hf := zchk_some hf
  obtain ⟨h2, hf⟩ := hf
  refine z_sld hX hs h2 dL_law__2374 ?_
  refine z_aload_n hX dL_law__2375 3 rfl ?_
  replace hf := zb2_some hf
  obtain ⟨r_3, g3, h3, hf⟩ := hf
  refine z_callW1 hX okw_L_bound q1319 q1320 (zrm_law hR (by decide) hKa hNa (by omega) (by omega)) (ct_L_bound h3) dL_law__2376 rfl rfl ?_
  refine z_istore (lv' := [(5, .int r_3), (0, .ref b), (1, .ref (zB X + 0)), (2, .ref (zB X + 493)), (3, .ref (zB X + 508)), (4, .int v4)]) hX dL_law__2379 hn (by decide) rfl ?_
  refine z_aload_n hX dL_law__2381 3 rfl ?_
  refine z_aload_n hX dL_law__2382 1 rfl ?_
  refine z_iload hX dL_law__2383 5 rfl ?_
  refine z_iconst hX dL_law__2385 ci_1 ?_
  refine z_iadd hX dL_law__2386 ?_
  replace hf := zchk_some hf
  obtain ⟨h4, hf⟩ := hf
  refine z_sld hX hs h4 dL_law__2387 ?_
  refine z_aload_n hX dL_law__2388 1 rfl ?_
  refine z_iload hX dL_law__2389 5 rfl ?_
  refine z_iconst hX dL_law__2391 ci_2 ?_
  refine z_iadd hX dL_law__2392 ?_
  replace hf := zchk_some hf
  obtain ⟨h5, hf⟩ := hf
  refine z_sld hX hs h5 dL_law__2393 ?_
  replace hf := zb2_some hf
  obtain ⟨r_6, g6, h6, hf⟩ := hf
  refine z_callV1 hX ok_X12_bound q2059 q2060 q2061 (zrm_law hR (by decide) hKa hNa (by omega) (by omega)) (ct_X12_bound  h6) (zrec_Model hX zq_493) dL_law__2394 rfl rfl ?_
  refine z_istore (lv' := [(6, .int r_6), (5, .int r_3), (0, .ref b), (1, .ref (zB X + 0)), (2, .ref (zB X + 493)), (3, .ref (zB X + 508)), (4, .int v4)]) hX dL_law__2397 hn (by decide) rfl ?_
  refine z_aload_n hX dL_law__2399 4 rfl ?_
  replace hf := zb_some hf
  obtain ⟨r_7, h7, hf⟩ := hf
  refine z_callV1 hX ok_X12_thrown q1484 q1485 q1486 (zrm_law hR (by decide) hKa hNa (by omega) (by omega)) (ct_X12_thrown  h7) (zrec_Model hX zq_493) dL_law__2400 rfl rfl ?_
  refine z_iload hX dL_law__2403 1 rfl ?_
  refine z_icmp_eq hX 2410 dL_law__2405 (by decide) (fun h8 => ?_) (fun h8 => ?_)
  · replace hf := zif_pos h8 hf
    refine z_iload hX dL_law__2410 1 rfl ?_
    refine z_if_ne hX 2427 dL_law__2412 (by decide) (fun h9 => ?_) (fun h9 => ?_)
    · replace hf := zif_neg h9 hf
      refine z_goto hX 3587 dL_law__2427 (by decide) ?_
      refine zW.sub [2, 3, 4, 5, 6] rfl ?_
      refine zW.widen (k' := K) (n' := N) (by omega) (by omega) ?_
      exact hkk g6 hf
    · replace hf := zif_pos h9 hf
      refine z_aload_n hX dL_law__2415 5 rfl ?_
      refine z_iconst hX dL_law__2416 ci_0 ?_
      replace hf := zchk_some hf
      obtain ⟨h10, hf⟩ := hf
      refine z_lald hX zq_508 h10 dL_law__2417 ?_
      refine z_iload hX dL_law__2418 0 rfl ?_
      refine z_i2l hX dL_law__2420 ?_
      refine z_lcmp hX dL_law__2421 ?_
      refine z_if_eq hX 2427 dL_law__2422 (by decide) (fun h11 => ?_) (fun h11 => ?_)
      · replace hf := zif_pos h11 hf
        refine z_goto hX 3587 dL_law__2427 (by decide) ?_
        refine zW.sub [2, 3, 4, 5, 6] rfl ?_
        refine zW.widen (k' := K) (n' := N) (by omega) (by omega) ?_
        exact hkk g6 hf
      · replace hf := zif_neg h11 hf
        exact zno hf
  · replace hf := zif_neg h8 hf
    exact zno hf
def fLc_32 (L : Nat) (xs : Nat → Int32) (kk : zM → Option Unit) (v4 : Int32) (g : zM) : Option Unit := zchk (v4 + 1) L (zchk (v4 + 2) L (zb2 (fL_when (xs (v4 + 1).toNatClampNeg) (xs (v4 + 2).toNatClampNeg) g) (fun r_3 g3 => zchk (v4 + 1) L (zchk (v4 + 2) L (zb2 (fX12_when (xs (v4 + 1).toNatClampNeg) (xs (v4 + 2).toNatClampNeg) g3) (fun r_6 g6 => zb (fX12_thrown g6) (fun r_7 => if r_7 = r_3 then if r_3 = 0 then zchk 0 1 (if (lg_cmp ((g6 508 (0 : Int32).toNatClampNeg).toInt64) r_6.toInt64) = 0 then kk g6 else none) else kk g6 else none)))))))
set_option maxHeartbeats 4000000 in
set_option maxRecDepth 100000 in
theorem fLc_32_ok {X : zX} (hX : zCX X cL_law_ RL) (hR : X.2.2.2.1 = room_1) (hn : X.2.2.2.2.2.2.2.2.2.1.maxLocals = 7) {b L : Nat} {xs : Nat → Int32} (hs : zSc X b L xs) {Q : State → Prop} {k n K N : Nat} (hKa : K ≤ 601024) (hNa : N ≤ 7293034) (hKb : k + 12 ≤ K) (hNb : n + 72 ≤ N) {kk : zM → Option Unit} {v4 : Int32} {g : zM} {r : Unit} (hkk : ∀ g, kk g = some r → zW X Q K N 3587 [(0, .ref b), (1, .ref (zB X + 0)), (2, .ref (zB X + 493)), (3, .ref (zB X + 508)), (4, .int v4)] [] g) (hf : fLc_32 L xs kk v4 g = some r) : zW X Q k n 2430 [(0, .ref b), (1, .ref (zB X + 0)), (2, .ref (zB X + 493)), (3, .ref (zB X + 508)), (4, .int v4)] [] g := by
  unfold fLc_32 at hf
  refine z_aload_n hX dL_law__2430 1 rfl ?_
  refine z_aload_n hX dL_law__2431 0 rfl ?_
  refine z_iload hX dL_law__2432 4 rfl ?_
  refine z_iconst hX dL_law__2434 ci_1 ?_
  refine z_iadd hX dL_law__2435 ?_
  replace hf := zchk_some hf
  obtain ⟨h1, hf⟩ := hf
  refine z_sld hX hs h1 dL_law__2436 ?_
  refine z_aload_n hX dL_law__2437 0 rfl ?_
  refine z_iload hX dL_law__2438 4 rfl ?_
  refine z_iconst hX dL_law__2440 ci_2 ?_
  refine z_iadd hX dL_law__2441 ?_
  replace hf := zchk_some hf
  obtain ⟨h2, hf⟩ := hf
  refine z_sld hX hs h2 dL_law__2442 ?_
  refine z_aload_n hX dL_law__2443 3 rfl ?_
  replace hf := zb2_some hf
  obtain ⟨r_3, g3, h3, hf⟩ := hf
  refine z_callW1 hX okw_L_when q1334 q1335 (zrm_law hR (by decide) hKa hNa (by omega) (by omega)) (ct_L_when h3) dL_law__2444 rfl rfl ?_
  refine z_istore (lv' := [(5, .int r_3), (0, .ref b), (1, .ref (zB X + 0)), (2, .ref (zB X + 493)), (3, .ref (zB X + 508)), (4, .int v4)]) hX dL_law__2447 hn (by decide) rfl ?_
  refine z_aload_n hX dL_law__2449 3 rfl ?_
  refine z_aload_n hX dL_law__2450 1 rfl ?_
  refine z_iload hX dL_law__2451 5 rfl ?_
  refine z_iconst hX dL_law__2453 ci_1 ?_
  refine z_iadd hX dL_law__2454 ?_
  replace hf := zchk_some hf
  obtain ⟨h4, hf⟩ := hf
  refine z_sld hX hs h4 dL_law__2455 ?_
  refine z_aload_n hX dL_law__2456 1 rfl ?_
  refine z_iload hX dL_law__2457 5 rfl ?_
  refine z_iconst hX dL_law__2459 ci_2 ?_
  refine z_iadd hX dL_law__2460 ?_
  replace hf := zchk_some hf
  obtain ⟨h5, hf⟩ := hf
  refine z_sld hX hs h5 dL_law__2461 ?_
  replace hf := zb2_some hf
  obtain ⟨r_6, g6, h6, hf⟩ := hf
  refine z_callV1 hX ok_X12_when q2071 q2072 q2073 (zrm_law hR (by decide) hKa hNa (by omega) (by omega)) (ct_X12_when  h6) (zrec_Model hX zq_493) dL_law__2462 rfl rfl ?_
  refine z_istore (lv' := [(6, .int r_6), (5, .int r_3), (0, .ref b), (1, .ref (zB X + 0)), (2, .ref (zB X + 493)), (3, .ref (zB X + 508)), (4, .int v4)]) hX dL_law__2465 hn (by decide) rfl ?_
  refine z_aload_n hX dL_law__2467 4 rfl ?_
  replace hf := zb_some hf
  obtain ⟨r_7, h7, hf⟩ := hf
  refine z_callV1 hX ok_X12_thrown q1484 q1485 q1486 (zrm_law hR (by decide) hKa hNa (by omega) (by omega)) (ct_X12_thrown  h7) (zrec_Model hX zq_493) dL_law__2468 rfl rfl ?_
  refine z_iload hX dL_law__2471 1 rfl ?_
  refine z_icmp_eq hX 2478 dL_law__2473 (by decide) (fun h8 => ?_) (fun h8 => ?_)
  · replace hf := zif_pos h8 hf
    refine z_iload hX dL_law__2478 1 rfl ?_
    refine z_if_ne hX 2495 dL_law__2480 (by decide) (fun h9 => ?_) (fun h9 => ?_)
    · replace hf := zif_neg h9 hf
      refine z_goto hX 3587 dL_law__2495 (by decide) ?_
      refine zW.sub [2, 3, 4, 5, 6] rfl ?_
      refine zW.widen (k' := K) (n' := N) (by omega) (by omega) ?_
      exact hkk g6 hf
    · replace hf := zif_pos h9 hf
      refine z_aload_n hX dL_law__2483 5 rfl ?_
      refine z_iconst hX dL_law__2484 ci_0 ?_
      replace hf := zchk_some hf
      obtain ⟨h10, hf⟩ := hf
      refine z_lald hX zq_508 h10 dL_law__2485 ?_
      refine z_iload hX dL_law__2486 0 rfl ?_
      refine z_i2l hX dL_law__2488 ?_
      refine z_lcmp hX dL_law__2489 ?_
      refine z_if_eq hX 2495 dL_law__2490 (by decide) (fun h11 => ?_) (fun h11 => ?_)
      · replace hf := zif_pos h11 hf
        refine z_goto hX 3587 dL_law__2495 (by decide) ?_
        refine zW.sub [2, 3, 4, 5, 6] rfl ?_
        refine zW.widen (k' := K) (n' := N) (by omega) (by omega) ?_
        exact hkk g6 hf
      · replace hf := zif_neg h11 hf
        exact zno hf
  · replace hf := zif_neg h8 hf
    exact zno hf
def fLc_33 (L : Nat) (xs : Nat → Int32) (kk : zM → Option Unit) (v4 : Int32) (g : zM) : Option Unit := zchk (v4 + 1) L (zb2 (fL_soonest (xs (v4 + 1).toNatClampNeg) g) (fun r_2 g2 => zchk (v4 + 1) L (zb2 (fX12_soonest (xs (v4 + 1).toNatClampNeg) g2) (fun r_4 g4 => zb (fX12_thrown g4) (fun r_5 => if r_5 = r_2 then if r_2 = 0 then zchk 0 1 (if (lg_cmp ((g4 508 (0 : Int32).toNatClampNeg).toInt64) r_4.toInt64) = 0 then kk g4 else none) else kk g4 else none)))))
set_option maxHeartbeats 4000000 in
set_option maxRecDepth 100000 in
theorem fLc_33_ok {X : zX} (hX : zCX X cL_law_ RL) (hR : X.2.2.2.1 = room_1) (hn : X.2.2.2.2.2.2.2.2.2.1.maxLocals = 7) {b L : Nat} {xs : Nat → Int32} (hs : zSc X b L xs) {Q : State → Prop} {k n K N : Nat} (hKa : K ≤ 601024) (hNa : N ≤ 7293034) (hKb : k + 12 ≤ K) (hNb : n + 72 ≤ N) {kk : zM → Option Unit} {v4 : Int32} {g : zM} {r : Unit} (hkk : ∀ g, kk g = some r → zW X Q K N 3587 [(0, .ref b), (1, .ref (zB X + 0)), (2, .ref (zB X + 493)), (3, .ref (zB X + 508)), (4, .int v4)] [] g) (hf : fLc_33 L xs kk v4 g = some r) : zW X Q k n 2498 [(0, .ref b), (1, .ref (zB X + 0)), (2, .ref (zB X + 493)), (3, .ref (zB X + 508)), (4, .int v4)] [] g := by
  unfold fLc_33 at hf
  refine z_aload_n hX dL_law__2498 1 rfl ?_
  refine z_aload_n hX dL_law__2499 0 rfl ?_
  refine z_iload hX dL_law__2500 4 rfl ?_
  refine z_iconst hX dL_law__2502 ci_1 ?_
  refine z_iadd hX dL_law__2503 ?_
  replace hf := zchk_some hf
  obtain ⟨h1, hf⟩ := hf
  refine z_sld hX hs h1 dL_law__2504 ?_
  refine z_aload_n hX dL_law__2505 3 rfl ?_
  replace hf := zb2_some hf
  obtain ⟨r_2, g2, h2, hf⟩ := hf
  refine z_callW1 hX okw_L_soonest q1345 q1346 (zrm_law hR (by decide) hKa hNa (by omega) (by omega)) (ct_L_soonest h2) dL_law__2506 rfl rfl ?_
  refine z_istore (lv' := [(5, .int r_2), (0, .ref b), (1, .ref (zB X + 0)), (2, .ref (zB X + 493)), (3, .ref (zB X + 508)), (4, .int v4)]) hX dL_law__2509 hn (by decide) rfl ?_
  refine z_aload_n hX dL_law__2511 3 rfl ?_
  refine z_aload_n hX dL_law__2512 1 rfl ?_
  refine z_iload hX dL_law__2513 5 rfl ?_
  refine z_iconst hX dL_law__2515 ci_1 ?_
  refine z_iadd hX dL_law__2516 ?_
  replace hf := zchk_some hf
  obtain ⟨h3, hf⟩ := hf
  refine z_sld hX hs h3 dL_law__2517 ?_
  replace hf := zb2_some hf
  obtain ⟨r_4, g4, h4, hf⟩ := hf
  refine z_callV1 hX ok_X12_soonest q2079 q2080 q2081 (zrm_law hR (by decide) hKa hNa (by omega) (by omega)) (ct_X12_soonest  h4) (zrec_Model hX zq_493) dL_law__2518 rfl rfl ?_
  refine z_istore (lv' := [(6, .int r_4), (5, .int r_2), (0, .ref b), (1, .ref (zB X + 0)), (2, .ref (zB X + 493)), (3, .ref (zB X + 508)), (4, .int v4)]) hX dL_law__2521 hn (by decide) rfl ?_
  refine z_aload_n hX dL_law__2523 4 rfl ?_
  replace hf := zb_some hf
  obtain ⟨r_5, h5, hf⟩ := hf
  refine z_callV1 hX ok_X12_thrown q1484 q1485 q1486 (zrm_law hR (by decide) hKa hNa (by omega) (by omega)) (ct_X12_thrown  h5) (zrec_Model hX zq_493) dL_law__2524 rfl rfl ?_
  refine z_iload hX dL_law__2527 1 rfl ?_
  refine z_icmp_eq hX 2534 dL_law__2529 (by decide) (fun h6 => ?_) (fun h6 => ?_)
  · replace hf := zif_pos h6 hf
    refine z_iload hX dL_law__2534 1 rfl ?_
    refine z_if_ne hX 2551 dL_law__2536 (by decide) (fun h7 => ?_) (fun h7 => ?_)
    · replace hf := zif_neg h7 hf
      refine z_goto hX 3587 dL_law__2551 (by decide) ?_
      refine zW.sub [2, 3, 4, 5, 6] rfl ?_
      refine zW.widen (k' := K) (n' := N) (by omega) (by omega) ?_
      exact hkk g4 hf
    · replace hf := zif_pos h7 hf
      refine z_aload_n hX dL_law__2539 5 rfl ?_
      refine z_iconst hX dL_law__2540 ci_0 ?_
      replace hf := zchk_some hf
      obtain ⟨h8, hf⟩ := hf
      refine z_lald hX zq_508 h8 dL_law__2541 ?_
      refine z_iload hX dL_law__2542 0 rfl ?_
      refine z_i2l hX dL_law__2544 ?_
      refine z_lcmp hX dL_law__2545 ?_
      refine z_if_eq hX 2551 dL_law__2546 (by decide) (fun h9 => ?_) (fun h9 => ?_)
      · replace hf := zif_pos h9 hf
        refine z_goto hX 3587 dL_law__2551 (by decide) ?_
        refine zW.sub [2, 3, 4, 5, 6] rfl ?_
        refine zW.widen (k' := K) (n' := N) (by omega) (by omega) ?_
        exact hkk g4 hf
      · replace hf := zif_neg h9 hf
        exact zno hf
  · replace hf := zif_neg h6 hf
    exact zno hf
def fLc_34 (L : Nat) (xs : Nat → Int32) (kk : zM → Option Unit) (v4 : Int32) (g : zM) : Option Unit := zchk (v4 + 1) L (zb (fX11_spies (xs (v4 + 1).toNatClampNeg) g) (fun r_2 => zchk (v4 + 1) L (zb2 (fX12_spies (xs (v4 + 1).toNatClampNeg) g) (fun r_4 g4 => if r_2 = r_4 then kk g4 else none))))
set_option maxHeartbeats 4000000 in
set_option maxRecDepth 100000 in
theorem fLc_34_ok {X : zX} (hX : zCX X cL_law_ RL) (hR : X.2.2.2.1 = room_1) (hn : X.2.2.2.2.2.2.2.2.2.1.maxLocals = 7) {b L : Nat} {xs : Nat → Int32} (hs : zSc X b L xs) {Q : State → Prop} {k n K N : Nat} (hKa : K ≤ 601024) (hNa : N ≤ 7293034) (hKb : k + 12 ≤ K) (hNb : n + 72 ≤ N) {kk : zM → Option Unit} {v4 : Int32} {g : zM} {r : Unit} (hkk : ∀ g, kk g = some r → zW X Q K N 3587 [(0, .ref b), (1, .ref (zB X + 0)), (2, .ref (zB X + 493)), (3, .ref (zB X + 508)), (4, .int v4)] [] g) (hf : fLc_34 L xs kk v4 g = some r) : zW X Q k n 2554 [(0, .ref b), (1, .ref (zB X + 0)), (2, .ref (zB X + 493)), (3, .ref (zB X + 508)), (4, .int v4)] [] g := by
  unfold fLc_34 at hf
  refine z_aload_n hX dL_law__2554 1 rfl ?_
  refine z_aload_n hX dL_law__2555 0 rfl ?_
  refine z_iload hX dL_law__2556 4 rfl ?_
  refine z_iconst hX dL_law__2558 ci_1 ?_
  refine z_iadd hX dL_law__2559 ?_
  replace hf := zchk_some hf
  obtain ⟨h1, hf⟩ := hf
  refine z_sld hX hs h1 dL_law__2560 ?_
  replace hf := zb_some hf
  obtain ⟨r_2, h2, hf⟩ := hf
  refine z_callV1 hX ok_X11_spies q571 q572 q573 (zrm_law hR (by decide) hKa hNa (by omega) (by omega)) (ct_X11_spies  h2) (zrec_Post hX zq_0) dL_law__2561 rfl rfl ?_
  refine z_aload_n hX dL_law__2564 2 rfl ?_
  refine z_aload_n hX dL_law__2565 0 rfl ?_
  refine z_iload hX dL_law__2566 4 rfl ?_
  refine z_iconst hX dL_law__2568 ci_1 ?_
  refine z_iadd hX dL_law__2569 ?_
  replace hf := zchk_some hf
  obtain ⟨h3, hf⟩ := hf
  refine z_sld hX hs h3 dL_law__2570 ?_
  replace hf := zb2_some hf
  obtain ⟨r_4, g4, h4, hf⟩ := hf
  refine z_callV1 hX ok_X12_spies q2087 q2088 q2089 (zrm_law hR (by decide) hKa hNa (by omega) (by omega)) (ct_X12_spies  h4) (zrec_Model hX zq_493) dL_law__2571 rfl rfl ?_
  refine z_icmp_eq hX 3587 dL_law__2574 (by decide) (fun h5 => ?_) (fun h5 => ?_)
  · replace hf := zif_pos h5 hf
    refine zW.widen (k' := K) (n' := N) (by omega) (by omega) ?_
    exact hkk g4 hf
  · replace hf := zif_neg h5 hf
    exact zno hf
def fLc_35 (L : Nat) (xs : Nat → Int32) (kk : zM → Option Unit) (v4 : Int32) (g : zM) : Option Unit := zchk (v4 + 1) L (zb2 (fL_guess (xs (v4 + 1).toNatClampNeg) g) (fun r_2 g2 => zchk (v4 + 1) L (zb2 (fX12_guess (xs (v4 + 1).toNatClampNeg) g2) (fun r_4 g4 => zb (fX12_thrown g4) (fun r_5 => if r_5 = r_2 then if r_2 = 0 then zchk 0 1 (if (lg_cmp ((g4 508 (0 : Int32).toNatClampNeg).toInt64) r_4.toInt64) = 0 then kk g4 else none) else kk g4 else none)))))
set_option maxHeartbeats 4000000 in
set_option maxRecDepth 100000 in
theorem fLc_35_ok {X : zX} (hX : zCX X cL_law_ RL) (hR : X.2.2.2.1 = room_1) (hn : X.2.2.2.2.2.2.2.2.2.1.maxLocals = 7) {b L : Nat} {xs : Nat → Int32} (hs : zSc X b L xs) {Q : State → Prop} {k n K N : Nat} (hKa : K ≤ 601024) (hNa : N ≤ 7293034) (hKb : k + 12 ≤ K) (hNb : n + 72 ≤ N) {kk : zM → Option Unit} {v4 : Int32} {g : zM} {r : Unit} (hkk : ∀ g, kk g = some r → zW X Q K N 3587 [(0, .ref b), (1, .ref (zB X + 0)), (2, .ref (zB X + 493)), (3, .ref (zB X + 508)), (4, .int v4)] [] g) (hf : fLc_35 L xs kk v4 g = some r) : zW X Q k n 2579 [(0, .ref b), (1, .ref (zB X + 0)), (2, .ref (zB X + 493)), (3, .ref (zB X + 508)), (4, .int v4)] [] g := by
  unfold fLc_35 at hf
  refine z_aload_n hX dL_law__2579 1 rfl ?_
  refine z_aload_n hX dL_law__2580 0 rfl ?_
  refine z_iload hX dL_law__2581 4 rfl ?_
  refine z_iconst hX dL_law__2583 ci_1 ?_
  refine z_iadd hX dL_law__2584 ?_
  replace hf := zchk_some hf
  obtain ⟨h1, hf⟩ := hf
  refine z_sld hX hs h1 dL_law__2585 ?_
  refine z_aload_n hX dL_law__2586 3 rfl ?_
  replace hf := zb2_some hf
  obtain ⟨r_2, g2, h2, hf⟩ := hf
  refine z_callW1 hX okw_L_guess q1352 q1353 (zrm_law hR (by decide) hKa hNa (by omega) (by omega)) (ct_L_guess h2) dL_law__2587 rfl rfl ?_
  refine z_istore (lv' := [(5, .int r_2), (0, .ref b), (1, .ref (zB X + 0)), (2, .ref (zB X + 493)), (3, .ref (zB X + 508)), (4, .int v4)]) hX dL_law__2590 hn (by decide) rfl ?_
  refine z_aload_n hX dL_law__2592 3 rfl ?_
  refine z_aload_n hX dL_law__2593 1 rfl ?_
  refine z_iload hX dL_law__2594 5 rfl ?_
  refine z_iconst hX dL_law__2596 ci_1 ?_
  refine z_iadd hX dL_law__2597 ?_
  replace hf := zchk_some hf
  obtain ⟨h3, hf⟩ := hf
  refine z_sld hX hs h3 dL_law__2598 ?_
  replace hf := zb2_some hf
  obtain ⟨r_4, g4, h4, hf⟩ := hf
  refine z_callV1 hX ok_X12_guess q2091 q2092 q2093 (zrm_law hR (by decide) hKa hNa (by omega) (by omega)) (ct_X12_guess  h4) (zrec_Model hX zq_493) dL_law__2599 rfl rfl ?_
  refine z_istore (lv' := [(6, .int r_4), (5, .int r_2), (0, .ref b), (1, .ref (zB X + 0)), (2, .ref (zB X + 493)), (3, .ref (zB X + 508)), (4, .int v4)]) hX dL_law__2602 hn (by decide) rfl ?_
  refine z_aload_n hX dL_law__2604 4 rfl ?_
  replace hf := zb_some hf
  obtain ⟨r_5, h5, hf⟩ := hf
  refine z_callV1 hX ok_X12_thrown q1484 q1485 q1486 (zrm_law hR (by decide) hKa hNa (by omega) (by omega)) (ct_X12_thrown  h5) (zrec_Model hX zq_493) dL_law__2605 rfl rfl ?_
  refine z_iload hX dL_law__2608 1 rfl ?_
  refine z_icmp_eq hX 2615 dL_law__2610 (by decide) (fun h6 => ?_) (fun h6 => ?_)
  · replace hf := zif_pos h6 hf
    refine z_iload hX dL_law__2615 1 rfl ?_
    refine z_if_ne hX 2632 dL_law__2617 (by decide) (fun h7 => ?_) (fun h7 => ?_)
    · replace hf := zif_neg h7 hf
      refine z_goto hX 3587 dL_law__2632 (by decide) ?_
      refine zW.sub [2, 3, 4, 5, 6] rfl ?_
      refine zW.widen (k' := K) (n' := N) (by omega) (by omega) ?_
      exact hkk g4 hf
    · replace hf := zif_pos h7 hf
      refine z_aload_n hX dL_law__2620 5 rfl ?_
      refine z_iconst hX dL_law__2621 ci_0 ?_
      replace hf := zchk_some hf
      obtain ⟨h8, hf⟩ := hf
      refine z_lald hX zq_508 h8 dL_law__2622 ?_
      refine z_iload hX dL_law__2623 0 rfl ?_
      refine z_i2l hX dL_law__2625 ?_
      refine z_lcmp hX dL_law__2626 ?_
      refine z_if_eq hX 2632 dL_law__2627 (by decide) (fun h9 => ?_) (fun h9 => ?_)
      · replace hf := zif_pos h9 hf
        refine z_goto hX 3587 dL_law__2632 (by decide) ?_
        refine zW.sub [2, 3, 4, 5, 6] rfl ?_
        refine zW.widen (k' := K) (n' := N) (by omega) (by omega) ?_
        exact hkk g4 hf
      · replace hf := zif_neg h9 hf
        exact zno hf
  · replace hf := zif_neg h6 hf
    exact zno hf
