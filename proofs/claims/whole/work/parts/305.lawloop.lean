def fLAW (L : Nat) (xs : Nat → Int32) : Nat → Int32 → zM → Option Unit
  | 0, _, _ => none
  | n + 1, v4, g => if (Int32.ofNat L - 6) < v4 then some () else zchk v4 L (if (xs v4.toNatClampNeg &&& 63) = 0 then fLc_0 L xs (fun g => fLAW L xs n (v4 + 6) g) v4 g else if (xs v4.toNatClampNeg &&& 63) = 1 then fLc_1 L xs (fun g => fLAW L xs n (v4 + 6) g) v4 g else if (xs v4.toNatClampNeg &&& 63) = 2 then fLc_2 L xs (fun g => fLAW L xs n (v4 + 6) g) v4 g else if (xs v4.toNatClampNeg &&& 63) = 3 then fLc_3 L xs (fun g => fLAW L xs n (v4 + 6) g) v4 g else if (xs v4.toNatClampNeg &&& 63) = 4 then fLc_4 L xs (fun g => fLAW L xs n (v4 + 6) g) v4 g else if (xs v4.toNatClampNeg &&& 63) = 5 then fLc_5 L xs (fun g => fLAW L xs n (v4 + 6) g) v4 g else if (xs v4.toNatClampNeg &&& 63) = 6 then fLc_6 L xs (fun g => fLAW L xs n (v4 + 6) g) v4 g else if (xs v4.toNatClampNeg &&& 63) = 7 then fLc_7 L xs (fun g => fLAW L xs n (v4 + 6) g) v4 g else if (xs v4.toNatClampNeg &&& 63) = 8 then fLc_8 L xs (fun g => fLAW L xs n (v4 + 6) g) v4 g else if (xs v4.toNatClampNeg &&& 63) = 9 then fLc_9 L xs (fun g => fLAW L xs n (v4 + 6) g) v4 g else if (xs v4.toNatClampNeg &&& 63) = 10 then fLc_10 L xs (fun g => fLAW L xs n (v4 + 6) g) v4 g else if (xs v4.toNatClampNeg &&& 63) = 11 then fLc_11 L xs (fun g => fLAW L xs n (v4 + 6) g) v4 g else if (xs v4.toNatClampNeg &&& 63) = 12 then fLc_12 L xs (fun g => fLAW L xs n (v4 + 6) g) v4 g else if (xs v4.toNatClampNeg &&& 63) = 13 then fLc_13 L xs (fun g => fLAW L xs n (v4 + 6) g) v4 g else if (xs v4.toNatClampNeg &&& 63) = 14 then fLc_14 L xs (fun g => fLAW L xs n (v4 + 6) g) v4 g else if (xs v4.toNatClampNeg &&& 63) = 15 then fLc_15 L xs (fun g => fLAW L xs n (v4 + 6) g) v4 g else if (xs v4.toNatClampNeg &&& 63) = 16 then fLc_16 L xs (fun g => fLAW L xs n (v4 + 6) g) v4 g else if (xs v4.toNatClampNeg &&& 63) = 17 then fLc_17 L xs (fun g => fLAW L xs n (v4 + 6) g) v4 g else if (xs v4.toNatClampNeg &&& 63) = 18 then fLc_18 L xs (fun g => fLAW L xs n (v4 + 6) g) v4 g else if (xs v4.toNatClampNeg &&& 63) = 19 then fLc_19 L xs (fun g => fLAW L xs n (v4 + 6) g) v4 g else if (xs v4.toNatClampNeg &&& 63) = 20 then fLc_20 L xs (fun g => fLAW L xs n (v4 + 6) g) v4 g else if (xs v4.toNatClampNeg &&& 63) = 21 then fLc_21 L xs (fun g => fLAW L xs n (v4 + 6) g) v4 g else if (xs v4.toNatClampNeg &&& 63) = 22 then fLc_22 L xs (fun g => fLAW L xs n (v4 + 6) g) v4 g else if (xs v4.toNatClampNeg &&& 63) = 23 then fLc_23 L xs (fun g => fLAW L xs n (v4 + 6) g) v4 g else if (xs v4.toNatClampNeg &&& 63) = 24 then fLc_24 L xs (fun g => fLAW L xs n (v4 + 6) g) v4 g else if (xs v4.toNatClampNeg &&& 63) = 25 then fLc_25 L xs (fun g => fLAW L xs n (v4 + 6) g) v4 g else if (xs v4.toNatClampNeg &&& 63) = 26 then fLc_26 L xs (fun g => fLAW L xs n (v4 + 6) g) v4 g else if (xs v4.toNatClampNeg &&& 63) = 27 then fLc_27 L xs (fun g => fLAW L xs n (v4 + 6) g) v4 g else if (xs v4.toNatClampNeg &&& 63) = 28 then fLc_28 L xs (fun g => fLAW L xs n (v4 + 6) g) v4 g else if (xs v4.toNatClampNeg &&& 63) = 29 then fLc_29 L xs (fun g => fLAW L xs n (v4 + 6) g) v4 g else if (xs v4.toNatClampNeg &&& 63) = 30 then fLc_30 L xs (fun g => fLAW L xs n (v4 + 6) g) v4 g else if (xs v4.toNatClampNeg &&& 63) = 31 then fLc_31 L xs (fun g => fLAW L xs n (v4 + 6) g) v4 g else if (xs v4.toNatClampNeg &&& 63) = 32 then fLc_32 L xs (fun g => fLAW L xs n (v4 + 6) g) v4 g else if (xs v4.toNatClampNeg &&& 63) = 33 then fLc_33 L xs (fun g => fLAW L xs n (v4 + 6) g) v4 g else if (xs v4.toNatClampNeg &&& 63) = 34 then fLc_34 L xs (fun g => fLAW L xs n (v4 + 6) g) v4 g else if (xs v4.toNatClampNeg &&& 63) = 35 then fLc_35 L xs (fun g => fLAW L xs n (v4 + 6) g) v4 g else if (xs v4.toNatClampNeg &&& 63) = 36 then fLc_36 L xs (fun g => fLAW L xs n (v4 + 6) g) v4 g else if (xs v4.toNatClampNeg &&& 63) = 37 then fLc_37 L xs (fun g => fLAW L xs n (v4 + 6) g) v4 g else if (xs v4.toNatClampNeg &&& 63) = 38 then fLc_38 L xs (fun g => fLAW L xs n (v4 + 6) g) v4 g else if (xs v4.toNatClampNeg &&& 63) = 39 then fLc_39 L xs (fun g => fLAW L xs n (v4 + 6) g) v4 g else if (xs v4.toNatClampNeg &&& 63) = 40 then fLc_40 L xs (fun g => fLAW L xs n (v4 + 6) g) v4 g else if (xs v4.toNatClampNeg &&& 63) = 41 then fLc_41 L xs (fun g => fLAW L xs n (v4 + 6) g) v4 g else if (xs v4.toNatClampNeg &&& 63) = 42 then fLc_42 L xs (fun g => fLAW L xs n (v4 + 6) g) v4 g else if (xs v4.toNatClampNeg &&& 63) = 43 then fLc_43 L xs (fun g => fLAW L xs n (v4 + 6) g) v4 g else if (xs v4.toNatClampNeg &&& 63) = 44 then fLc_44 L xs (fun g => fLAW L xs n (v4 + 6) g) v4 g else if (xs v4.toNatClampNeg &&& 63) = 45 then fLc_45 L xs (fun g => fLAW L xs n (v4 + 6) g) v4 g else if (xs v4.toNatClampNeg &&& 63) = 46 then fLc_46 L xs (fun g => fLAW L xs n (v4 + 6) g) v4 g else if (xs v4.toNatClampNeg &&& 63) = 47 then fLc_47 L xs (fun g => fLAW L xs n (v4 + 6) g) v4 g else if (xs v4.toNatClampNeg &&& 63) = 48 then fLc_48 L xs (fun g => fLAW L xs n (v4 + 6) g) v4 g else if (xs v4.toNatClampNeg &&& 63) = 49 then fLc_49 L xs (fun g => fLAW L xs n (v4 + 6) g) v4 g else if (xs v4.toNatClampNeg &&& 63) = 50 then fLc_50 L xs (fun g => fLAW L xs n (v4 + 6) g) v4 g else if (xs v4.toNatClampNeg &&& 63) = 51 then fLc_51 L xs (fun g => fLAW L xs n (v4 + 6) g) v4 g else if (xs v4.toNatClampNeg &&& 63) = 52 then fLc_52 L xs (fun g => fLAW L xs n (v4 + 6) g) v4 g else fLAW L xs n (v4 + 6) g)
set_option maxHeartbeats 4000000 in
set_option maxRecDepth 100000 in
theorem fLAW_ok {X : zX} (hX : zCX X cL_law_ RL) (hR : X.2.2.2.1 = room_1) (hn : X.2.2.2.2.2.2.2.2.2.1.maxLocals = 7) {b L : Nat} {xs : Nat → Int32} (hs : zSc X b L xs) {Q : State → Prop} (hend : ∀ (K N : Nat) (lv : List (Nat × Value)) (g : zM), K ≤ 601024 → N ≤ 7293034 → zW X Q K N 3594 lv [.int 1] g) {r : Unit} : ∀ (n : Nat) (v4 : Int32) (g : zM) (k m : Nat), k + 12 * n ≤ 601024 → m + 72 * n ≤ 7293034 → fLAW L xs n v4 g = some r → zW X Q k m 23 [(0, .ref b), (1, .ref (zB X + 0)), (2, .ref (zB X + 493)), (3, .ref (zB X + 508)), (4, .int v4)] [] g := by
  intro n
  induction n with
  | zero => intro v4 g k m _ _ hf; exact zno hf
  | succ n ih =>
    intro v4 g k m hK1 hN1 hf
    rw [fLAW] at hf
    refine z_iload hX dL_law__23 4 rfl ?_
    refine z_aload_n hX dL_law__25 0 rfl ?_
    refine z_slen hX hs dL_law__26 ?_
    refine z_bipush hX dL_law__27 cb_6 ?_
    refine z_isub hX dL_law__29 ?_
    refine z_icmp_gt hX 3593 dL_law__30 (by decide) (fun h1 => ?_) (fun h1 => ?_)
    · refine z_iconst hX dL_law__3593 ci_1 ?_
      exact hend _ _ _ _ (by omega) (by omega)
    replace hf := zif_neg h1 hf
    refine z_aload_n hX dL_law__33 0 rfl ?_
    refine z_iload hX dL_law__34 4 rfl ?_
    replace hf := zchk_some hf
    obtain ⟨h6, hf⟩ := hf
    refine z_sld hX hs h6 dL_law__36 ?_
    refine z_bipush hX dL_law__37 cb_63 ?_
    refine z_iand hX dL_law__39 ?_
    have hkk : ∀ g9, fLAW L xs n (v4 + 6) g9 = some r → zW X Q (k + 12) (m + 72) 3587 [(0, .ref b), (1, .ref (zB X + 0)), (2, .ref (zB X + 493)), (3, .ref (zB X + 508)), (4, .int v4)] [] g9 := by
      intro g9 hf
      refine z_iincc (lv' := [(4, .int (v4 + 6)), (0, .ref b), (1, .ref (zB X + 0)), (2, .ref (zB X + 493)), (3, .ref (zB X + 508))]) hX dL_law__3587 hn (by decide) 4 rfl ci_6 rfl ?_
      refine z_goto hX 23 dL_law__3590 (by decide) ?_
      refine zW.sub [1, 2, 3, 4, 0] rfl ?_
      exact ih (v4 + 6) g9 (k + 12) (m + 72) (by omega) (by omega) hf
    by_cases e0 : (xs v4.toNatClampNeg &&& 63) = 0
    · replace hf := zif_pos e0 hf
      refine z_tin hX 268 dL_law__40 (by rw [e0]; decide) (by rw [e0]; decide) (by rw [e0]; rfl) (by decide) ?_
      exact fLc_0_ok hX hR hn hs (K := k + 12) (N := m + 72) (by omega) (by omega) (by omega) (by omega) hkk hf
    replace hf := zif_neg e0 hf
    by_cases e1 : (xs v4.toNatClampNeg &&& 63) = 1
    · replace hf := zif_pos e1 hf
      refine z_tin hX 341 dL_law__40 (by rw [e1]; decide) (by rw [e1]; decide) (by rw [e1]; rfl) (by decide) ?_
      exact fLc_1_ok hX hR hn hs (K := k + 12) (N := m + 72) (by omega) (by omega) (by omega) (by omega) hkk hf
    replace hf := zif_neg e1 hf
    by_cases e2 : (xs v4.toNatClampNeg &&& 63) = 2
    · replace hf := zif_pos e2 hf
      refine z_tin hX 366 dL_law__40 (by rw [e2]; decide) (by rw [e2]; decide) (by rw [e2]; rfl) (by decide) ?_
      exact fLc_2_ok hX hR hn hs (K := k + 12) (N := m + 72) (by omega) (by omega) (by omega) (by omega) hkk hf
    replace hf := zif_neg e2 hf
    by_cases e3 : (xs v4.toNatClampNeg &&& 63) = 3
    · replace hf := zif_pos e3 hf
      refine z_tin hX 410 dL_law__40 (by rw [e3]; decide) (by rw [e3]; decide) (by rw [e3]; rfl) (by decide) ?_
      exact fLc_3_ok hX hR hn hs (K := k + 12) (N := m + 72) (by omega) (by omega) (by omega) (by omega) hkk hf
    replace hf := zif_neg e3 hf
    by_cases e4 : (xs v4.toNatClampNeg &&& 63) = 4
    · replace hf := zif_pos e4 hf
      refine z_tin hX 454 dL_law__40 (by rw [e4]; decide) (by rw [e4]; decide) (by rw [e4]; rfl) (by decide) ?_
      exact fLc_4_ok hX hR hn hs (K := k + 12) (N := m + 72) (by omega) (by omega) (by omega) (by omega) hkk hf
    replace hf := zif_neg e4 hf
    by_cases e5 : (xs v4.toNatClampNeg &&& 63) = 5
    · replace hf := zif_pos e5 hf
      refine z_tin hX 467 dL_law__40 (by rw [e5]; decide) (by rw [e5]; decide) (by rw [e5]; rfl) (by decide) ?_
      exact fLc_5_ok hX hR hn hs (K := k + 12) (N := m + 72) (by omega) (by omega) (by omega) (by omega) hkk hf
    replace hf := zif_neg e5 hf
    by_cases e6 : (xs v4.toNatClampNeg &&& 63) = 6
    · replace hf := zif_pos e6 hf
      refine z_tin hX 535 dL_law__40 (by rw [e6]; decide) (by rw [e6]; decide) (by rw [e6]; rfl) (by decide) ?_
      exact fLc_6_ok hX hR hn hs (K := k + 12) (N := m + 72) (by omega) (by omega) (by omega) (by omega) hkk hf
    replace hf := zif_neg e6 hf
    by_cases e7 : (xs v4.toNatClampNeg &&& 63) = 7
    · replace hf := zif_pos e7 hf
      refine z_tin hX 631 dL_law__40 (by rw [e7]; decide) (by rw [e7]; decide) (by rw [e7]; rfl) (by decide) ?_
      exact fLc_7_ok hX hR hn hs (K := k + 12) (N := m + 72) (by omega) (by omega) (by omega) (by omega) hkk hf
    replace hf := zif_neg e7 hf
    by_cases e8 : (xs v4.toNatClampNeg &&& 63) = 8
    · replace hf := zif_pos e8 hf
      refine z_tin hX 687 dL_law__40 (by rw [e8]; decide) (by rw [e8]; decide) (by rw [e8]; rfl) (by decide) ?_
      exact fLc_8_ok hX hR hn hs (K := k + 12) (N := m + 72) (by omega) (by omega) (by omega) (by omega) hkk hf
    replace hf := zif_neg e8 hf
    by_cases e9 : (xs v4.toNatClampNeg &&& 63) = 9
    · replace hf := zif_pos e9 hf
      refine z_tin hX 771 dL_law__40 (by rw [e9]; decide) (by rw [e9]; decide) (by rw [e9]; rfl) (by decide) ?_
      exact fLc_9_ok hX hR hn hs (K := k + 12) (N := m + 72) (by omega) (by omega) (by omega) (by omega) hkk hf
    replace hf := zif_neg e9 hf
    by_cases e10 : (xs v4.toNatClampNeg &&& 63) = 10
    · replace hf := zif_pos e10 hf
      refine z_tin hX 827 dL_law__40 (by rw [e10]; decide) (by rw [e10]; decide) (by rw [e10]; rfl) (by decide) ?_
      exact fLc_10_ok hX hR hn hs (K := k + 12) (N := m + 72) (by omega) (by omega) (by omega) (by omega) hkk hf
    replace hf := zif_neg e10 hf
    by_cases e11 : (xs v4.toNatClampNeg &&& 63) = 11
    · replace hf := zif_pos e11 hf
      refine z_tin hX 895 dL_law__40 (by rw [e11]; decide) (by rw [e11]; decide) (by rw [e11]; rfl) (by decide) ?_
      exact fLc_11_ok hX hR hn hs (K := k + 12) (N := m + 72) (by omega) (by omega) (by omega) (by omega) hkk hf
    replace hf := zif_neg e11 hf
    by_cases e12 : (xs v4.toNatClampNeg &&& 63) = 12
    · replace hf := zif_pos e12 hf
      refine z_tin hX 986 dL_law__40 (by rw [e12]; decide) (by rw [e12]; decide) (by rw [e12]; rfl) (by decide) ?_
      exact fLc_12_ok hX hR hn hs (K := k + 12) (N := m + 72) (by omega) (by omega) (by omega) (by omega) hkk hf
    replace hf := zif_neg e12 hf
    by_cases e13 : (xs v4.toNatClampNeg &&& 63) = 13
    · replace hf := zif_pos e13 hf
      refine z_tin hX 1042 dL_law__40 (by rw [e13]; decide) (by rw [e13]; decide) (by rw [e13]; rfl) (by decide) ?_
      exact fLc_13_ok hX hR hn hs (K := k + 12) (N := m + 72) (by omega) (by omega) (by omega) (by omega) hkk hf
    replace hf := zif_neg e13 hf
    by_cases e14 : (xs v4.toNatClampNeg &&& 63) = 14
    · replace hf := zif_pos e14 hf
      refine z_tin hX 1110 dL_law__40 (by rw [e14]; decide) (by rw [e14]; decide) (by rw [e14]; rfl) (by decide) ?_
      exact fLc_14_ok hX hR hn hs (K := k + 12) (N := m + 72) (by omega) (by omega) (by omega) (by omega) hkk hf
    replace hf := zif_neg e14 hf
    by_cases e15 : (xs v4.toNatClampNeg &&& 63) = 15
    · replace hf := zif_pos e15 hf
      refine z_tin hX 1178 dL_law__40 (by rw [e15]; decide) (by rw [e15]; decide) (by rw [e15]; rfl) (by decide) ?_
      exact fLc_15_ok hX hR hn hs (K := k + 12) (N := m + 72) (by omega) (by omega) (by omega) (by omega) hkk hf
    replace hf := zif_neg e15 hf
    by_cases e16 : (xs v4.toNatClampNeg &&& 63) = 16
    · replace hf := zif_pos e16 hf
      refine z_tin hX 1269 dL_law__40 (by rw [e16]; decide) (by rw [e16]; decide) (by rw [e16]; rfl) (by decide) ?_
      exact fLc_16_ok hX hR hn hs (K := k + 12) (N := m + 72) (by omega) (by omega) (by omega) (by omega) hkk hf
    replace hf := zif_neg e16 hf
    by_cases e17 : (xs v4.toNatClampNeg &&& 63) = 17
    · replace hf := zif_pos e17 hf
      refine z_tin hX 1325 dL_law__40 (by rw [e17]; decide) (by rw [e17]; decide) (by rw [e17]; rfl) (by decide) ?_
      exact fLc_17_ok hX hR hn hs (K := k + 12) (N := m + 72) (by omega) (by omega) (by omega) (by omega) hkk hf
    replace hf := zif_neg e17 hf
    by_cases e18 : (xs v4.toNatClampNeg &&& 63) = 18
    · replace hf := zif_pos e18 hf
      refine z_tin hX 1381 dL_law__40 (by rw [e18]; decide) (by rw [e18]; decide) (by rw [e18]; rfl) (by decide) ?_
      exact fLc_18_ok hX hR hn hs (K := k + 12) (N := m + 72) (by omega) (by omega) (by omega) (by omega) hkk hf
    replace hf := zif_neg e18 hf
    by_cases e19 : (xs v4.toNatClampNeg &&& 63) = 19
    · replace hf := zif_pos e19 hf
      refine z_tin hX 1461 dL_law__40 (by rw [e19]; decide) (by rw [e19]; decide) (by rw [e19]; rfl) (by decide) ?_
      exact fLc_19_ok hX hR hn hs (K := k + 12) (N := m + 72) (by omega) (by omega) (by omega) (by omega) hkk hf
    replace hf := zif_neg e19 hf
    by_cases e20 : (xs v4.toNatClampNeg &&& 63) = 20
    · replace hf := zif_pos e20 hf
      refine z_tin hX 1557 dL_law__40 (by rw [e20]; decide) (by rw [e20]; decide) (by rw [e20]; rfl) (by decide) ?_
      exact fLc_20_ok hX hR hn hs (K := k + 12) (N := m + 72) (by omega) (by omega) (by omega) (by omega) hkk hf
    replace hf := zif_neg e20 hf
    by_cases e21 : (xs v4.toNatClampNeg &&& 63) = 21
    · replace hf := zif_pos e21 hf
      refine z_tin hX 1613 dL_law__40 (by rw [e21]; decide) (by rw [e21]; decide) (by rw [e21]; rfl) (by decide) ?_
      exact fLc_21_ok hX hR hn hs (K := k + 12) (N := m + 72) (by omega) (by omega) (by omega) (by omega) hkk hf
    replace hf := zif_neg e21 hf
    by_cases e22 : (xs v4.toNatClampNeg &&& 63) = 22
    · replace hf := zif_pos e22 hf
      refine z_tin hX 1681 dL_law__40 (by rw [e22]; decide) (by rw [e22]; decide) (by rw [e22]; rfl) (by decide) ?_
      exact fLc_22_ok hX hR hn hs (K := k + 12) (N := m + 72) (by omega) (by omega) (by omega) (by omega) hkk hf
    replace hf := zif_neg e22 hf
    by_cases e23 : (xs v4.toNatClampNeg &&& 63) = 23
    · replace hf := zif_pos e23 hf
      refine z_tin hX 1801 dL_law__40 (by rw [e23]; decide) (by rw [e23]; decide) (by rw [e23]; rfl) (by decide) ?_
      exact fLc_23_ok hX hR hn hs (K := k + 12) (N := m + 72) (by omega) (by omega) (by omega) (by omega) hkk hf
    replace hf := zif_neg e23 hf
    by_cases e24 : (xs v4.toNatClampNeg &&& 63) = 24
    · replace hf := zif_pos e24 hf
      refine z_tin hX 1909 dL_law__40 (by rw [e24]; decide) (by rw [e24]; decide) (by rw [e24]; rfl) (by decide) ?_
      exact fLc_24_ok hX hR hn hs (K := k + 12) (N := m + 72) (by omega) (by omega) (by omega) (by omega) hkk hf
    replace hf := zif_neg e24 hf
    by_cases e25 : (xs v4.toNatClampNeg &&& 63) = 25
    · replace hf := zif_pos e25 hf
      refine z_tin hX 2017 dL_law__40 (by rw [e25]; decide) (by rw [e25]; decide) (by rw [e25]; rfl) (by decide) ?_
      exact fLc_25_ok hX hR hn hs (K := k + 12) (N := m + 72) (by omega) (by omega) (by omega) (by omega) hkk hf
    replace hf := zif_neg e25 hf
    by_cases e26 : (xs v4.toNatClampNeg &&& 63) = 26
    · replace hf := zif_pos e26 hf
      refine z_tin hX 2073 dL_law__40 (by rw [e26]; decide) (by rw [e26]; decide) (by rw [e26]; rfl) (by decide) ?_
      exact fLc_26_ok hX hR hn hs (K := k + 12) (N := m + 72) (by omega) (by omega) (by omega) (by omega) hkk hf
    replace hf := zif_neg e26 hf
    by_cases e27 : (xs v4.toNatClampNeg &&& 63) = 27
    · replace hf := zif_pos e27 hf
      refine z_tin hX 2129 dL_law__40 (by rw [e27]; decide) (by rw [e27]; decide) (by rw [e27]; rfl) (by decide) ?_
      exact fLc_27_ok hX hR hn hs (K := k + 12) (N := m + 72) (by omega) (by omega) (by omega) (by omega) hkk hf
    replace hf := zif_neg e27 hf
    by_cases e28 : (xs v4.toNatClampNeg &&& 63) = 28
    · replace hf := zif_pos e28 hf
      refine z_tin hX 2185 dL_law__40 (by rw [e28]; decide) (by rw [e28]; decide) (by rw [e28]; rfl) (by decide) ?_
      exact fLc_28_ok hX hR hn hs (K := k + 12) (N := m + 72) (by omega) (by omega) (by omega) (by omega) hkk hf
    replace hf := zif_neg e28 hf
    by_cases e29 : (xs v4.toNatClampNeg &&& 63) = 29
    · replace hf := zif_pos e29 hf
      refine z_tin hX 2281 dL_law__40 (by rw [e29]; decide) (by rw [e29]; decide) (by rw [e29]; rfl) (by decide) ?_
      exact fLc_29_ok hX hR hn hs (K := k + 12) (N := m + 72) (by omega) (by omega) (by omega) (by omega) hkk hf
    replace hf := zif_neg e29 hf
    by_cases e30 : (xs v4.toNatClampNeg &&& 63) = 30
    · replace hf := zif_pos e30 hf
      refine z_tin hX 2349 dL_law__40 (by rw [e30]; decide) (by rw [e30]; decide) (by rw [e30]; rfl) (by decide) ?_
      exact fLc_30_ok hX hR hn hs (K := k + 12) (N := m + 72) (by omega) (by omega) (by omega) (by omega) hkk hf
    replace hf := zif_neg e30 hf
    by_cases e31 : (xs v4.toNatClampNeg &&& 63) = 31
    · replace hf := zif_pos e31 hf
      refine z_tin hX 2362 dL_law__40 (by rw [e31]; decide) (by rw [e31]; decide) (by rw [e31]; rfl) (by decide) ?_
      exact fLc_31_ok hX hR hn hs (K := k + 12) (N := m + 72) (by omega) (by omega) (by omega) (by omega) hkk hf
    replace hf := zif_neg e31 hf
    by_cases e32 : (xs v4.toNatClampNeg &&& 63) = 32
    · replace hf := zif_pos e32 hf
      refine z_tin hX 2430 dL_law__40 (by rw [e32]; decide) (by rw [e32]; decide) (by rw [e32]; rfl) (by decide) ?_
      exact fLc_32_ok hX hR hn hs (K := k + 12) (N := m + 72) (by omega) (by omega) (by omega) (by omega) hkk hf
    replace hf := zif_neg e32 hf
    by_cases e33 : (xs v4.toNatClampNeg &&& 63) = 33
    · replace hf := zif_pos e33 hf
      refine z_tin hX 2498 dL_law__40 (by rw [e33]; decide) (by rw [e33]; decide) (by rw [e33]; rfl) (by decide) ?_
      exact fLc_33_ok hX hR hn hs (K := k + 12) (N := m + 72) (by omega) (by omega) (by omega) (by omega) hkk hf
    replace hf := zif_neg e33 hf
    by_cases e34 : (xs v4.toNatClampNeg &&& 63) = 34
    · replace hf := zif_pos e34 hf
      refine z_tin hX 2554 dL_law__40 (by rw [e34]; decide) (by rw [e34]; decide) (by rw [e34]; rfl) (by decide) ?_
      exact fLc_34_ok hX hR hn hs (K := k + 12) (N := m + 72) (by omega) (by omega) (by omega) (by omega) hkk hf
    replace hf := zif_neg e34 hf
    by_cases e35 : (xs v4.toNatClampNeg &&& 63) = 35
    · replace hf := zif_pos e35 hf
      refine z_tin hX 2579 dL_law__40 (by rw [e35]; decide) (by rw [e35]; decide) (by rw [e35]; rfl) (by decide) ?_
      exact fLc_35_ok hX hR hn hs (K := k + 12) (N := m + 72) (by omega) (by omega) (by omega) (by omega) hkk hf
    replace hf := zif_neg e35 hf
    by_cases e36 : (xs v4.toNatClampNeg &&& 63) = 36
    · replace hf := zif_pos e36 hf
      refine z_tin hX 2635 dL_law__40 (by rw [e36]; decide) (by rw [e36]; decide) (by rw [e36]; rfl) (by decide) ?_
      exact fLc_36_ok hX hR hn hs (K := k + 12) (N := m + 72) (by omega) (by omega) (by omega) (by omega) hkk hf
    replace hf := zif_neg e36 hf
    by_cases e37 : (xs v4.toNatClampNeg &&& 63) = 37
    · replace hf := zif_pos e37 hf
      refine z_tin hX 2731 dL_law__40 (by rw [e37]; decide) (by rw [e37]; decide) (by rw [e37]; rfl) (by decide) ?_
      exact fLc_37_ok hX hR hn hs (K := k + 12) (N := m + 72) (by omega) (by omega) (by omega) (by omega) hkk hf
    replace hf := zif_neg e37 hf
    by_cases e38 : (xs v4.toNatClampNeg &&& 63) = 38
    · replace hf := zif_pos e38 hf
      refine z_tin hX 2799 dL_law__40 (by rw [e38]; decide) (by rw [e38]; decide) (by rw [e38]; rfl) (by decide) ?_
      exact fLc_38_ok hX hR hn hs (K := k + 12) (N := m + 72) (by omega) (by omega) (by omega) (by omega) hkk hf
    replace hf := zif_neg e38 hf
    by_cases e39 : (xs v4.toNatClampNeg &&& 63) = 39
    · replace hf := zif_pos e39 hf
      refine z_tin hX 2883 dL_law__40 (by rw [e39]; decide) (by rw [e39]; decide) (by rw [e39]; rfl) (by decide) ?_
      exact fLc_39_ok hX hR hn hs (K := k + 12) (N := m + 72) (by omega) (by omega) (by omega) (by omega) hkk hf
    replace hf := zif_neg e39 hf
    by_cases e40 : (xs v4.toNatClampNeg &&& 63) = 40
    · replace hf := zif_pos e40 hf
      refine z_tin hX 2939 dL_law__40 (by rw [e40]; decide) (by rw [e40]; decide) (by rw [e40]; rfl) (by decide) ?_
      exact fLc_40_ok hX hR hn hs (K := k + 12) (N := m + 72) (by omega) (by omega) (by omega) (by omega) hkk hf
    replace hf := zif_neg e40 hf
    by_cases e41 : (xs v4.toNatClampNeg &&& 63) = 41
    · replace hf := zif_pos e41 hf
      refine z_tin hX 2995 dL_law__40 (by rw [e41]; decide) (by rw [e41]; decide) (by rw [e41]; rfl) (by decide) ?_
      exact fLc_41_ok hX hR hn hs (K := k + 12) (N := m + 72) (by omega) (by omega) (by omega) (by omega) hkk hf
    replace hf := zif_neg e41 hf
    by_cases e42 : (xs v4.toNatClampNeg &&& 63) = 42
    · replace hf := zif_pos e42 hf
      refine z_tin hX 3063 dL_law__40 (by rw [e42]; decide) (by rw [e42]; decide) (by rw [e42]; rfl) (by decide) ?_
      exact fLc_42_ok hX hR hn hs (K := k + 12) (N := m + 72) (by omega) (by omega) (by omega) (by omega) hkk hf
    replace hf := zif_neg e42 hf
    by_cases e43 : (xs v4.toNatClampNeg &&& 63) = 43
    · replace hf := zif_pos e43 hf
      refine z_tin hX 3147 dL_law__40 (by rw [e43]; decide) (by rw [e43]; decide) (by rw [e43]; rfl) (by decide) ?_
      exact fLc_43_ok hX hR hn hs (K := k + 12) (N := m + 72) (by omega) (by omega) (by omega) (by omega) hkk hf
    replace hf := zif_neg e43 hf
    by_cases e44 : (xs v4.toNatClampNeg &&& 63) = 44
    · replace hf := zif_pos e44 hf
      refine z_tin hX 3243 dL_law__40 (by rw [e44]; decide) (by rw [e44]; decide) (by rw [e44]; rfl) (by decide) ?_
      exact fLc_44_ok hX hR hn hs (K := k + 12) (N := m + 72) (by omega) (by omega) (by omega) (by omega) hkk hf
    replace hf := zif_neg e44 hf
    by_cases e45 : (xs v4.toNatClampNeg &&& 63) = 45
    · replace hf := zif_pos e45 hf
      refine z_tin hX 3323 dL_law__40 (by rw [e45]; decide) (by rw [e45]; decide) (by rw [e45]; rfl) (by decide) ?_
      exact fLc_45_ok hX hR hn hs (K := k + 12) (N := m + 72) (by omega) (by omega) (by omega) (by omega) hkk hf
    replace hf := zif_neg e45 hf
    by_cases e46 : (xs v4.toNatClampNeg &&& 63) = 46
    · replace hf := zif_pos e46 hf
      refine z_tin hX 3391 dL_law__40 (by rw [e46]; decide) (by rw [e46]; decide) (by rw [e46]; rfl) (by decide) ?_
      exact fLc_46_ok hX hR hn hs (K := k + 12) (N := m + 72) (by omega) (by omega) (by omega) (by omega) hkk hf
    replace hf := zif_neg e46 hf
    by_cases e47 : (xs v4.toNatClampNeg &&& 63) = 47
    · replace hf := zif_pos e47 hf
      refine z_tin hX 3475 dL_law__40 (by rw [e47]; decide) (by rw [e47]; decide) (by rw [e47]; rfl) (by decide) ?_
      exact fLc_47_ok hX hR hn hs (K := k + 12) (N := m + 72) (by omega) (by omega) (by omega) (by omega) hkk hf
    replace hf := zif_neg e47 hf
    by_cases e48 : (xs v4.toNatClampNeg &&& 63) = 48
    · replace hf := zif_pos e48 hf
      refine z_tin hX 3500 dL_law__40 (by rw [e48]; decide) (by rw [e48]; decide) (by rw [e48]; rfl) (by decide) ?_
      exact fLc_48_ok hX hR hn hs (K := k + 12) (N := m + 72) (by omega) (by omega) (by omega) (by omega) hkk hf
    replace hf := zif_neg e48 hf
    by_cases e49 : (xs v4.toNatClampNeg &&& 63) = 49
    · replace hf := zif_pos e49 hf
      refine z_tin hX 3525 dL_law__40 (by rw [e49]; decide) (by rw [e49]; decide) (by rw [e49]; rfl) (by decide) ?_
      exact fLc_49_ok hX hR hn hs (K := k + 12) (N := m + 72) (by omega) (by omega) (by omega) (by omega) hkk hf
    replace hf := zif_neg e49 hf
    by_cases e50 : (xs v4.toNatClampNeg &&& 63) = 50
    · replace hf := zif_pos e50 hf
      refine z_tin hX 3538 dL_law__40 (by rw [e50]; decide) (by rw [e50]; decide) (by rw [e50]; rfl) (by decide) ?_
      exact fLc_50_ok hX hR hn hs (K := k + 12) (N := m + 72) (by omega) (by omega) (by omega) (by omega) hkk hf
    replace hf := zif_neg e50 hf
    by_cases e51 : (xs v4.toNatClampNeg &&& 63) = 51
    · replace hf := zif_pos e51 hf
      refine z_tin hX 3549 dL_law__40 (by rw [e51]; decide) (by rw [e51]; decide) (by rw [e51]; rfl) (by decide) ?_
      exact fLc_51_ok hX hR hn hs (K := k + 12) (N := m + 72) (by omega) (by omega) (by omega) (by omega) hkk hf
    replace hf := zif_neg e51 hf
    by_cases e52 : (xs v4.toNatClampNeg &&& 63) = 52
    · replace hf := zif_pos e52 hf
      refine z_tin hX 3562 dL_law__40 (by rw [e52]; decide) (by rw [e52]; decide) (by rw [e52]; rfl) (by decide) ?_
      exact fLc_52_ok hX hR hn hs (K := k + 12) (N := m + 72) (by omega) (by omega) (by omega) (by omega) hkk hf
    replace hf := zif_neg e52 hf
    refine z_tout hX 3587 dL_law__40 (zsw_out (fun v h8 h9 e => ?_)) (by decide) ?_
    · have hv : v = 0 ∨ v = 1 ∨ v = 2 ∨ v = 3 ∨ v = 4 ∨ v = 5 ∨ v = 6 ∨ v = 7 ∨ v = 8 ∨ v = 9 ∨ v = 10 ∨ v = 11 ∨ v = 12 ∨ v = 13 ∨ v = 14 ∨ v = 15 ∨ v = 16 ∨ v = 17 ∨ v = 18 ∨ v = 19 ∨ v = 20 ∨ v = 21 ∨ v = 22 ∨ v = 23 ∨ v = 24 ∨ v = 25 ∨ v = 26 ∨ v = 27 ∨ v = 28 ∨ v = 29 ∨ v = 30 ∨ v = 31 ∨ v = 32 ∨ v = 33 ∨ v = 34 ∨ v = 35 ∨ v = 36 ∨ v = 37 ∨ v = 38 ∨ v = 39 ∨ v = 40 ∨ v = 41 ∨ v = 42 ∨ v = 43 ∨ v = 44 ∨ v = 45 ∨ v = 46 ∨ v = 47 ∨ v = 48 ∨ v = 49 ∨ v = 50 ∨ v = 51 ∨ v = 52 := by omega
      rcases hv with rfl | rfl | rfl | rfl | rfl | rfl | rfl | rfl | rfl | rfl | rfl | rfl | rfl | rfl | rfl | rfl | rfl | rfl | rfl | rfl | rfl | rfl | rfl | rfl | rfl | rfl | rfl | rfl | rfl | rfl | rfl | rfl | rfl | rfl | rfl | rfl | rfl | rfl | rfl | rfl | rfl | rfl | rfl | rfl | rfl | rfl | rfl | rfl | rfl | rfl | rfl | rfl | rfl
      · exact e0 (e.trans (by decide))
      · exact e1 (e.trans (by decide))
      · exact e2 (e.trans (by decide))
      · exact e3 (e.trans (by decide))
      · exact e4 (e.trans (by decide))
      · exact e5 (e.trans (by decide))
      · exact e6 (e.trans (by decide))
      · exact e7 (e.trans (by decide))
      · exact e8 (e.trans (by decide))
      · exact e9 (e.trans (by decide))
      · exact e10 (e.trans (by decide))
      · exact e11 (e.trans (by decide))
      · exact e12 (e.trans (by decide))
      · exact e13 (e.trans (by decide))
      · exact e14 (e.trans (by decide))
      · exact e15 (e.trans (by decide))
      · exact e16 (e.trans (by decide))
      · exact e17 (e.trans (by decide))
      · exact e18 (e.trans (by decide))
      · exact e19 (e.trans (by decide))
      · exact e20 (e.trans (by decide))
      · exact e21 (e.trans (by decide))
      · exact e22 (e.trans (by decide))
      · exact e23 (e.trans (by decide))
      · exact e24 (e.trans (by decide))
      · exact e25 (e.trans (by decide))
      · exact e26 (e.trans (by decide))
      · exact e27 (e.trans (by decide))
      · exact e28 (e.trans (by decide))
      · exact e29 (e.trans (by decide))
      · exact e30 (e.trans (by decide))
      · exact e31 (e.trans (by decide))
      · exact e32 (e.trans (by decide))
      · exact e33 (e.trans (by decide))
      · exact e34 (e.trans (by decide))
      · exact e35 (e.trans (by decide))
      · exact e36 (e.trans (by decide))
      · exact e37 (e.trans (by decide))
      · exact e38 (e.trans (by decide))
      · exact e39 (e.trans (by decide))
      · exact e40 (e.trans (by decide))
      · exact e41 (e.trans (by decide))
      · exact e42 (e.trans (by decide))
      · exact e43 (e.trans (by decide))
      · exact e44 (e.trans (by decide))
      · exact e45 (e.trans (by decide))
      · exact e46 (e.trans (by decide))
      · exact e47 (e.trans (by decide))
      · exact e48 (e.trans (by decide))
      · exact e49 (e.trans (by decide))
      · exact e50 (e.trans (by decide))
      · exact e51 (e.trans (by decide))
      · exact e52 (e.trans (by decide))
    exact zW.widen (by omega) (by omega) (hkk g hf)
