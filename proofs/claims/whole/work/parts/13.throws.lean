theorem at_2_114 : zAt "GrownPost" (zXn 2) 110 114 := zAt_of2 (by decide) q863 q137 (by decide +kernel)
theorem at_3_265 : zAt "GrownPost" (zXn 3) 261 265 := zAt_of2 (by decide) q1126 q141 (by decide +kernel)
theorem at_1_417 : zAt "GrownPost" (zXn 1) 413 417 := zAt_of2 (by decide) q982 q139 (by decide +kernel)
theorem at_4_124 : zAt "GrownPost" (zXn 4) 120 124 := zAt_of2 (by decide) q933 q138 (by decide +kernel)
/-- the bytes of a constructor that hands its text on by the index 13 -/
def zRx : ByteArray := ⟨#[0x2a, 0x2b, 0xb7, 0x00, 0x0d, 0xb1]⟩
theorem zRx_0 : decode zRx 0 = .ok (.aload_n 0, 1) := by decide +kernel
theorem zRx_1 : decode zRx 1 = .ok (.aload_n 1, 1) := by decide +kernel
theorem zRx_2 : decode zRx 2 = .ok (.invokespecial 13, 3) := by decide +kernel
theorem zRx_5 : decode zRx 5 = .ok (.return_, 1) := by decide +kernel
def zAtX (own cls : String) (ik ic : Nat) : Prop := Bundle.fit cls = true ∧ Cond.classLink own ik cls ∈ zGW ∧ Cond.initialized cls ∈ zGW ∧ ∀ w ∈ vx_atX own ic cls 13 zRx "java/lang/RuntimeException" ["java/lang/Exception"], w ∈ zGW ∨ w ∈ zNW
theorem zAtX_of {own cls : String} {ik ic : Nat} (h1 : Bundle.fit cls = true) (h2 : Cond.classLink own ik cls ∈ zGW) (h3 : Cond.initialized cls ∈ zGW) (h : (vx_atX own ic cls 13 zRx "java/lang/RuntimeException" ["java/lang/Exception"]).all (fun w => decide (w ∈ lw_tbl) && (goodWord w || zisN w)) = true) : zAtX own cls ik ic := by
  refine ⟨h1, h2, h3, fun w hw => ?_⟩
  have h6 := List.all_eq_true.mp h w hw
  rw [Bool.and_eq_true] at h6
  have hm : w ∈ lw_tbl := of_decide_eq_true h6.1
  rcases Bool.or_eq_true_iff.mp h6.2 with h7 | h7
  · exact Or.inl (List.mem_filter.mpr ⟨hm, h7⟩)
  · exact Or.inr (List.mem_filter.mpr ⟨hm, h7⟩)
theorem at_5_196 : zAtX "GrownPost" (zXn 5) 192 196 := zAtX_of (by decide) q999 q140 (by decide +kernel)
theorem z_throwN {X : zX} {k n pc : Nat} {lv : List (Nat × Value)} {st : List Value} {g : zM} {cc : ByteArray} {own : String} (hX : zCX X cc own) (hT : zNT X) {D M ik is ic i : Nat} {tx : String} (hR : X.2.2.2.1 = zrm D M) (hA : zAtX own (zXn 5) ik ic) (hi : zStr[i]? = some (own, is, tx))
    (d0 : decode cc pc = .ok (.new ik, 3)) (d3 : decode cc (pc + 3) = .ok (.dup, 1)) (d4 : decode cc (pc + 4) = .ok (.ldc is, 2)) (d6 : decode cc (pc + 6) = .ok (.invokespecial ic, 3)) (d9 : decode cc (pc + 9) = .ok (.athrow, 1))
    (hroom : (st.map fun v => v.category).sum ≤ 8) (h1 : k + 1 ≤ M) (h2 : n + 6 ≤ 6 * M) (_h3 : 0 ≤ 0) : zW X (zQ X (.inr (5, g)) M) k n pc lv st g := fun H locs ls hP hS hl =>
  vx_throwX (N1 := "java/lang/RuntimeException") (Nr := ["java/lang/Exception"]) (ix := 13) (rx := zRx) (A := zA (zEE X)) hX.1 hX.2.1 hX.2.2.2.2.2.1 zRx_0 zRx_1 zRx_2 zRx_5 hX.2.2.1 hA.1 (by decide) (hX.2.2.2.1 _ hA.2.1) (hX.2.2.2.1 _ hA.2.2.1) (hX.2.2.2.2.1.2.2.2.1 i _ hi) (fun w hw => vx_at_G hX (hA.2.2.2 w hw))
    (fun w hw => vx_ot_G ((List.mem_cons.mp hw).elim (fun e => by rw [e]; exact Or.inl hA.2.1) (fun hw => (List.mem_cons.mp hw).elim (fun e => by rw [e]; exact Or.inl hA.2.2.1) (hA.2.2.2 w))))
    hX.2.2.2.2.1.2.1 hX.2.2.2.2.1.2.2.1 hS hl.1 d0 d3 d4 d6 d9 (fun x hx => (hT x hx).elim) (by rw [hR]; show 2 + 3 < D + 14; omega) (by rw [hR]; show _ + (13 * (2 + 1) + 43) ≤ 40 * D + 400; omega) (by rw [hR]; exact h1) (by rw [hR]; exact h2) hX.2.2.2.2.2.2
    (fun t hvm hz hk => ⟨rfl, ⟨Nat.le_trans hP.1 hz, fun id hid => (hP.2 id hid).kept (hk _ (by have := hP.1; show (zEE X).1 + id < H.size; omega))⟩, ⟨Nat.le_trans hS.1 hz, fun q hq hA9 => by rw [hk q (Nat.lt_of_lt_of_le hq hS.1)]; exact hS.2.1 q hq hA9⟩⟩) hS.2.2 h1 h2
theorem z_throwNW {X : zX} {k n pc : Nat} {lv : List (Nat × Value)} {st : List Value} {g : zM} {cc : ByteArray} {own : String} (hX : zCX X cc own) (hT : zNT X) {D M ik is ic i : Nat} {tx : String} (hR : X.2.2.2.1 = zrm D M) (hA : zAtX own (zXn 5) ik ic) (hi : zStr[i]? = some (own, is, tx))
    (d0 : decode cc pc = .ok (.new ik, 3)) (d3 : decode cc (pc + 3) = .ok (.dup, 1)) (d4 : decode cc (pc + 4) = .ok (.ldc_w is, 3)) (d6 : decode cc (pc + 7) = .ok (.invokespecial ic, 3)) (d9 : decode cc (pc + 10) = .ok (.athrow, 1))
    (hroom : (st.map fun v => v.category).sum ≤ 8) (h1 : k + 1 ≤ M) (h2 : n + 6 ≤ 6 * M) (_h3 : 0 ≤ 0) : zW X (zQ X (.inr (5, g)) M) k n pc lv st g := fun H locs ls hP hS hl =>
  vx_throwXW (N1 := "java/lang/RuntimeException") (Nr := ["java/lang/Exception"]) (ix := 13) (rx := zRx) (A := zA (zEE X)) hX.1 hX.2.1 hX.2.2.2.2.2.1 zRx_0 zRx_1 zRx_2 zRx_5 hX.2.2.1 hA.1 (by decide) (hX.2.2.2.1 _ hA.2.1) (hX.2.2.2.1 _ hA.2.2.1) (hX.2.2.2.2.1.2.2.2.1 i _ hi) (fun w hw => vx_at_G hX (hA.2.2.2 w hw))
    (fun w hw => vx_ot_G ((List.mem_cons.mp hw).elim (fun e => by rw [e]; exact Or.inl hA.2.1) (fun hw => (List.mem_cons.mp hw).elim (fun e => by rw [e]; exact Or.inl hA.2.2.1) (hA.2.2.2 w))))
    hX.2.2.2.2.1.2.1 hX.2.2.2.2.1.2.2.1 hS hl.1 d0 d3 d4 d6 d9 (fun x hx => (hT x hx).elim) (by rw [hR]; show 2 + 3 < D + 14; omega) (by rw [hR]; show _ + (13 * (2 + 1) + 43) ≤ 40 * D + 400; omega) (by rw [hR]; exact h1) (by rw [hR]; exact h2) hX.2.2.2.2.2.2
    (fun t hvm hz hk => ⟨rfl, ⟨Nat.le_trans hP.1 hz, fun id hid => (hP.2 id hid).kept (hk _ (by have := hP.1; show (zEE X).1 + id < H.size; omega))⟩, ⟨Nat.le_trans hS.1 hz, fun q hq hA9 => by rw [hk q (Nat.lt_of_lt_of_le hq hS.1)]; exact hS.2.1 q hq hA9⟩⟩) hS.2.2 h1 h2
