theorem at_2_114 : zAt "GrownPost" (zXn 2) 110 114 := zAt_of2 (by decide) q863 q137 (by decide +kernel)
theorem at_3_265 : zAt "GrownPost" (zXn 3) 261 265 := zAt_of2 (by decide) q1126 q141 (by decide +kernel)
theorem at_1_417 : zAt "GrownPost" (zXn 1) 413 417 := zAt_of2 (by decide) q982 q139 (by decide +kernel)
theorem at_4_124 : zAt "GrownPost" (zXn 4) 120 124 := zAt_of2 (by decide) q933 q138 (by decide +kernel)
theorem at_5_196 : True := trivial
theorem z_throwN {X : zX} {k n pc : Nat} {lv : List (Nat × Value)} {st : List Value} {g : zM} {cc : ByteArray} {own : String} (hX : zCX X cc own) (hT : zNT X) {D M ik is ic i : Nat} {tx : String} (hR : X.2.2.2.1 = zrm D M) (hA : True) (hi : zStr[i]? = some (own, is, tx))
    (d0 : decode cc pc = .ok (.new ik, 3)) (d3 : decode cc (pc + 3) = .ok (.dup, 1)) (d4 : decode cc (pc + 4) = .ok (.ldc is, 2)) (d6 : decode cc (pc + 6) = .ok (.invokespecial ic, 3)) (d9 : decode cc (pc + 9) = .ok (.athrow, 1))
    (hroom : (st.map fun v => v.category).sum ≤ 8) (h1 : k + 1 ≤ M) (h2 : n + 6 ≤ 6 * M) (_h3 : 0 ≤ 0) : zW X (zQ X (.inr (5, g)) M) k n pc lv st g := sorry
theorem z_throwNW {X : zX} {k n pc : Nat} {lv : List (Nat × Value)} {st : List Value} {g : zM} {cc : ByteArray} {own : String} (hX : zCX X cc own) (hT : zNT X) {D M ik is ic i : Nat} {tx : String} (hR : X.2.2.2.1 = zrm D M) (hA : True) (hi : zStr[i]? = some (own, is, tx))
    (d0 : decode cc pc = .ok (.new ik, 3)) (d3 : decode cc (pc + 3) = .ok (.dup, 1)) (d4 : decode cc (pc + 4) = .ok (.ldc_w is, 3)) (d6 : decode cc (pc + 7) = .ok (.invokespecial ic, 3)) (d9 : decode cc (pc + 10) = .ok (.athrow, 1))
    (hroom : (st.map fun v => v.category).sum ≤ 8) (h1 : k + 1 ≤ M) (h2 : n + 6 ≤ 6 * M) (_h3 : 0 ≤ 0) : zW X (zQ X (.inr (5, g)) M) k n pc lv st g := sorry
