theorem z_callU1 {X : zX} {Q : State → Prop} {k n pc : Nat} {lv : List (Nat × Value)} {rest : List Value} {g : zM} {cc : ByteArray} {own C owner : String} {x y : MethodName} {bytes : ByteArray} {maxL d mc : Nat} {ret : Option FieldType} {As : List Value} {index : Nat} (hX : zCX X cc own) {v : Value} {g1 : zM} (hOK : zOK y bytes maxL ret As.length) {np : Nat} (hnp : As.length = np)
    (hlink : Cond.methodLink own index x ∈ zGW) (hsame : Cond.sameMethod x.cls owner x.name x.desc ∈ zGW) (hsel : Cond.selects C x y ∈ zGW) (hinst : Cond.instanceMethod y ∈ zGW) (hdecl : Cond.declares ⟨owner, x.name, x.desc⟩ ∈ zNW) (hod : owner ≠ "java/lang/invoke/MethodHandle" ∧ owner ≠ "java/lang/invoke/VarHandle" ∧ (parseMethodDescriptor x.desc).map (fun d => d.parameters.length) = some np) (hrm : zRm X.2.2.2.1 d maxL mc k n) {b : Nat} (hC : zCt y bytes maxL ret d mc (zEE X) (.ref b :: As) g (.inl (some v, g1)))
    (hrec : ∀ H, zPic (zEE X) g H → ∃ cellB : Cell, H[b]? = some cellB ∧ cellB.vm.isStatics = false ∧ X.2.2.2.2.1.vm.findClass C = some cellB.cls) (hd : decode cc pc = .ok (.invokevirtual index, 3)) {st0 : List Value} (hst : st0 = As.reverse ++ .ref b :: rest) (hroom : Nat.ble ((rest.map fun v => v.category).sum) 8 = true)
    (kk : zW X Q (k + mc) (n + 6 * mc) (pc + 3) lv (v :: rest) g1) : zW X Q k n pc lv st0 g := by
  subst hnp
  intro H locs ls hP hS hl T hT Xs
  have hr := va_runU (meth := X.2.2.2.2.2.2.2.2.1) (e := X.2.2.1) (below := X.2.2.2.2.2.2.2.1) (x := x) (nL := X.2.2.2.2.2.2.2.2.2.1.maxLocals) (rm := zrm d mc) (g := F0 X.2.2.2.2.2.1 pc ls st0) (rest := rest) (H := H) (locs := locs) (cells := k) (slots := n) ⟨hX.1, hX.2.1, rfl, hX.2.2.1, hX.2.2.2.1⟩ (hC.met hX.2.2.2.2.2.1)
    (va_cwA (C := C) (owner := owner) As.length hX.2.2.2.1 (zgood fun w hw => by
      unfold va_wsU at hw
      rcases List.mem_append.mp hw with h | h
      · simp only [List.mem_cons, List.not_mem_nil, or_false] at h
        rcases h with rfl | rfl | rfl | rfl | rfl
        · exact hlink
        · exact hsame
        · exact hsel
        · exact hinst
        · exact hOK.2.1
      · exact hOK.ws w h) rfl rfl rfl (hX.2.2.2.2.1.2.2.2.2.2.2.2.1 _ hdecl) hod hrm.1) ⟨zPc_blind, hrec H hP, fun U hU hW => zPc_of hX.2.2.2.2.1 hP hS hU hW⟩ rfl rfl hl.1 hst (lv_room (zl hroom)) hd hrm.2
  obtain ⟨v', st₀, t, T', L, h0, X', hL, e1, e2, hq, stp⟩ := hr T hT Xs
  obtain ⟨hv, hpic, hF⟩ := hq
  cases hv
  obtain ⟨k1, k2, k3⟩ := vx_keep (A0 := zA (zEE X)) h0 e1 hS (fun q _ h => h) (fun q h => h) hL hF
  obtain ⟨t2, a1, b1⟩ := kk T'.heap (locs ++ L) ls (by rw [e1]; exact hpic) k3 hl T' rfl X'
  exact ⟨t2, stp t2 a1, b1⟩
section ZS
variable {X : zX} {Q : State → Prop} {k n pc : Nat} {lv lv' : List (Nat × Value)} {st rest : List Value} {g : zM} {cc : ByteArray} {own : String}
theorem z_aald_row (hX : zCX X cc own) {a : Nat} (hk : zK a = 24) {i : Int32} (hin : vp_in i 8) (hd : decode cc pc = .ok (.aaload, 1)) (kk : zW X Q k n (pc + 1) lv (.ref (zB X + (a + 1 + i.toNatClampNeg)) :: st) g) : zW X Q k n pc lv (.int i :: .ref (zB X + a) :: st) g := fun H locs ls hP hS hl =>
  have hlt : i.toNatClampNeg < 8 := Nat.not_le.mp fun q => hin (Or.inr q)
  have hc : va_at (zEE X).2.1 vwCl ((zEE X).1 + a, .inl ((zEE X).2.2.1 5, 8, .inr (.inr (.inr (.inr (fun i => some ((zEE X).1 + (a + 1 + i)))))))) H := by
    have h := hP.2 a (zK_lt hk (by decide))
    rw [hk] at h
    exact h
  W.aald (v := .ref (zB X + (a + 1 + i.toNatClampNeg))) (ty := .array .int) (cell := vp_cell ((zEE X).2.2.1 5) (8, .inr (.inr (.inr (.inr (fun i => some ((zEE X).1 + (a + 1 + i)))))))) hX.1 hX.2.1 hc ((hX.2.2.2.2.1.1.2 5 _ rfl).1 8 (fun j => va_rf (some ((zEE X).1 + (a + 1 + j))))) rfl (fun q => by cases q) (by show ¬ (i < 0 ∨ (arrV _ _ _).slots.size ≤ _); rw [arrV_size]; exact hin) (by show (arrV _ _ _).slots[_]? = _; rw [arrV_read _ _ hlt]; rfl) rfl rfl hd (kk H locs ls hP hS hl)
theorem z_i2c (hX : zCX X cc own) {x : Int32} (hd : decode cc pc = .ok (.i2c, 1)) (kk : zW X Q k n (pc + 1) lv (.int ((x.toUInt32 % 65536).toInt32) :: st) g) : zW X Q k n pc lv (.int x :: st) g := fun H locs ls hP hS hl => lv_i2c hX.1 hX.2.1 hd rfl (kk H locs ls hP hS hl)
theorem z_getC (hX : zCX X cc own) {index : Nat} (hw : Cond.fieldLink own index "java/lang/String" "COMPACT_STRINGS" "Z" ∈ zGW) (hd : decode cc pc = .ok (.getstatic index, 3)) (kk : zW X Q k n (pc + 3) lv (.int 1 :: st) g) : zW X Q k n pc lv st g := fun H locs ls hP hS hl => va_gets hX.1 hX.2.1 hX.2.2.2.2.1.2.2.2.2.2.1 hS hX.2.2.1 (hX.2.2.2.1 _ hw) (fun _ h => h) hd (kk H locs ls hP hS hl)
theorem z_getF (hX : zCX X cc own) {index : Nat} (hw : Cond.fieldLink own index "jdk/internal/util/Preconditions" "SIOOBE_FORMATTER" "Ljava/util/function/BiFunction;" ∈ zGW) (hd : decode cc pc = .ok (.getstatic index, 3)) (kk : ∀ v : Option Nat, zW X Q k n (pc + 3) lv (va_rf v :: st) g) : zW X Q k n pc lv st g := fun H locs ls hP hS hl => by
  rcases hX.2.2.2.2.1.2.2.2.2.2.2.1 with h | ⟨t, h⟩
  · exact va_gets hX.1 hX.2.1 h hS hX.2.2.1 (hX.2.2.2.1 _ hw) (fun _ h => h) hd (kk none H locs ls hP hS hl)
  · exact va_gets hX.1 hX.2.1 h hS hX.2.2.1 (hX.2.2.2.1 _ hw) (fun _ h => h) hd (kk (some t) H locs ls hP hS hl)
theorem z_gval (hX : zCX X cc own) {i index : Nat} (hi : i ∈ zLits) (hw : Cond.fieldLink own index "java/lang/String" "value" "[B" ∈ zGW) (hd : decode cc pc = .ok (.getfield index, 3)) (kk : zW X Q k n (pc + 3) lv (.ref ((zEE X).2.2.2.2 i) :: st) g) : zW X Q k n pc lv (.ref ((zEE X).2.2.2.1 i) :: st) g := fun H locs ls hP hS hl => vk_getf hX.1 hX.2.1 (hX.2.2.2.2.1.2.2.2.2.1 i hi).2.2.1 hS hX.2.2.1 (hX.2.2.2.1 _ hw) (fun _ h => h) hd (kk H locs ls hP hS hl)
theorem z_gcod (hX : zCX X cc own) {i index : Nat} (hi : i ∈ zLits) (hw : Cond.fieldLink own index "java/lang/String" "coder" "B" ∈ zGW) (hd : decode cc pc = .ok (.getfield index, 3)) (kk : zW X Q k n (pc + 3) lv (.int 0 :: st) g) : zW X Q k n pc lv (.ref ((zEE X).2.2.2.1 i) :: st) g := fun H locs ls hP hS hl => vk_getf hX.1 hX.2.1 (hX.2.2.2.2.1.2.2.2.2.1 i hi).2.1 hS hX.2.2.1 (hX.2.2.2.1 _ hw) (fun _ h => h) hd (kk H locs ls hP hS hl)
theorem z_llen (hX : zCX X cc own) {i : Nat} (hi : i ∈ zLits) (hd : decode cc pc = .ok (.arraylength, 1)) (kk : zW X Q k n (pc + 1) lv (.int (Int32.ofNat (zTxt i).length) :: st) g) : zW X Q k n pc lv (.ref ((zEE X).2.2.2.2 i) :: st) g := fun H locs ls hP hS hl => va_tlen hX.1 hX.2.1 (hX.2.2.2.2.1.2.2.2.2.1 i hi).2.2.2 hS rfl hd (kk H locs ls hP hS hl)
theorem z_lbld (hX : zCX X cc own) {i : Nat} (hi : i ∈ zLits) {j : Int32} (hin : vp_in j (zTxt i).length) (hd : decode cc pc = .ok (.baload, 1)) (kk : zW X Q k n (pc + 1) lv (.int (zCh i j.toNatClampNeg) :: st) g) : zW X Q k n pc lv (.int j :: .ref ((zEE X).2.2.2.2 i) :: st) g := fun H locs ls hP hS hl => va_tb hX.1 hX.2.1 (hX.2.2.2.2.1.2.2.2.2.1 i hi).2.2.2 hS hin rfl hd (kk H locs ls hP hS hl)
theorem zrec_lit (hX : zCX X cc own) {i : Nat} (hi : i ∈ zLits) (H : Heap) (locs : List Loc) (hS : va_S (zA (zEE X)) X.2.2.2.2.1.heap H locs) : ∃ cellB : Cell, H[(zEE X).2.2.2.1 i]? = some cellB ∧ cellB.vm.isStatics = false ∧ X.2.2.2.2.1.vm.findClass "java/lang/String" = some cellB.cls := by
  obtain ⟨cell, h1, h2, h3, -⟩ := (hX.2.2.2.2.1.2.2.2.2.1 i hi).1.kept hS.2.1
  exact ⟨cell, h1, h2, h3⟩
/-- a call on a literal -/
theorem z_callL1 {y : MethodName} {bytes : ByteArray} {maxL d mc : Nat} {ret : Option FieldType} {As : List Value} {index : Nat} (hX : zCX X cc own) {v : Value} {g1 : zM} (hOK : zOK y bytes maxL ret As.length) (hlink : Cond.methodLink own index y ∈ zGW) (hinst : Cond.instanceMethod y ∈ zGW) (hsel : Cond.selects y.cls y y ∈ zGW) (hcls : y.cls = "java/lang/String") (hrm : zRm X.2.2.2.1 d maxL mc k n) {i : Nat} (hi : i ∈ zLits) (hC : zCt y bytes maxL ret d mc (zEE X) (.ref ((zEE X).2.2.2.1 i) :: As) g (.inl (some v, g1)))
    (hd : decode cc pc = .ok (.invokevirtual index, 3)) {st0 : List Value} (hst : st0 = As.reverse ++ .ref ((zEE X).2.2.2.1 i) :: rest) (hroom : Nat.ble ((rest.map fun v => v.category).sum) 8 = true)
    (kk : zW X Q (k + mc) (n + 6 * mc) (pc + 3) lv (v :: rest) g1) : zW X Q k n pc lv st0 g :=
  z_fin (o := .inl (some v, g1)) (fun H locs ls hP hS hl => vx_runV (nL := X.2.2.2.2.2.2.2.2.2.1.maxLocals) (rm := zrm d mc) ⟨hX.1, hX.2.1, rfl, hX.2.2.1, hX.2.2.2.1⟩ (hC X.2.1 hX.2.2.2.2.2.1) (cwV As.length hX.2.2.2.1 (zgood fun w hw => by
    unfold wsV at hw
    rcases List.mem_append.mp hw with h | h
    · simp only [List.mem_cons, List.not_mem_nil, or_false] at h
      rcases h with rfl | rfl | rfl | rfl
      · exact hlink
      · exact hinst
      · exact hsel
      · exact hOK.2.1
    · exact hOK.ws w h) rfl rfl rfl ⟨rfl, hOK.2.2.1, hOK.2.2.2.1, hOK.2.2.2.2⟩ hrm.1) ⟨zPc_blind, by rw [hcls]; exact zrec_lit hX hi H locs hS, fun U hU hW => zPc_of hX.2.2.2.2.1 hP hS hU hW⟩ rfl rfl hl.1 hst (lv_room (zl hroom)) hd hrm.2) (fun v' g1' e => by cases e; exact kk) (fun c g1 e => by cases e)
theorem z_aload_nv (hX : zCX X cc own) {q : Fin 4} {v : Option Nat} (hd : decode cc pc = .ok (.aload_n q, 1)) (pl : Nat) (hl0 : lv[pl]? = some ((q : Nat), va_rf v)) (kk : zW X Q k n (pc + 1) lv (va_rf v :: st) g) : zW X Q k n pc lv st g := by
  cases v with
  | none => exact fun H locs ls hP hS hl => lv_aload_nN hX.1 hX.2.1 hd rfl (lv_at hl pl hl0) (kk H locs ls hP hS hl)
  | some t => exact z_aload_n hX hd pl hl0 kk
/-- a static call of any class's method -/
theorem z_callT {y : MethodName} {bytes : ByteArray} {maxL d mc : Nat} {ret : Option FieldType} {As : List Value} {index : Nat} (hX : zCX X cc own) {v : Option Value} {g1 : zM} (hOK : zOK y bytes maxL ret As.length) (hlink : Cond.methodLink own index y ∈ zGW) (hstat : Cond.static y ∈ zGW) (hrm : zRm X.2.2.2.1 d maxL mc k n) (hC : zCt y bytes maxL ret d mc (zEE X) As g (.inl (v, g1)))
    (hd : decode cc pc = .ok (.invokestatic index, 3)) {st0 : List Value} (hst : st0 = As.reverse ++ rest) (hroom : Nat.ble ((rest.map fun v => v.category).sum) 8 = true)
    (kk : zW X Q (k + mc) (n + 6 * mc) (pc + 3) lv (v.toList ++ rest) g1) : zW X Q k n pc lv st0 g :=
  z_fin (o := .inl (v, g1)) (fun H locs ls hP hS hl => vx_runS (nL := X.2.2.2.2.2.2.2.2.2.1.maxLocals) (rm := zrm d mc) ⟨hX.1, hX.2.1, rfl, hX.2.2.1, hX.2.2.2.1⟩ (hC X.2.1 hX.2.2.2.2.2.1) ⟨callB_of As.length hX.2.2.2.1 (zgood hOK.ws) rfl rfl rfl (hX.2.2.2.1 _ hOK.2.1) (hX.2.2.2.1 _ hlink) ⟨hOK.2.2.1, hOK.2.2.2.1, hOK.2.2.2.2⟩ hrm.1, hX.2.2.2.1 _ hstat⟩ ⟨zPc_blind, fun U hU hW => zPc_of hX.2.2.2.2.1 hP hS hU hW⟩ rfl rfl hl.1 hst (lv_room (zl hroom)) hd hrm.2) (fun v' g1' e => by cases e; exact kk) (fun c g1 e => by cases e)
end ZS
theorem zlk_out {d : Int} {x : Int32} (keys : List Int) {l : List (Int × Int)} (hk : l.map (fun q => q.1) = keys) (h : ∀ v ∈ keys, ¬ x = Int32.ofInt v) : Op.lookupswitch.offset l d x.toInt = d := by
  subst hk
  induction l with
  | nil => rfl
  | cons q r ih =>
    rw [Op.lookupswitch.offset_cons]
    rw [if_neg (fun e => h q.1 (by simp) (by rw [e]; simp))]
    exact ih (fun v hv => h v (by simp only [List.map_cons, List.mem_cons]; exact Or.inr hv))
theorem z_callJ1 {X : zX} {Q : State → Prop} {k n pc : Nat} {lv : List (Nat × Value)} {rest : List Value} {g : zM} {cc : ByteArray} {own : String} {y : MethodName} {bytes : ByteArray} {maxL d mc : Nat} {ret : Option FieldType} {As : List Value} {index : Nat} (hX : zCX X cc own) {v : Value} {g1 : zM} (hOK : zOK y bytes maxL ret As.length) (hlink : Cond.methodLink own index y ∈ zGW) (hstat : Cond.static y ∈ zGW) (hrm : zRm X.2.2.2.1 d maxL mc k n) (hC : zCt y bytes maxL ret d mc (zEE X) As g (.inl (some v, g1)))
    (hd : decode cc pc = .ok (.invokestatic index, 3)) {st0 : List Value} (hst : st0 = As.reverse ++ rest) (hroom : Nat.ble ((rest.map fun v => v.category).sum) 8 = true)
    (kk : zW X Q (k + mc) (n + 6 * mc) (pc + 3) lv (v :: rest) g1) : zW X Q k n pc lv st0 g := z_callT hX hOK hlink hstat hrm hC hd hst hroom kk
def fStr_length (i : Nat) : Option Int32 := if i ∈ zLits then some (Int32.ofNat (zTxt i).length) else none
def fStr_charAt (i : Nat) (j : Int32) : Option Int32 := if i ∈ zLits then zchk j (zTxt i).length (some (zCh i j.toNatClampNeg)) else none
theorem zch_ok : ∀ i ∈ zLits, ∀ j, j < (zTxt i).length → ((zCh i j &&& 255).toUInt32 % 65536).toInt32 = zCh i j := by decide +kernel
theorem zln_ok : ∀ i ∈ zLits, Int32.ofNat (zTxt i).length >>> ((0 : Int32) &&& 31) = Int32.ofNat (zTxt i).length ∧ (zTxt i).length < 1000 := by decide +kernel
theorem zch_nar : ∀ i ∈ zLits, ∀ j, j < (zTxt i).length → narrow .char (.int (zCh i j)) = .int (zCh i j) := by decide +kernel
theorem ok_coder : zOK yJ0_coder_7d493 cJ0_coder_7d493 1 (some .byte) 0 := ⟨q692, q130, by decide, by decide, by decide +kernel⟩
theorem ok_isl : zOK yJ0_isLatin1_aae02 cJ0_isLatin1_aae02 1 (some .boolean) 0 := ⟨q702, q130, by decide, by decide, by decide +kernel⟩
theorem ok_lch : zOK yJ1_charAt_3b067 cJ1_charAt_3b067 2 (some .char) 2 := ⟨q705, q131, by decide, by decide, by decide +kernel⟩
theorem ok_chk : zOK yJ0_checkIndex_df160 cJ0_checkIndex_df160 2 none 2 := ⟨q708, q130, by decide, by decide, by decide +kernel⟩
theorem ok_pre : zOK yJ3_checkIndex_8e157 cJ3_checkIndex_8e157 3 (some .int) 3 := ⟨q713, q132, by decide, by decide, by decide +kernel⟩
theorem ok_Str_length : zOK yJ0_length_8abf5 cJ0_length_8abf5 1 (some .int) 0 := ⟨q688, q130, by decide, by decide, by decide +kernel⟩
theorem ok_Str_charAt : zOK yJ0_charAt_5068e cJ0_charAt_5068e 2 (some .char) 1 := ⟨q698, q130, by decide, by decide, by decide +kernel⟩
set_option maxHeartbeats 4000000 in
set_option maxRecDepth 100000 in
theorem ct_coder {E : zE} {g : zM} {i : Nat} (hi : i ∈ zLits) : zCt yJ0_coder_7d493 cJ0_coder_7d493 1 (some .byte) 0 0 E [.ref (E.2.2.2.1 i)] g (.inl (some (.int 0), g)) := by
  refine zmet (by decide) (zl rfl) (fun X hE hX hT hR hr hn => ?_)
  subst hE
  refine z_getC hX q693 dJ0_coder_7d493_0 ?_
  refine z_if_eq hX 13 dJ0_coder_7d493_3 (by decide) (fun h => absurd h (by decide)) (fun _ => ?_)
  refine z_aload_n hX dJ0_coder_7d493_6 0 rfl ?_
  refine z_gcod hX hi q2192 dJ0_coder_7d493_7 ?_
  refine z_goto hX 14 dJ0_coder_7d493_10 (by decide) ?_
  exact z_iret hX hr rfl (zl rfl) (zl rfl) dJ0_coder_7d493_14
set_option maxHeartbeats 4000000 in
set_option maxRecDepth 100000 in
theorem ct_isl {E : zE} {g : zM} {i : Nat} (hi : i ∈ zLits) : zCt yJ0_isLatin1_aae02 cJ0_isLatin1_aae02 1 (some .boolean) 0 0 E [.ref (E.2.2.2.1 i)] g (.inl (some (.int 1), g)) := by
  refine zmet (by decide) (zl rfl) (fun X hE hX hT hR hr hn => ?_)
  subst hE
  refine z_getC hX q693 dJ0_isLatin1_aae02_0 ?_
  refine z_if_eq hX 17 dJ0_isLatin1_aae02_3 (by decide) (fun h => absurd h (by decide)) (fun _ => ?_)
  refine z_aload_n hX dJ0_isLatin1_aae02_6 0 rfl ?_
  refine z_gcod hX hi q2192 dJ0_isLatin1_aae02_7 ?_
  refine z_if_ne hX 17 dJ0_isLatin1_aae02_10 (by decide) (fun h => absurd rfl h) (fun _ => ?_)
  refine z_iconst hX dJ0_isLatin1_aae02_13 ci_1 ?_
  refine z_goto hX 18 dJ0_isLatin1_aae02_14 (by decide) ?_
  exact z_iret hX hr rfl (zl rfl) (zl rfl) dJ0_isLatin1_aae02_18
set_option maxHeartbeats 4000000 in
set_option maxRecDepth 100000 in
theorem ct_pre {E : zE} {g : zM} {a b : Int32} {v : Option Nat} (h1 : ¬ a < 0) (h2 : a < b) : zCt yJ3_checkIndex_8e157 cJ3_checkIndex_8e157 3 (some .int) 0 0 E [.int a, .int b, va_rf v] g (.inl (some (.int a), g)) := by
  refine zmet (by decide) (by cases v <;> exact zl rfl) (fun X hE hX hT hR hr hn => ?_)
  subst hE
  have e : lv_args 0 [.int a, .int b, va_rf v] = [(0, .int a), (1, .int b), (2, va_rf v)] := by cases v <;> rfl
  rw [e]
  refine z_iload_n hX dJ3_checkIndex_8e157_0 0 rfl ?_
  refine z_if_lt hX 9 dJ3_checkIndex_8e157_1 (by decide) (fun h => absurd h h1) (fun _ => ?_)
  refine z_iload_n hX dJ3_checkIndex_8e157_4 0 rfl ?_
  refine z_iload_n hX dJ3_checkIndex_8e157_5 1 rfl ?_
  refine z_icmp_lt hX 16 dJ3_checkIndex_8e157_6 (by decide) (fun _ => ?_) (fun h => absurd h2 h)
  refine z_iload_n hX dJ3_checkIndex_8e157_16 0 rfl ?_
  exact z_iret hX hr rfl (zl rfl) (zl rfl) dJ3_checkIndex_8e157_17
set_option maxHeartbeats 4000000 in
set_option maxRecDepth 100000 in
theorem ct_chk {E : zE} {g : zM} {a b : Int32} (h1 : ¬ a < 0) (h2 : a < b) : zCt yJ0_checkIndex_df160 cJ0_checkIndex_df160 2 none 1 0 E [.int a, .int b] g (.inl (none, g)) := by
  refine zmet (by decide) (zl rfl) (fun X hE hX hT hR hr hn => ?_)
  subst hE
  refine z_iload_n hX dJ0_checkIndex_df160_0 0 rfl ?_
  refine z_iload_n hX dJ0_checkIndex_df160_1 1 rfl ?_
  refine z_getF hX q709 dJ0_checkIndex_df160_2 (fun v => ?_)
  refine z_callT (rest := []) hX ok_pre q711 q712 (zrm_ok hR (by decide)) (ct_pre (v := v) h1 h2) dJ0_checkIndex_df160_5 rfl rfl ?_
  refine z_pop hX dJ0_checkIndex_df160_8 rfl ?_
  exact z_vret hX hr (zl rfl) (zl rfl) dJ0_checkIndex_df160_9
theorem zin_lt {j : Int32} {n : Nat} (h : vp_in j n) (hn : n < 1000) : ¬ j < 0 ∧ j < Int32.ofNat n := by
  refine ⟨fun q => h (Or.inl q), ?_⟩
  have h1 : ¬ j < 0 := fun q => h (Or.inl q)
  have h2 : j.toNatClampNeg < n := Nat.not_le.mp fun q => h (Or.inr q)
  have h3 : 0 ≤ j.toInt := by
    rw [Int32.lt_iff_toInt_lt] at h1
    exact Int.not_lt.mp h1
  have h4 : j.toInt = (j.toNatClampNeg : Int) := by
    show j.toInt = ((j.toInt.toNat : Nat) : Int)
    omega
  rw [Int32.lt_iff_toInt_lt, Int32.toInt_ofNat_of_lt (by omega)]
  omega
set_option maxHeartbeats 4000000 in
set_option maxRecDepth 100000 in
theorem ct_lch {E : zE} {g : zM} {i : Nat} {j : Int32} (hi : i ∈ zLits) (hj : vp_in j (zTxt i).length) : zCt yJ1_charAt_3b067 cJ1_charAt_3b067 2 (some .char) 2 0 E [.ref (E.2.2.2.2 i), .int j] g (.inl (some (.int (zCh i j.toNatClampNeg)), g)) := by
  refine zmet (by decide) (zl rfl) (fun X hE hX hT hR hr hn => ?_)
  subst hE
  have hb := zin_lt hj (zln_ok i hi).2
  refine z_iload_n hX dJ1_charAt_3b067_0 1 rfl ?_
  refine z_aload_n hX dJ1_charAt_3b067_1 0 rfl ?_
  refine z_llen hX hi dJ1_charAt_3b067_2 ?_
  refine z_callT (rest := []) hX ok_chk q706 q707 (zrm_ok hR (by decide)) (ct_chk hb.1 hb.2) dJ1_charAt_3b067_3 rfl rfl ?_
  refine z_aload_n hX dJ1_charAt_3b067_6 0 rfl ?_
  refine z_iload_n hX dJ1_charAt_3b067_7 1 rfl ?_
  refine z_lbld hX hi hj dJ1_charAt_3b067_8 ?_
  refine z_sipush hX dJ1_charAt_3b067_9 cs_255 ?_
  refine z_iand hX dJ1_charAt_3b067_12 ?_
  refine z_i2c hX dJ1_charAt_3b067_13 ?_
  rw [zch_ok i hi _ (Nat.not_le.mp fun q => hj (Or.inr q))]
  exact z_iret hX hr (by
    have e := zch_ok i hi j.toNatClampNeg (Nat.not_le.mp fun q => hj (Or.inr q))
    have e2 : narrow .char (.int (zCh i j.toNatClampNeg)) = .int (((zCh i j.toNatClampNeg)).toUInt32 % 65536).toInt32 := rfl
    have e3 := zch_nar i hi j.toNatClampNeg (Nat.not_le.mp fun q => hj (Or.inr q))
    exact e3) (zl rfl) (zl rfl) dJ1_charAt_3b067_14
set_option maxHeartbeats 4000000 in
set_option maxRecDepth 100000 in
theorem ct_Str_charAt {E : zE} {g : zM} {i : Nat} {j r : Int32} (hf : fStr_charAt i j = some r) : zCt yJ0_charAt_5068e cJ0_charAt_5068e 2 (some .char) 3 0 E [.ref (E.2.2.2.1 i), .int j] g (.inl (some (.int r), g)) := by
  refine zmet (by decide) (zl rfl) (fun X hE hX hT hR hr hn => ?_)
  subst hE
  unfold fStr_charAt at hf
  by_cases hi : i ∈ zLits
  · rw [if_pos hi] at hf
    obtain ⟨hj, hf⟩ := zchk_some hf
    obtain rfl := Option.some.inj hf
    refine z_aload_n hX dJ0_charAt_5068e_0 0 rfl ?_
    refine z_callL1 (rest := []) hX ok_isl q699 q700 q701 rfl (zrm_ok hR (by decide)) hi (ct_isl hi) dJ0_charAt_5068e_1 rfl rfl ?_
    refine z_if_eq hX 16 dJ0_charAt_5068e_4 (by decide) (fun h => absurd h (by decide)) (fun _ => ?_)
    refine z_aload_n hX dJ0_charAt_5068e_7 0 rfl ?_
    refine z_gval hX hi q2191 dJ0_charAt_5068e_8 ?_
    refine z_iload_n hX dJ0_charAt_5068e_11 1 rfl ?_
    refine z_callT (rest := []) hX ok_lch q703 q704 (zrm_ok hR (by decide)) (ct_lch hi hj) dJ0_charAt_5068e_12 rfl rfl ?_
    exact z_iret hX hr (zch_nar i hi _ (Nat.not_le.mp fun q => hj (Or.inr q))) (zl rfl) (zl rfl) dJ0_charAt_5068e_15
  · rw [if_neg hi] at hf; exact zno hf
set_option maxHeartbeats 4000000 in
set_option maxRecDepth 100000 in
theorem ct_Str_length {E : zE} {g : zM} {i : Nat} {r : Int32} (hf : fStr_length i = some r) : zCt yJ0_length_8abf5 cJ0_length_8abf5 1 (some .int) 1 0 E [.ref (E.2.2.2.1 i)] g (.inl (some (.int r), g)) := by
  refine zmet (by decide) (zl rfl) (fun X hE hX hT hR hr hn => ?_)
  subst hE
  unfold fStr_length at hf
  by_cases hi : i ∈ zLits
  · rw [if_pos hi] at hf
    obtain rfl := Option.some.inj hf
    refine z_aload_n hX dJ0_length_8abf5_0 0 rfl ?_
    refine z_gval hX hi q2191 dJ0_length_8abf5_1 ?_
    refine z_llen hX hi dJ0_length_8abf5_4 ?_
    refine z_aload_n hX dJ0_length_8abf5_5 0 rfl ?_
    refine z_callL1 (rest := [_]) hX ok_coder q689 q690 q691 rfl (zrm_ok hR (by decide)) hi (ct_coder hi) dJ0_length_8abf5_6 rfl rfl ?_
    refine z_ishr hX dJ0_length_8abf5_9 ?_
    rw [(zln_ok i hi).1]
    exact z_iret hX hr rfl (zl rfl) (zl rfl) dJ0_length_8abf5_10
  · rw [if_neg hi] at hf; exact zno hf
theorem fStr_length_in {i : Nat} {r : Int32} (hf : fStr_length i = some r) : i ∈ zLits := by
  unfold fStr_length at hf
  by_cases hi : i ∈ zLits
  · exact hi
  · rw [if_neg hi] at hf; exact zno hf
theorem fStr_charAt_in {i : Nat} {j r : Int32} (hf : fStr_charAt i j = some r) : i ∈ zLits := by
  unfold fStr_charAt at hf
  by_cases hi : i ∈ zLits
  · exact hi
  · rw [if_neg hi] at hf; exact zno hf
