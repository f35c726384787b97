theorem q143 : (Jvm.Cond.classLink "GrownPostLaw" (8 : Nat) "GrownPost") ∈ zGW := zmem 143 (by decide +kernel) (by decide +kernel)
theorem q144 : (Jvm.Cond.instantiable "GrownPost" (15 : Nat)) ∈ zGW := zmem 144 (by decide +kernel) (by decide +kernel)
theorem q145 : (Jvm.Cond.methodLink "GrownPostLaw" (154 : Nat) ({ cls := "GrownPost", name := "<init>", desc := "()V" } : Jvm.MethodName)) ∈ zGW := zmem 145 (by decide +kernel) (by decide +kernel)
theorem q146 : (Jvm.Cond.instanceMethod ({ cls := "GrownPost", name := "<init>", desc := "()V" } : Jvm.MethodName)) ∈ zGW := zmem 146 (by decide +kernel) (by decide +kernel)
theorem q147 : (Jvm.Cond.code ({ cls := "GrownPost", name := "<init>", desc := "()V" } : Jvm.MethodName) prog_1_method_1_code (1 : Nat) (Option.none : Option Jvm.ClassFile.FieldType)) ∈ zGW := zmem 147 (by decide +kernel) (by decide +kernel)
theorem q1488 : (Jvm.Cond.classLink "GrownPostLaw" (155 : Nat) "GrownPostModel") ∈ zGW := zmem 1488 (by decide +kernel) (by decide +kernel)
theorem q1489 : (Jvm.Cond.instantiable "GrownPostModel" (30 : Nat)) ∈ zGW := zmem 1489 (by decide +kernel) (by decide +kernel)
theorem q1490 : (Jvm.Cond.methodLink "GrownPostLaw" (157 : Nat) ({ cls := "GrownPostModel", name := "<init>", desc := "()V" } : Jvm.MethodName)) ∈ zGW := zmem 1490 (by decide +kernel) (by decide +kernel)
theorem q1491 : (Jvm.Cond.instanceMethod ({ cls := "GrownPostModel", name := "<init>", desc := "()V" } : Jvm.MethodName)) ∈ zGW := zmem 1491 (by decide +kernel) (by decide +kernel)
theorem q1492 : (Jvm.Cond.code ({ cls := "GrownPostModel", name := "<init>", desc := "()V" } : Jvm.MethodName) prog_14_method_5_code (2 : Nat) (Option.none : Option Jvm.ClassFile.FieldType)) ∈ zGW := zmem 1492 (by decide +kernel) (by decide +kernel)
theorem q2170 : (Jvm.Cond.arrayClass Jvm.ClassFile.FieldType.long) ∈ zGW := zmem 2170 (by decide +kernel) (by decide +kernel)
theorem okc_X11_init : zOK yX11_init cX11_init 1 none 0 := ⟨q147, q115, by decide, by decide, by decide +kernel⟩
theorem okc_X12_init : zOK yX12_init cX12_init 2 none 0 := ⟨q1492, q127, by decide, by decide, by decide +kernel⟩
theorem zV.toW {X : zX} {Q : State → Prop} {k n pc : Nat} {lv : List (Nat × Value)} {st : List Value} (h : zW X Q k n pc lv st zg0) : zV X Q (zW0 (zEE X)) k n pc lv st := fun H locs ls hP hS hl => h H locs ls (zPic_start hP.1) hS hl
set_option maxHeartbeats 4000000 in
set_option maxRecDepth 100000 in
theorem z_start {X : zX} (hX : zCX X cL_law_ RL) (hC : zCC X.2.2.2.2.1) (hR : X.2.2.2.1 = room_1) (hn : X.2.2.2.2.2.2.2.2.2.1.maxLocals = 7) {b : Nat} {Q : State → Prop} (kk : zW X Q 509 27360 23 [(0, .ref b), (1, .ref (zB X + 0)), (2, .ref (zB X + 493)), (3, .ref (zB X + 508)), (4, .int 0)] [] zg0) : zV X Q [] 0 0 0 [(0, .ref b)] [] := by
  refine zv_new (ws' := [((zEE X).1 + 0, .inr (10, [.null, .int 0, .int 0, .null, .null, .int 0, .null, .null, .null, .null, .null, .null, .null, .null, .null]))]) (a := 0) (C := RX11) (T := TX11) (N := 15) (ci := 10) (fs := [.null, .int 0, .int 0, .null, .null, .int 0, .null, .null, .null, .null, .null, .null, .null, .null, .null]) hX zin_Post tyX11 tyX11_ok q143 q144 q115 rfl (by decide) (by rw [hR]; exact zl rfl) (by rw [hR]; exact zl rfl) dL_law__0 (by simp only [List.length_append, List.length_cons, List.length_nil, len_Post, len_Model]) rfl ?_
  refine zv_dup hX dL_law__3 rfl ?_
  refine zv_ctor (ws0 := []) (ws' := T_Post (zEE X) 0) (a := 0) hX hC cn_Post okc_X11_init rfl q145 q146 ⟨⟨by rw [hR]; exact zl rfl, by rw [hR]; exact zl rfl⟩, by rw [hR]; exact zl rfl, by rw [hR]; exact zl rfl⟩ dL_law__4 rfl rfl (by simp only [List.length_append, List.length_cons, List.length_nil, len_Post, len_Model]) tl_Post rfl rfl ?_
  refine zv_astore_n (lv' := [(1, .ref ((zEE X).1 + 0)), (0, .ref b)]) hX dL_law__7 hn (by decide) rfl ?_
  refine zv_new (ws' := T_Post (zEE X) 0 ++ [((zEE X).1 + 493, .inr (11, [.int 0, .null, .null, .null, .null, .null, .int 0, .int 0, .null, .int 0, .int 0, .int 0, .int 0, .int 0, .int 0, .null, .int 0, .null, .null, .int 0, .int 0, .int 0, .int 0, .int 0, .int 0, .null, .null, .null, .null, .null]))]) (a := 493) (C := RX12) (T := TX12) (N := 30) (ci := 11) (fs := [.int 0, .null, .null, .null, .null, .null, .int 0, .int 0, .null, .int 0, .int 0, .int 0, .int 0, .int 0, .int 0, .null, .int 0, .null, .null, .int 0, .int 0, .int 0, .int 0, .int 0, .int 0, .null, .null, .null, .null, .null]) hX zin_Model tyX12 tyX12_ok q1488 q1489 q127 rfl (by decide) (by rw [hR]; exact zl rfl) (by rw [hR]; exact zl rfl) dL_law__8 (by simp only [List.length_append, List.length_cons, List.length_nil, len_Post, len_Model]) rfl ?_
  refine zv_dup hX dL_law__11 rfl ?_
  refine zv_ctor (ws0 := T_Post (zEE X) 0) (ws' := T_Post (zEE X) 0 ++ T_Model (zEE X) 493) (a := 493) hX hC cn_Model okc_X12_init rfl q1490 q1491 ⟨⟨by rw [hR]; exact zl rfl, by rw [hR]; exact zl rfl⟩, by rw [hR]; exact zl rfl, by rw [hR]; exact zl rfl⟩ dL_law__12 rfl rfl (by simp only [List.length_append, List.length_cons, List.length_nil, len_Post, len_Model]) tl_Model rfl rfl ?_
  refine zv_astore_n (lv' := [(2, .ref ((zEE X).1 + 493)), (1, .ref ((zEE X).1 + 0)), (0, .ref b)]) hX dL_law__15 hn (by decide) rfl ?_
  refine zv_iconst hX dL_law__16 ci_1 ?_
  refine zv_newa (ws' := zW0 (zEE X)) (at0 := .long) (ty := .long) (a := 508) (a0 := (1, .inr (.inl (fun _ => 0)))) hX (ti := 2) rfl q2170 rfl (fun _ => rfl) (by decide) (by decide) (zl rfl) (by rw [hR]; exact zl rfl) (by rw [hR]; exact zl rfl) dL_law__17 (by simp only [List.length_append, List.length_cons, List.length_nil, len_Post, len_Model]) (by unfold zW0; rw [List.append_assoc]) ?_
  refine zv_astore_n (lv' := [(3, .ref ((zEE X).1 + 508)), (2, .ref ((zEE X).1 + 493)), (1, .ref ((zEE X).1 + 0)), (0, .ref b)]) hX dL_law__19 hn (by decide) rfl ?_
  refine zv_iconst hX dL_law__20 ci_0 ?_
  refine zv_istore (lv' := [(4, .int 0), (3, .ref ((zEE X).1 + 508)), (2, .ref ((zEE X).1 + 493)), (1, .ref ((zEE X).1 + 0)), (0, .ref b)]) hX dL_law__21 hn (by decide) rfl ?_
  exact zV.toW (zW.sub [4, 3, 2, 1, 0] rfl kk)
