theorem q118 : (Jvm.Cond.initialized "GrownPost$Mail") ∈ zGW := zmem 118 (by decide +kernel) (by decide +kernel)
theorem q513 : (Jvm.Cond.code ({ cls := "GrownPost$Mail", name := "become", desc := "(LGrownPost$Mail;)V" } : Jvm.MethodName) prog_5_method_2_code (2 : Nat) (Option.none : Option Jvm.ClassFile.FieldType)) ∈ zGW := zmem 513 (by decide +kernel) (by decide +kernel)
theorem q520 : (Jvm.Cond.code ({ cls := "GrownPost$Mail", name := "lastKind", desc := "()I" } : Jvm.MethodName) prog_5_method_9_code (1 : Nat) (Option.some Jvm.ClassFile.FieldType.int)) ∈ zGW := zmem 520 (by decide +kernel) (by decide +kernel)
theorem q524 : (Jvm.Cond.code ({ cls := "GrownPost$Mail", name := "kindAt", desc := "(I)I" } : Jvm.MethodName) prog_5_method_7_code (2 : Nat) (Option.some Jvm.ClassFile.FieldType.int)) ∈ zGW := zmem 524 (by decide +kernel) (by decide +kernel)
theorem q555 : (Jvm.Cond.code ({ cls := "GrownPost$Mail", name := "add", desc := "(II)V" } : Jvm.MethodName) prog_5_method_4_code (3 : Nat) (Option.none : Option Jvm.ClassFile.FieldType)) ∈ zGW := zmem 555 (by decide +kernel) (by decide +kernel)
theorem q590 : (Jvm.Cond.code ({ cls := "GrownPost$Mail", name := "linesOf", desc := "(I)I" } : Jvm.MethodName) prog_5_method_15_code (4 : Nat) (Option.some Jvm.ClassFile.FieldType.int)) ∈ zGW := zmem 590 (by decide +kernel) (by decide +kernel)
theorem q825 : (Jvm.Cond.code ({ cls := "GrownPost$Mail", name := "begin", desc := "(II)V" } : Jvm.MethodName) prog_5_method_3_code (3 : Nat) (Option.none : Option Jvm.ClassFile.FieldType)) ∈ zGW := zmem 825 (by decide +kernel) (by decide +kernel)
theorem q1029 : (Jvm.Cond.code ({ cls := "GrownPost$Mail", name := "weekAt", desc := "(I)I" } : Jvm.MethodName) prog_5_method_8_code (2 : Nat) (Option.some Jvm.ClassFile.FieldType.int)) ∈ zGW := zmem 1029 (by decide +kernel) (by decide +kernel)
theorem q1117 : (Jvm.Cond.code ({ cls := "GrownPost$Mail", name := "shorten", desc := "(I)V" } : Jvm.MethodName) prog_5_method_5_code (2 : Nat) (Option.none : Option Jvm.ClassFile.FieldType)) ∈ zGW := zmem 1117 (by decide +kernel) (by decide +kernel)
theorem q1145 : (Jvm.Cond.code ({ cls := "GrownPost$Mail", name := "drop", desc := "(I)V" } : Jvm.MethodName) prog_5_method_6_code (3 : Nat) (Option.none : Option Jvm.ClassFile.FieldType)) ∈ zGW := zmem 1145 (by decide +kernel) (by decide +kernel)
theorem q1215 : (Jvm.Cond.code ({ cls := "GrownPost$Mail", name := "holds", desc := "(I)Z" } : Jvm.MethodName) prog_5_method_11_code (2 : Nat) (Option.some Jvm.ClassFile.FieldType.boolean)) ∈ zGW := zmem 1215 (by decide +kernel) (by decide +kernel)
theorem q1219 : (Jvm.Cond.code ({ cls := "GrownPost$Mail", name := "kindSet", desc := "()I" } : Jvm.MethodName) prog_5_method_10_code (3 : Nat) (Option.some Jvm.ClassFile.FieldType.int)) ∈ zGW := zmem 1219 (by decide +kernel) (by decide +kernel)
theorem q1308 : (Jvm.Cond.code ({ cls := "GrownPost$Mail", name := "firstUnlike", desc := "(LGrownPost$Mail;)I" } : Jvm.MethodName) prog_5_method_13_code (4 : Nat) (Option.some Jvm.ClassFile.FieldType.int)) ∈ zGW := zmem 1308 (by decide +kernel) (by decide +kernel)
theorem q1333 : (Jvm.Cond.code ({ cls := "GrownPost$Mail", name := "binds", desc := "(II)Z" } : Jvm.MethodName) prog_5_method_12_code (5 : Nat) (Option.some Jvm.ClassFile.FieldType.boolean)) ∈ zGW := zmem 1333 (by decide +kernel) (by decide +kernel)
theorem q1411 : (Jvm.Cond.code ({ cls := "GrownPost$Mail", name := "alikeFrom", desc := "(ILGrownPost$Mail;I)I" } : Jvm.MethodName) prog_5_method_14_code (6 : Nat) (Option.some Jvm.ClassFile.FieldType.int)) ∈ zGW := zmem 1411 (by decide +kernel) (by decide +kernel)
theorem q170 : (Jvm.Cond.fieldLink "GrownPost$Mail" (9 : Nat) "GrownPost$Mail" "kinds" "[I") ∈ zGW := zmem 170 (by decide +kernel) (by decide +kernel)
theorem q172 : (Jvm.Cond.fieldLink "GrownPost$Mail" (15 : Nat) "GrownPost$Mail" "weeks" "[I") ∈ zGW := zmem 172 (by decide +kernel) (by decide +kernel)
theorem q173 : (Jvm.Cond.fieldLink "GrownPost$Mail" (24 : Nat) "GrownPost$Mail" "lines" "I") ∈ zGW := zmem 173 (by decide +kernel) (by decide +kernel)
theorem q178 : (Jvm.Cond.fieldLink "GrownPost$Mail" (28 : Nat) "GrownPost$Mail" "temper" "I") ∈ zGW := zmem 178 (by decide +kernel) (by decide +kernel)
theorem q181 : (Jvm.Cond.fieldLink "GrownPost$Mail" (31 : Nat) "GrownPost$Mail" "sender" "I") ∈ zGW := zmem 181 (by decide +kernel) (by decide +kernel)
theorem q184 : (Jvm.Cond.fieldLink "GrownPost$Mail" (34 : Nat) "GrownPost$Mail" "open" "Z") ∈ zGW := zmem 184 (by decide +kernel) (by decide +kernel)
theorem q189 : (Jvm.Cond.fieldLink "GrownPost$Mail" (38 : Nat) "GrownPost$Mail" "hot" "Z") ∈ zGW := zmem 189 (by decide +kernel) (by decide +kernel)
theorem q514 : (Jvm.Cond.methodLink "GrownPost$Mail" (18 : Nat) ({ cls := "java/lang/System", name := "arraycopy", desc := "(Ljava/lang/Object;ILjava/lang/Object;II)V" } : Jvm.MethodName)) ∈ zGW := zmem 514 (by decide +kernel) (by decide +kernel)
theorem q521 : (Jvm.Cond.methodLink "GrownPost$Mail" (41 : Nat) ({ cls := "GrownPost$Mail", name := "kindAt", desc := "(I)I" } : Jvm.MethodName)) ∈ zGW := zmem 521 (by decide +kernel) (by decide +kernel)
theorem q522 : (Jvm.Cond.instanceMethod ({ cls := "GrownPost$Mail", name := "kindAt", desc := "(I)I" } : Jvm.MethodName)) ∈ zGW := zmem 522 (by decide +kernel) (by decide +kernel)
theorem q523 : (Jvm.Cond.selects "GrownPost$Mail" ({ cls := "GrownPost$Mail", name := "kindAt", desc := "(I)I" } : Jvm.MethodName) ({ cls := "GrownPost$Mail", name := "kindAt", desc := "(I)I" } : Jvm.MethodName)) ∈ zGW := zmem 523 (by decide +kernel) (by decide +kernel)
theorem q1216 : (Jvm.Cond.methodLink "GrownPost$Mail" (45 : Nat) ({ cls := "GrownPost$Mail", name := "kindSet", desc := "()I" } : Jvm.MethodName)) ∈ zGW := zmem 1216 (by decide +kernel) (by decide +kernel)
theorem q1217 : (Jvm.Cond.instanceMethod ({ cls := "GrownPost$Mail", name := "kindSet", desc := "()I" } : Jvm.MethodName)) ∈ zGW := zmem 1217 (by decide +kernel) (by decide +kernel)
theorem q1218 : (Jvm.Cond.selects "GrownPost$Mail" ({ cls := "GrownPost$Mail", name := "kindSet", desc := "()I" } : Jvm.MethodName) ({ cls := "GrownPost$Mail", name := "kindSet", desc := "()I" } : Jvm.MethodName)) ∈ zGW := zmem 1218 (by decide +kernel) (by decide +kernel)
theorem q1309 : (Jvm.Cond.methodLink "GrownPost$Mail" (49 : Nat) ({ cls := "java/lang/Math", name := "max", desc := "(II)I" } : Jvm.MethodName)) ∈ zGW := zmem 1309 (by decide +kernel) (by decide +kernel)
theorem ci_m1 : Int32.ofInt (-1) = (-1) := by decide
theorem ci_0 : Int32.ofInt 0 = 0 := by decide
theorem ci_1 : Int32.ofInt 1 = 1 := by decide
theorem cb_24 : (Int8.ofInt 24).toInt32 = 24 := by decide
theorem zc_1024 (E : zE) (a : Nat) (f : Nat → Int32) : zcell E 1024 a f = .inl (E.2.2.1 0, 24, .inl f) := rfl
theorem ok_X3_add : zOK yX3_add cX3_add 3 none 2 := ⟨q555, q118, by decide, by decide, by decide +kernel⟩
theorem ok_X3_alikeFrom : zOK yX3_alikeFrom cX3_alikeFrom 6 (some .int) 3 := ⟨q1411, q118, by decide, by decide, by decide +kernel⟩
theorem ok_X3_become : zOK yX3_become cX3_become 2 none 1 := ⟨q513, q118, by decide, by decide, by decide +kernel⟩
theorem ok_X3_begin : zOK yX3_begin cX3_begin 3 none 2 := ⟨q825, q118, by decide, by decide, by decide +kernel⟩
theorem ok_X3_binds : zOK yX3_binds cX3_binds 5 (some .boolean) 2 := ⟨q1333, q118, by decide, by decide, by decide +kernel⟩
theorem ok_X3_drop : zOK yX3_drop cX3_drop 3 none 1 := ⟨q1145, q118, by decide, by decide, by decide +kernel⟩
theorem ok_X3_firstUnlike : zOK yX3_firstUnlike cX3_firstUnlike 4 (some .int) 1 := ⟨q1308, q118, by decide, by decide, by decide +kernel⟩
theorem ok_X3_holds : zOK yX3_holds cX3_holds 2 (some .boolean) 1 := ⟨q1215, q118, by decide, by decide, by decide +kernel⟩
theorem ok_X3_kindAt : zOK yX3_kindAt cX3_kindAt 2 (some .int) 1 := ⟨q524, q118, by decide, by decide, by decide +kernel⟩
theorem ok_X3_kindSet : zOK yX3_kindSet cX3_kindSet 3 (some .int) 0 := ⟨q1219, q118, by decide, by decide, by decide +kernel⟩
theorem ok_X3_lastKind : zOK yX3_lastKind cX3_lastKind 1 (some .int) 0 := ⟨q520, q118, by decide, by decide, by decide +kernel⟩
theorem ok_X3_linesOf : zOK yX3_linesOf cX3_linesOf 4 (some .int) 1 := ⟨q590, q118, by decide, by decide, by decide +kernel⟩
theorem ok_X3_shorten : zOK yX3_shorten cX3_shorten 2 none 1 := ⟨q1117, q118, by decide, by decide, by decide +kernel⟩
theorem ok_X3_weekAt : zOK yX3_weekAt cX3_weekAt 2 (some .int) 1 := ⟨q1029, q118, by decide, by decide, by decide +kernel⟩
