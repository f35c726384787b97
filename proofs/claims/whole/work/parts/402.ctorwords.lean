theorem qn166 : (Jvm.Cond.methodLinkNest "GrownPost$Bag" (21 : Nat) ({ cls := "GrownPost$Mail", name := "<init>", desc := "()V" } : Jvm.MethodName) "GrownPost") ∈ zNW := znmem 166 (by decide +kernel) (by decide +kernel)
theorem qn237 : (Jvm.Cond.methodLinkNest "GrownPost$World" (20 : Nat) ({ cls := "GrownPost$Law", name := "<init>", desc := "()V" } : Jvm.MethodName) "GrownPost") ∈ zNW := znmem 237 (by decide +kernel) (by decide +kernel)
theorem qn329 : (Jvm.Cond.methodLinkNest "GrownPost$PostReader" (3 : Nat) ({ cls := "GrownPost$TextReader", name := "<init>", desc := "()V" } : Jvm.MethodName) "GrownPost") ∈ zNW := znmem 329 (by decide +kernel) (by decide +kernel)
theorem qn335 : (Jvm.Cond.methodLinkNest "GrownPost$TextReader" (11 : Nat) ({ cls := "GrownPost$Tokens", name := "<init>", desc := "()V" } : Jvm.MethodName) "GrownPost") ∈ zNW := znmem 335 (by decide +kernel) (by decide +kernel)
theorem qn386 : (Jvm.Cond.methodLinkNest "GrownPost$LawReader" (3 : Nat) ({ cls := "GrownPost$TextReader", name := "<init>", desc := "()V" } : Jvm.MethodName) "GrownPost") ∈ zNW := znmem 386 (by decide +kernel) (by decide +kernel)
theorem qn388 : (Jvm.Cond.methodLinkNest "GrownPost$LawReader" (11 : Nat) ({ cls := "GrownPost$Law", name := "<init>", desc := "()V" } : Jvm.MethodName) "GrownPost") ∈ zNW := znmem 388 (by decide +kernel) (by decide +kernel)
theorem qn402 : (Jvm.Cond.methodLinkNest "GrownPost$Sight" (11 : Nat) ({ cls := "GrownPost$Mail", name := "<init>", desc := "()V" } : Jvm.MethodName) "GrownPost") ∈ zNW := znmem 402 (by decide +kernel) (by decide +kernel)
theorem q148 : (Jvm.Cond.methodLink "GrownPost" (3 : Nat) ({ cls := "java/lang/Object", name := "<init>", desc := "()V" } : Jvm.MethodName)) ∈ zGW := zmem 148 (by decide +kernel) (by decide +kernel)
theorem q151 : (Jvm.Cond.classLink "GrownPost" (17 : Nat) "GrownPost$World") ∈ zGW := zmem 151 (by decide +kernel) (by decide +kernel)
theorem q152 : (Jvm.Cond.instantiable "GrownPost$World" (8 : Nat)) ∈ zGW := zmem 152 (by decide +kernel) (by decide +kernel)
theorem q153 : (Jvm.Cond.methodLink "GrownPost" (19 : Nat) ({ cls := "GrownPost$World", name := "<init>", desc := "()V" } : Jvm.MethodName)) ∈ zGW := zmem 153 (by decide +kernel) (by decide +kernel)
theorem q154 : (Jvm.Cond.instanceMethod ({ cls := "GrownPost$World", name := "<init>", desc := "()V" } : Jvm.MethodName)) ∈ zGW := zmem 154 (by decide +kernel) (by decide +kernel)
theorem q155 : (Jvm.Cond.code ({ cls := "GrownPost$World", name := "<init>", desc := "()V" } : Jvm.MethodName) prog_12_method_1_code (2 : Nat) (Option.none : Option Jvm.ClassFile.FieldType)) ∈ zGW := zmem 155 (by decide +kernel) (by decide +kernel)
theorem q156 : (Jvm.Cond.methodLink "GrownPost$World" (3 : Nat) ({ cls := "java/lang/Object", name := "<init>", desc := "()V" } : Jvm.MethodName)) ∈ zGW := zmem 156 (by decide +kernel) (by decide +kernel)
theorem q157 : (Jvm.Cond.classLink "GrownPost$World" (9 : Nat) "GrownPost$Bag") ∈ zGW := zmem 157 (by decide +kernel) (by decide +kernel)
theorem q158 : (Jvm.Cond.instantiable "GrownPost$Bag" (5 : Nat)) ∈ zGW := zmem 158 (by decide +kernel) (by decide +kernel)
theorem q159 : (Jvm.Cond.methodLink "GrownPost$World" (11 : Nat) ({ cls := "GrownPost$Bag", name := "<init>", desc := "()V" } : Jvm.MethodName)) ∈ zGW := zmem 159 (by decide +kernel) (by decide +kernel)
theorem q160 : (Jvm.Cond.instanceMethod ({ cls := "GrownPost$Bag", name := "<init>", desc := "()V" } : Jvm.MethodName)) ∈ zGW := zmem 160 (by decide +kernel) (by decide +kernel)
theorem q161 : (Jvm.Cond.code ({ cls := "GrownPost$Bag", name := "<init>", desc := "()V" } : Jvm.MethodName) prog_2_method_1_code (2 : Nat) (Option.none : Option Jvm.ClassFile.FieldType)) ∈ zGW := zmem 161 (by decide +kernel) (by decide +kernel)
theorem q162 : (Jvm.Cond.methodLink "GrownPost$Bag" (3 : Nat) ({ cls := "java/lang/Object", name := "<init>", desc := "()V" } : Jvm.MethodName)) ∈ zGW := zmem 162 (by decide +kernel) (by decide +kernel)
theorem q163 : (Jvm.Cond.classLink "GrownPost$Bag" (9 : Nat) "GrownPost$Mail") ∈ zGW := zmem 163 (by decide +kernel) (by decide +kernel)
theorem q165 : (Jvm.Cond.instantiable "GrownPost$Mail" (7 : Nat)) ∈ zGW := zmem 165 (by decide +kernel) (by decide +kernel)
theorem q167 : (Jvm.Cond.instanceMethod ({ cls := "GrownPost$Mail", name := "<init>", desc := "()V" } : Jvm.MethodName)) ∈ zGW := zmem 167 (by decide +kernel) (by decide +kernel)
theorem q168 : (Jvm.Cond.code ({ cls := "GrownPost$Mail", name := "<init>", desc := "()V" } : Jvm.MethodName) prog_5_method_1_code (1 : Nat) (Option.none : Option Jvm.ClassFile.FieldType)) ∈ zGW := zmem 168 (by decide +kernel) (by decide +kernel)
theorem q169 : (Jvm.Cond.methodLink "GrownPost$Mail" (3 : Nat) ({ cls := "java/lang/Object", name := "<init>", desc := "()V" } : Jvm.MethodName)) ∈ zGW := zmem 169 (by decide +kernel) (by decide +kernel)
theorem q210 : (Jvm.Cond.arrayClass Jvm.ClassFile.FieldType.int) ∈ zGW := zmem 210 (by decide +kernel) (by decide +kernel)
theorem q235 : (Jvm.Cond.classLink "GrownPost$World" (18 : Nat) "GrownPost$Law") ∈ zGW := zmem 235 (by decide +kernel) (by decide +kernel)
theorem q236 : (Jvm.Cond.instantiable "GrownPost$Law" (9 : Nat)) ∈ zGW := zmem 236 (by decide +kernel) (by decide +kernel)
theorem q238 : (Jvm.Cond.instanceMethod ({ cls := "GrownPost$Law", name := "<init>", desc := "()V" } : Jvm.MethodName)) ∈ zGW := zmem 238 (by decide +kernel) (by decide +kernel)
theorem q239 : (Jvm.Cond.code ({ cls := "GrownPost$Law", name := "<init>", desc := "()V" } : Jvm.MethodName) prog_3_method_1_code (1 : Nat) (Option.none : Option Jvm.ClassFile.FieldType)) ∈ zGW := zmem 239 (by decide +kernel) (by decide +kernel)
theorem q240 : (Jvm.Cond.methodLink "GrownPost$Law" (3 : Nat) ({ cls := "java/lang/Object", name := "<init>", desc := "()V" } : Jvm.MethodName)) ∈ zGW := zmem 240 (by decide +kernel) (by decide +kernel)
theorem q304 : (Jvm.Cond.classLink "GrownPost" (27 : Nat) "GrownPost$Memory") ∈ zGW := zmem 304 (by decide +kernel) (by decide +kernel)
theorem q305 : (Jvm.Cond.instantiable "GrownPost$Memory" (3 : Nat)) ∈ zGW := zmem 305 (by decide +kernel) (by decide +kernel)
theorem q306 : (Jvm.Cond.methodLink "GrownPost" (29 : Nat) ({ cls := "GrownPost$Memory", name := "<init>", desc := "()V" } : Jvm.MethodName)) ∈ zGW := zmem 306 (by decide +kernel) (by decide +kernel)
theorem q307 : (Jvm.Cond.instanceMethod ({ cls := "GrownPost$Memory", name := "<init>", desc := "()V" } : Jvm.MethodName)) ∈ zGW := zmem 307 (by decide +kernel) (by decide +kernel)
theorem q308 : (Jvm.Cond.code ({ cls := "GrownPost$Memory", name := "<init>", desc := "()V" } : Jvm.MethodName) prog_6_method_1_code (2 : Nat) (Option.none : Option Jvm.ClassFile.FieldType)) ∈ zGW := zmem 308 (by decide +kernel) (by decide +kernel)
theorem q309 : (Jvm.Cond.methodLink "GrownPost$Memory" (3 : Nat) ({ cls := "java/lang/Object", name := "<init>", desc := "()V" } : Jvm.MethodName)) ∈ zGW := zmem 309 (by decide +kernel) (by decide +kernel)
theorem q310 : (Jvm.Cond.classLink "GrownPost$Memory" (9 : Nat) "GrownPost$Bag") ∈ zGW := zmem 310 (by decide +kernel) (by decide +kernel)
theorem q312 : (Jvm.Cond.methodLink "GrownPost$Memory" (17 : Nat) ({ cls := "GrownPost$Bag", name := "<init>", desc := "()V" } : Jvm.MethodName)) ∈ zGW := zmem 312 (by decide +kernel) (by decide +kernel)
theorem q324 : (Jvm.Cond.classLink "GrownPost" (34 : Nat) "GrownPost$PostReader") ∈ zGW := zmem 324 (by decide +kernel) (by decide +kernel)
theorem q325 : (Jvm.Cond.instantiable "GrownPost$PostReader" (2 : Nat)) ∈ zGW := zmem 325 (by decide +kernel) (by decide +kernel)
theorem q330 : (Jvm.Cond.instanceMethod ({ cls := "GrownPost$TextReader", name := "<init>", desc := "()V" } : Jvm.MethodName)) ∈ zGW := zmem 330 (by decide +kernel) (by decide +kernel)
theorem q331 : (Jvm.Cond.code ({ cls := "GrownPost$TextReader", name := "<init>", desc := "()V" } : Jvm.MethodName) prog_10_method_1_code (1 : Nat) (Option.none : Option Jvm.ClassFile.FieldType)) ∈ zGW := zmem 331 (by decide +kernel) (by decide +kernel)
theorem q332 : (Jvm.Cond.methodLink "GrownPost$TextReader" (3 : Nat) ({ cls := "java/lang/Object", name := "<init>", desc := "()V" } : Jvm.MethodName)) ∈ zGW := zmem 332 (by decide +kernel) (by decide +kernel)
theorem q333 : (Jvm.Cond.classLink "GrownPost$TextReader" (9 : Nat) "GrownPost$Tokens") ∈ zGW := zmem 333 (by decide +kernel) (by decide +kernel)
theorem q334 : (Jvm.Cond.instantiable "GrownPost$Tokens" (8 : Nat)) ∈ zGW := zmem 334 (by decide +kernel) (by decide +kernel)
theorem q336 : (Jvm.Cond.instanceMethod ({ cls := "GrownPost$Tokens", name := "<init>", desc := "()V" } : Jvm.MethodName)) ∈ zGW := zmem 336 (by decide +kernel) (by decide +kernel)
theorem q337 : (Jvm.Cond.code ({ cls := "GrownPost$Tokens", name := "<init>", desc := "()V" } : Jvm.MethodName) prog_11_method_1_code (1 : Nat) (Option.none : Option Jvm.ClassFile.FieldType)) ∈ zGW := zmem 337 (by decide +kernel) (by decide +kernel)
theorem q338 : (Jvm.Cond.methodLink "GrownPost$Tokens" (3 : Nat) ({ cls := "java/lang/Object", name := "<init>", desc := "()V" } : Jvm.MethodName)) ∈ zGW := zmem 338 (by decide +kernel) (by decide +kernel)
theorem q365 : (Jvm.Cond.classLink "GrownPost$PostReader" (9 : Nat) "GrownPost$World") ∈ zGW := zmem 365 (by decide +kernel) (by decide +kernel)
theorem q366 : (Jvm.Cond.methodLink "GrownPost$PostReader" (11 : Nat) ({ cls := "GrownPost$World", name := "<init>", desc := "()V" } : Jvm.MethodName)) ∈ zGW := zmem 366 (by decide +kernel) (by decide +kernel)
theorem q387 : (Jvm.Cond.classLink "GrownPost$LawReader" (9 : Nat) "GrownPost$Law") ∈ zGW := zmem 387 (by decide +kernel) (by decide +kernel)
theorem q400 : (Jvm.Cond.methodLink "GrownPost$Sight" (3 : Nat) ({ cls := "java/lang/Object", name := "<init>", desc := "()V" } : Jvm.MethodName)) ∈ zGW := zmem 400 (by decide +kernel) (by decide +kernel)
theorem q401 : (Jvm.Cond.classLink "GrownPost$Sight" (9 : Nat) "GrownPost$Mail") ∈ zGW := zmem 401 (by decide +kernel) (by decide +kernel)
theorem q423 : (Jvm.Cond.methodLink "GrownPost$Shelving" (3 : Nat) ({ cls := "java/lang/Object", name := "<init>", desc := "()V" } : Jvm.MethodName)) ∈ zGW := zmem 423 (by decide +kernel) (by decide +kernel)
theorem q932 : (Jvm.Cond.arrayClass Jvm.ClassFile.FieldType.byte) ∈ zGW := zmem 932 (by decide +kernel) (by decide +kernel)
theorem q1493 : (Jvm.Cond.methodLink "GrownPostModel" (7 : Nat) ({ cls := "java/lang/Object", name := "<init>", desc := "()V" } : Jvm.MethodName)) ∈ zGW := zmem 1493 (by decide +kernel) (by decide +kernel)
theorem cs_401 : (Int16.ofInt 401).toInt32 = 401 := by decide
theorem cs_2158 : (Int16.ofInt 2158).toInt32 = 2158 := by decide
theorem cs_5520 : (Int16.ofInt 5520).toInt32 = 5520 := by decide
theorem okc_X0_init : zOK yX0_init cX0_init 2 none 0 := ⟨q161, q117, by decide, by decide, by decide +kernel⟩
theorem okc_X1_init : zOK yX1_init cX1_init 1 none 0 := ⟨q239, q119, by decide, by decide, by decide +kernel⟩
theorem okc_X3_init : zOK yX3_init cX3_init 1 none 0 := ⟨q168, q118, by decide, by decide, by decide +kernel⟩
theorem okc_X4_init : zOK yX4_init cX4_init 2 none 0 := ⟨q308, q120, by decide, by decide, by decide +kernel⟩
theorem okc_X8_init : zOK yX8_init cX8_init 1 none 0 := ⟨q331, q121, by decide, by decide, by decide +kernel⟩
theorem okc_X9_init : zOK yX9_init cX9_init 1 none 0 := ⟨q337, q123, by decide, by decide, by decide +kernel⟩
theorem okc_X10_init : zOK yX10_init cX10_init 2 none 0 := ⟨q155, q116, by decide, by decide, by decide +kernel⟩
theorem zrc_ok {R : Room} {D M N d maxL mc ms k n : Nat} (hR : R = zrc D M N) (h : (d < D ∧ maxL ≤ 21) ∧ k + mc ≤ M ∧ n + ms ≤ N) : (d + 14 + 1 ≤ R.frames ∧ 8 + (maxL + 11) + (40 * d + 400) ≤ R.locals) ∧ k + mc ≤ R.cells ∧ n + ms ≤ R.slots := by
  subst hR
  obtain ⟨⟨h1, h2⟩, h3, h4⟩ := h
  exact ⟨⟨by show d + 14 + 1 ≤ D + 14; omega, by show 8 + (maxL + 11) + (40 * d + 400) ≤ 40 * D + 400; omega⟩, h3, h4⟩
