theorem qn166 : (Jvm.Cond.methodLinkNest "GrownPost$Bag" (21 : Nat) ({ cls := "GrownPost$Mail", name := "<init>", desc := "()V" } : Jvm.MethodName) "GrownPost") ∈ zNW := znmem 166 (by decide +kernel) (by decide +kernel)
theorem qn237 : (Jvm.Cond.methodLinkNest "GrownPost$World" (20 : Nat) ({ cls := "GrownPost$Law", name := "<init>", desc := "()V" } : Jvm.MethodName) "GrownPost") ∈ zNW := znmem 237 (by decide +kernel) (by decide +kernel)
theorem qn326 : (Jvm.Cond.methodLinkNest "GrownPost" (36 : Nat) ({ cls := "GrownPost$PostReader", name := "<init>", desc := "()V" } : Jvm.MethodName) "GrownPost") ∈ zNW := znmem 326 (by decide +kernel) (by decide +kernel)
theorem qn329 : (Jvm.Cond.methodLinkNest "GrownPost$PostReader" (3 : Nat) ({ cls := "GrownPost$TextReader", name := "<init>", desc := "()V" } : Jvm.MethodName) "GrownPost") ∈ zNW := znmem 329 (by decide +kernel) (by decide +kernel)
theorem qn335 : (Jvm.Cond.methodLinkNest "GrownPost$TextReader" (11 : Nat) ({ cls := "GrownPost$Tokens", name := "<init>", desc := "()V" } : Jvm.MethodName) "GrownPost") ∈ zNW := znmem 335 (by decide +kernel) (by decide +kernel)
theorem qn383 : (Jvm.Cond.methodLinkNest "GrownPost" (43 : Nat) ({ cls := "GrownPost$LawReader", name := "<init>", desc := "()V" } : Jvm.MethodName) "GrownPost") ∈ zNW := znmem 383 (by decide +kernel) (by decide +kernel)
theorem qn386 : (Jvm.Cond.methodLinkNest "GrownPost$LawReader" (3 : Nat) ({ cls := "GrownPost$TextReader", name := "<init>", desc := "()V" } : Jvm.MethodName) "GrownPost") ∈ zNW := znmem 386 (by decide +kernel) (by decide +kernel)
theorem qn388 : (Jvm.Cond.methodLinkNest "GrownPost$LawReader" (11 : Nat) ({ cls := "GrownPost$Law", name := "<init>", desc := "()V" } : Jvm.MethodName) "GrownPost") ∈ zNW := znmem 388 (by decide +kernel) (by decide +kernel)
theorem qn397 : (Jvm.Cond.methodLinkNest "GrownPost" (50 : Nat) ({ cls := "GrownPost$Sight", name := "<init>", desc := "()V" } : Jvm.MethodName) "GrownPost") ∈ zNW := znmem 397 (by decide +kernel) (by decide +kernel)
theorem qn402 : (Jvm.Cond.methodLinkNest "GrownPost$Sight" (11 : Nat) ({ cls := "GrownPost$Mail", name := "<init>", desc := "()V" } : Jvm.MethodName) "GrownPost") ∈ zNW := znmem 402 (by decide +kernel) (by decide +kernel)
theorem qn420 : (Jvm.Cond.methodLinkNest "GrownPost" (67 : Nat) ({ cls := "GrownPost$Shelving", name := "<init>", desc := "()V" } : Jvm.MethodName) "GrownPost") ∈ zNW := znmem 420 (by decide +kernel) (by decide +kernel)
theorem q148 : (Jvm.Cond.methodLink "GrownPost" (3 : Nat) ({ cls := "java/lang/Object", name := "<init>", desc := "()V" } : Jvm.MethodName)) ∈ zGW := zmem 148 (by decide +kernel) (by decide +kernel)
theorem q151 : (Jvm.Cond.classLink "GrownPost" (17 : Nat) "GrownPost$World") ∈ zGW := zmem 151 (by decide +kernel) (by decide +kernel)
theorem q152 : (Jvm.Cond.instantiable "GrownPost$World" (8 : Nat)) ∈ zGW := zmem 152 (by decide +kernel) (by decide +kernel)
theorem q153 : (Jvm.Cond.methodLink "GrownPost" (19 : Nat) ({ cls := "GrownPost$World", name := "<init>", desc := "()V" } : Jvm.MethodName)) ∈ zGW := zmem 153 (by decide +kernel) (by decide +kernel)
theorem q154 : (Jvm.Cond.instanceMethod ({ cls := "GrownPost$World", name := "<init>", desc := "()V" } : Jvm.MethodName)) ∈ zGW := zmem 154 (by decide +kernel) (by decide +kernel)
theorem q155 : (Jvm.Cond.code ({ cls := "GrownPost$World", name := "<init>", desc := "()V" } : Jvm.MethodName) prog_12_method_1_code (2 : Nat) (Option.none : Option Jvm.ClassFile.FieldType)) ∈ zGW := zmem 155 (by decide +kernel) (by decide +kernel)
theorem q156 : (Jvm.Cond.methodLink "GrownPost$World" (3 : Nat) ({ cls := "java/lang/Object", name := "<init>", desc := "()V" } : Jvm.MethodName)) ∈ zGW := zmem 156 (by decide +kernel) (by decide +kernel)
theorem q157 : (Jvm.Cond.classLink "GrownPost$World" (9 : Nat) "GrownPost$Bag") ∈ zGW := zmem 157 (by decide +kernel) (by decide +kernel)
theorem q158 : (Jvm.Cond.instantiable "GrownPost$Bag" (5 : Nat)) ∈ zGW := zmem 158 (by decide +kernel) (by decide +kernel)
theorem q159 : (Jvm.Cond.methodLink "GrownPost$World" (11 : Nat) ({ cls := "GrownPost$Bag", name := "<init>", desc := "()V" } : Jvm.MethodName)) ∈ zGW := zmem 159 (by decide +kernel) (by decide +kernel)
theorem q160 : (Jvm.Cond.instanceMethod ({ cls := "GrownPost$Bag", name := "<init>", desc := "()V" } : Jvm.MethodName)) ∈ zGW := zmem 160 (by decide +kernel) (by decide +kernel)
theorem q161 : (Jvm.Cond.code ({ cls := "GrownPost$Bag", name := "<init>", desc := "()V" } : Jvm.MethodName) prog_2_method_1_code (2 : Nat) (Option.none : Option Jvm.ClassFile.FieldType)) ∈ zGW := zmem 161 (by decide +kernel) (by decide +kernel)
theorem q162 : (Jvm.Cond.methodLink "GrownPost$Bag" (3 : Nat) ({ cls := "java/lang/Object", name := "<init>", desc := "()V" } : Jvm.MethodName)) ∈ zGW := zmem 162 (by decide +kernel) (by decide +kernel)
theorem q163 : (Jvm.Cond.classLink "GrownPost$Bag" (9 : Nat) "GrownPost$Mail") ∈ zGW := zmem 163 (by decide +kernel) (by decide +kernel)
theorem q165 : (Jvm.Cond.instantiable "GrownPost$Mail" (7 : Nat)) ∈ zGW := zmem 165 (by decide +kernel) (by decide +kernel)
theorem q167 : (Jvm.Cond.instanceMethod ({ cls := "GrownPost$Mail", name := "<init>", desc := "()V" } : Jvm.MethodName)) ∈ zGW := zmem 167 (by decide +kernel) (by decide +kernel)
theorem q168 : (Jvm.Cond.code ({ cls := "GrownPost$Mail", name := "<init>", desc := "()V" } : Jvm.MethodName) prog_5_method_1_code (1 : Nat) (Option.none : Option Jvm.ClassFile.FieldType)) ∈ zGW := zmem 168 (by decide +kernel) (by decide +kernel)
theorem q169 : (Jvm.Cond.methodLink "GrownPost$Mail" (3 : Nat) ({ cls := "java/lang/Object", name := "<init>", desc := "()V" } : Jvm.MethodName)) ∈ zGW := zmem 169 (by decide +kernel) (by decide +kernel)
theorem q210 : (Jvm.Cond.arrayClass Jvm.ClassFile.FieldType.int) ∈ zGW := zmem 210 (by decide +kernel) (by decide +kernel)
theorem q235 : (Jvm.Cond.classLink "GrownPost$World" (18 : Nat) "GrownPost$Law") ∈ zGW := zmem 235 (by decide +kernel) (by decide +kernel)
theorem q236 : (Jvm.Cond.instantiable "GrownPost$Law" (9 : Nat)) ∈ zGW := zmem 236 (by decide +kernel) (by decide +kernel)
theorem q238 : (Jvm.Cond.instanceMethod ({ cls := "GrownPost$Law", name := "<init>", desc := "()V" } : Jvm.MethodName)) ∈ zGW := zmem 238 (by decide +kernel) (by decide +kernel)
theorem q239 : (Jvm.Cond.code ({ cls := "GrownPost$Law", name := "<init>", desc := "()V" } : Jvm.MethodName) prog_3_method_1_code (1 : Nat) (Option.none : Option Jvm.ClassFile.FieldType)) ∈ zGW := zmem 239 (by decide +kernel) (by decide +kernel)
theorem q240 : (Jvm.Cond.methodLink "GrownPost$Law" (3 : Nat) ({ cls := "java/lang/Object", name := "<init>", desc := "()V" } : Jvm.MethodName)) ∈ zGW := zmem 240 (by decide +kernel) (by decide +kernel)
theorem q304 : (Jvm.Cond.classLink "GrownPost" (27 : Nat) "GrownPost$Memory") ∈ zGW := zmem 304 (by decide +kernel) (by decide +kernel)
theorem q305 : (Jvm.Cond.instantiable "GrownPost$Memory" (3 : Nat)) ∈ zGW := zmem 305 (by decide +kernel) (by decide +kernel)
theorem q306 : (Jvm.Cond.methodLink "GrownPost" (29 : Nat) ({ cls := "GrownPost$Memory", name := "<init>", desc := "()V" } : Jvm.MethodName)) ∈ zGW := zmem 306 (by decide +kernel) (by decide +kernel)
theorem q307 : (Jvm.Cond.instanceMethod ({ cls := "GrownPost$Memory", name := "<init>", desc := "()V" } : Jvm.MethodName)) ∈ zGW := zmem 307 (by decide +kernel) (by decide +kernel)
theorem q308 : (Jvm.Cond.code ({ cls := "GrownPost$Memory", name := "<init>", desc := "()V" } : Jvm.MethodName) prog_6_method_1_code (2 : Nat) (Option.none : Option Jvm.ClassFile.FieldType)) ∈ zGW := zmem 308 (by decide +kernel) (by decide +kernel)
theorem q309 : (Jvm.Cond.methodLink "GrownPost$Memory" (3 : Nat) ({ cls := "java/lang/Object", name := "<init>", desc := "()V" } : Jvm.MethodName)) ∈ zGW := zmem 309 (by decide +kernel) (by decide +kernel)
theorem q310 : (Jvm.Cond.classLink "GrownPost$Memory" (9 : Nat) "GrownPost$Bag") ∈ zGW := zmem 310 (by decide +kernel) (by decide +kernel)
theorem q312 : (Jvm.Cond.methodLink "GrownPost$Memory" (17 : Nat) ({ cls := "GrownPost$Bag", name := "<init>", desc := "()V" } : Jvm.MethodName)) ∈ zGW := zmem 312 (by decide +kernel) (by decide +kernel)
theorem q324 : (Jvm.Cond.classLink "GrownPost" (34 : Nat) "GrownPost$PostReader") ∈ zGW := zmem 324 (by decide +kernel) (by decide +kernel)
theorem q325 : (Jvm.Cond.instantiable "GrownPost$PostReader" (2 : Nat)) ∈ zGW := zmem 325 (by decide +kernel) (by decide +kernel)
theorem q327 : (Jvm.Cond.instanceMethod ({ cls := "GrownPost$PostReader", name := "<init>", desc := "()V" } : Jvm.MethodName)) ∈ zGW := zmem 327 (by decide +kernel) (by decide +kernel)
theorem q328 : (Jvm.Cond.code ({ cls := "GrownPost$PostReader", name := "<init>", desc := "()V" } : Jvm.MethodName) prog_7_method_1_code (1 : Nat) (Option.none : Option Jvm.ClassFile.FieldType)) ∈ zGW := zmem 328 (by decide +kernel) (by decide +kernel)
theorem q330 : (Jvm.Cond.instanceMethod ({ cls := "GrownPost$TextReader", name := "<init>", desc := "()V" } : Jvm.MethodName)) ∈ zGW := zmem 330 (by decide +kernel) (by decide +kernel)
theorem q331 : (Jvm.Cond.code ({ cls := "GrownPost$TextReader", name := "<init>", desc := "()V" } : Jvm.MethodName) prog_10_method_1_code (1 : Nat) (Option.none : Option Jvm.ClassFile.FieldType)) ∈ zGW := zmem 331 (by decide +kernel) (by decide +kernel)
theorem q332 : (Jvm.Cond.methodLink "GrownPost$TextReader" (3 : Nat) ({ cls := "java/lang/Object", name := "<init>", desc := "()V" } : Jvm.MethodName)) ∈ zGW := zmem 332 (by decide +kernel) (by decide +kernel)
theorem q333 : (Jvm.Cond.classLink "GrownPost$TextReader" (9 : Nat) "GrownPost$Tokens") ∈ zGW := zmem 333 (by decide +kernel) (by decide +kernel)
theorem q334 : (Jvm.Cond.instantiable "GrownPost$Tokens" (8 : Nat)) ∈ zGW := zmem 334 (by decide +kernel) (by decide +kernel)
theorem q336 : (Jvm.Cond.instanceMethod ({ cls := "GrownPost$Tokens", name := "<init>", desc := "()V" } : Jvm.MethodName)) ∈ zGW := zmem 336 (by decide +kernel) (by decide +kernel)
theorem q337 : (Jvm.Cond.code ({ cls := "GrownPost$Tokens", name := "<init>", desc := "()V" } : Jvm.MethodName) prog_11_method_1_code (1 : Nat) (Option.none : Option Jvm.ClassFile.FieldType)) ∈ zGW := zmem 337 (by decide +kernel) (by decide +kernel)
theorem q338 : (Jvm.Cond.methodLink "GrownPost$Tokens" (3 : Nat) ({ cls := "java/lang/Object", name := "<init>", desc := "()V" } : Jvm.MethodName)) ∈ zGW := zmem 338 (by decide +kernel) (by decide +kernel)
theorem q365 : (Jvm.Cond.classLink "GrownPost$PostReader" (9 : Nat) "GrownPost$World") ∈ zGW := zmem 365 (by decide +kernel) (by decide +kernel)
theorem q366 : (Jvm.Cond.methodLink "GrownPost$PostReader" (11 : Nat) ({ cls := "GrownPost$World", name := "<init>", desc := "()V" } : Jvm.MethodName)) ∈ zGW := zmem 366 (by decide +kernel) (by decide +kernel)
theorem q381 : (Jvm.Cond.classLink "GrownPost" (41 : Nat) "GrownPost$LawReader") ∈ zGW := zmem 381 (by decide +kernel) (by decide +kernel)
theorem q382 : (Jvm.Cond.instantiable "GrownPost$LawReader" (2 : Nat)) ∈ zGW := zmem 382 (by decide +kernel) (by decide +kernel)
theorem q384 : (Jvm.Cond.instanceMethod ({ cls := "GrownPost$LawReader", name := "<init>", desc := "()V" } : Jvm.MethodName)) ∈ zGW := zmem 384 (by decide +kernel) (by decide +kernel)
theorem q385 : (Jvm.Cond.code ({ cls := "GrownPost$LawReader", name := "<init>", desc := "()V" } : Jvm.MethodName) prog_4_method_1_code (1 : Nat) (Option.none : Option Jvm.ClassFile.FieldType)) ∈ zGW := zmem 385 (by decide +kernel) (by decide +kernel)
theorem q387 : (Jvm.Cond.classLink "GrownPost$LawReader" (9 : Nat) "GrownPost$Law") ∈ zGW := zmem 387 (by decide +kernel) (by decide +kernel)
theorem q395 : (Jvm.Cond.classLink "GrownPost" (48 : Nat) "GrownPost$Sight") ∈ zGW := zmem 395 (by decide +kernel) (by decide +kernel)
theorem q396 : (Jvm.Cond.instantiable "GrownPost$Sight" (3 : Nat)) ∈ zGW := zmem 396 (by decide +kernel) (by decide +kernel)
theorem q398 : (Jvm.Cond.instanceMethod ({ cls := "GrownPost$Sight", name := "<init>", desc := "()V" } : Jvm.MethodName)) ∈ zGW := zmem 398 (by decide +kernel) (by decide +kernel)
theorem q399 : (Jvm.Cond.code ({ cls := "GrownPost$Sight", name := "<init>", desc := "()V" } : Jvm.MethodName) prog_9_method_1_code (1 : Nat) (Option.none : Option Jvm.ClassFile.FieldType)) ∈ zGW := zmem 399 (by decide +kernel) (by decide +kernel)
theorem q400 : (Jvm.Cond.methodLink "GrownPost$Sight" (3 : Nat) ({ cls := "java/lang/Object", name := "<init>", desc := "()V" } : Jvm.MethodName)) ∈ zGW := zmem 400 (by decide +kernel) (by decide +kernel)
theorem q401 : (Jvm.Cond.classLink "GrownPost$Sight" (9 : Nat) "GrownPost$Mail") ∈ zGW := zmem 401 (by decide +kernel) (by decide +kernel)
theorem q416 : (Jvm.Cond.classLink "GrownPost" (58 : Nat) "GrownPost$Bag") ∈ zGW := zmem 416 (by decide +kernel) (by decide +kernel)
theorem q417 : (Jvm.Cond.methodLink "GrownPost" (60 : Nat) ({ cls := "GrownPost$Bag", name := "<init>", desc := "()V" } : Jvm.MethodName)) ∈ zGW := zmem 417 (by decide +kernel) (by decide +kernel)
theorem q418 : (Jvm.Cond.classLink "GrownPost" (65 : Nat) "GrownPost$Shelving") ∈ zGW := zmem 418 (by decide +kernel) (by decide +kernel)
theorem q419 : (Jvm.Cond.instantiable "GrownPost$Shelving" (3 : Nat)) ∈ zGW := zmem 419 (by decide +kernel) (by decide +kernel)
theorem q421 : (Jvm.Cond.instanceMethod ({ cls := "GrownPost$Shelving", name := "<init>", desc := "()V" } : Jvm.MethodName)) ∈ zGW := zmem 421 (by decide +kernel) (by decide +kernel)
theorem q422 : (Jvm.Cond.code ({ cls := "GrownPost$Shelving", name := "<init>", desc := "()V" } : Jvm.MethodName) prog_8_method_1_code (1 : Nat) (Option.none : Option Jvm.ClassFile.FieldType)) ∈ zGW := zmem 422 (by decide +kernel) (by decide +kernel)
theorem q423 : (Jvm.Cond.methodLink "GrownPost$Shelving" (3 : Nat) ({ cls := "java/lang/Object", name := "<init>", desc := "()V" } : Jvm.MethodName)) ∈ zGW := zmem 423 (by decide +kernel) (by decide +kernel)
theorem q434 : (Jvm.Cond.classLink "GrownPost" (72 : Nat) "[[I") ∈ zGW := zmem 434 (by decide +kernel) (by decide +kernel)
theorem q932 : (Jvm.Cond.arrayClass Jvm.ClassFile.FieldType.byte) ∈ zGW := zmem 932 (by decide +kernel) (by decide +kernel)
theorem q1493 : (Jvm.Cond.methodLink "GrownPostModel" (7 : Nat) ({ cls := "java/lang/Object", name := "<init>", desc := "()V" } : Jvm.MethodName)) ∈ zGW := zmem 1493 (by decide +kernel) (by decide +kernel)
theorem cs_401 : (Int16.ofInt 401).toInt32 = 401 := by decide
theorem cs_2158 : (Int16.ofInt 2158).toInt32 = 2158 := by decide
theorem cs_5520 : (Int16.ofInt 5520).toInt32 = 5520 := by decide
theorem okc_X0_init : zOK yX0_init cX0_init 2 none 0 := ⟨q161, q117, by decide, by decide, by decide +kernel⟩
theorem okc_X1_init : zOK yX1_init cX1_init 1 none 0 := ⟨q239, q119, by decide, by decide, by decide +kernel⟩
theorem okc_X2_init : zOK yX2_init cX2_init 1 none 0 := ⟨q385, q124, by decide, by decide, by decide +kernel⟩
theorem okc_X3_init : zOK yX3_init cX3_init 1 none 0 := ⟨q168, q118, by decide, by decide, by decide +kernel⟩
theorem okc_X4_init : zOK yX4_init cX4_init 2 none 0 := ⟨q308, q120, by decide, by decide, by decide +kernel⟩
theorem okc_X5_init : zOK yX5_init cX5_init 1 none 0 := ⟨q328, q122, by decide, by decide, by decide +kernel⟩
theorem okc_X6_init : zOK yX6_init cX6_init 1 none 0 := ⟨q422, q126, by decide, by decide, by decide +kernel⟩
theorem okc_X7_init : zOK yX7_init cX7_init 1 none 0 := ⟨q399, q125, by decide, by decide, by decide +kernel⟩
theorem okc_X8_init : zOK yX8_init cX8_init 1 none 0 := ⟨q331, q121, by decide, by decide, by decide +kernel⟩
theorem okc_X9_init : zOK yX9_init cX9_init 1 none 0 := ⟨q337, q123, by decide, by decide, by decide +kernel⟩
theorem okc_X10_init : zOK yX10_init cX10_init 2 none 0 := ⟨q155, q116, by decide, by decide, by decide +kernel⟩
theorem zrc_ok {R : Room} {D M N d maxL mc ms k n : Nat} (hR : R = zrc D M N) (h : (d < D ∧ maxL ≤ 21) ∧ k + mc ≤ M ∧ n + ms ≤ N) : (d + 14 + 1 ≤ R.frames ∧ 8 + (maxL + 11) + (40 * d + 400) ≤ R.locals) ∧ k + mc ≤ R.cells ∧ n + ms ≤ R.slots := by
  subst hR
  obtain ⟨⟨h1, h2⟩, h3, h4⟩ := h
  exact ⟨⟨by show d + 14 + 1 ≤ D + 14; omega, by show 8 + (maxL + 11) + (40 * d + 400) ≤ 40 * D + 400; omega⟩, h3, h4⟩
theorem zup_ne {f : Nat → Int32} {k j : Nat} {x : Int32} (h : j ≠ k) : upd f k x j = f j := if_neg h
theorem zr_outer (c : ClassId) (N h0 : Nat) (i : Nat) : Jvm.Free.Multi.outerC c N h0 i = arrV c N (fun j => va_rf (if j < i then some (h0 + 1 + j) else none)) := by
  induction i with
  | zero =>
    show ({ cls := c, slots := Array.replicate N .null, vm := .none } : Cell) = _
    rw [arrV_new]
    exact congrArg (arrV c N) (funext fun j => by rw [if_neg (Nat.not_lt_zero j)]; rfl)
  | succ i ih =>
    show (Jvm.Free.Multi.outerC c N h0 i).setSlot i (.ref (h0 + 1 + i)) = _
    rw [ih, arrV_store]
    refine congrArg (arrV c N) (funext fun j => ?_)
    unfold updV
    by_cases e : j = i
    · subst e
      rw [if_pos rfl, if_pos (Nat.lt_succ_self j)]; rfl
    · rw [if_neg e]
      show va_rf (if j < i then some (h0 + 1 + j) else none) = va_rf (if j < i + 1 then some (h0 + 1 + j) else none)
      by_cases h : j < i
      · rw [if_pos h, if_pos (Nat.lt_succ_of_lt h)]
      · rw [if_neg h, if_neg (by omega)]
def zMn (E : zE) (a : Nat) : va_W := (E.1 + a, .inl (E.2.2.1 5, 8, .inr (.inr (.inr (.inr (fun i => some (E.1 + (a + 1 + i)))))))) :: [(E.1 + (a + 1), .inl (E.2.2.1 0, 41, .inl (fun _ => 0))), (E.1 + (a + 2), .inl (E.2.2.1 0, 41, .inl (fun _ => 0))), (E.1 + (a + 3), .inl (E.2.2.1 0, 41, .inl (fun _ => 0))), (E.1 + (a + 4), .inl (E.2.2.1 0, 41, .inl (fun _ => 0))), (E.1 + (a + 5), .inl (E.2.2.1 0, 41, .inl (fun _ => 0))), (E.1 + (a + 6), .inl (E.2.2.1 0, 41, .inl (fun _ => 0))), (E.1 + (a + 7), .inl (E.2.2.1 0, 41, .inl (fun _ => 0))), (E.1 + (a + 8), .inl (E.2.2.1 0, 41, .inl (fun _ => 0)))]
section ZMNA
variable {X : zX} {Q : State → Prop} {ws ws' : va_W} {k n pc : Nat} {lv : List (Nat × Value)} {st : List Value} {cc : ByteArray} {own : String}
theorem zv_mna (hX : zCX X cc own) {index a : Nat} (hov : (Cond.arrayOver (.array .int)).before #[] X.2.2.2.2.1 = true) (hclink : Cond.classLink own index "[[I" ∈ zGW) (harr : Cond.arrayClass .int ∈ zGW) (hcells : k + 9 ≤ X.2.2.2.1.cells) (hslots : n + (8 + 8 * 41) ≤ X.2.2.2.1.slots) (hd : decode cc pc = .ok (.multianewarray index 2, 4)) (ha : ws.length = a) (hws : ws ++ zMn (zEE X) a = ws')
    (kk : zV X Q ws' (k + 9) (n + (8 + 8 * 41)) (pc + 4) lv (.ref ((zEE X).1 + a) :: st)) : zV X Q ws k n pc lv (.int 41 :: .int 8 :: st) := fun H locs ls hP hS hl => by
  subst ha
  subst hws
  intro T hT Xs
  have hup : H.size ≤ X.2.2.2.2.1.heap.size + k := by rw [← hT]; exact Xs.heapSize
  have hsz : H.size = (zEE X).1 + ws.length := by
    have h1 := hP.2.2
    have h3 := hS.1
    have h4 : (zEE X).1 ≤ X.2.2.2.2.1.heap.size := hX.2.2.2.2.1.2.2.2.2.2.2.2.2.1
    rcases Nat.eq_zero_or_pos ws.length with h0 | h0
    · omega
    · obtain ⟨q, hq⟩ : ∃ q, ws[ws.length - 1]? = some q := ⟨_, List.getElem?_eq_getElem (by omega)⟩
      have h5 := hP.2.1 _ _ hq
      have h6 := (hP.1 _ _ hq).lt
      omega
  obtain ⟨vm₁, cA, comp, -, fA, fC, hO, -, X', step⟩ := Xs.multianewarray2F hX.1 hX.2.2.1 (hX.2.2.2.1 _ hclink) (own := own) (index := index) (ty := .int) hov (hX.2.2.2.1 _ harr) (g := F0 X.2.2.2.2.2.1 pc ls (.int 41 :: .int 8 :: st)) rfl (by rw [hX.2.1]; exact hd) (n := 8) (k := 41) (rest := st) rfl (by decide) (by decide) (by decide) (by decide) (by decide) rfl rfl (by exact hcells) (by exact hslots)
  have hK := hX.2.2.2.2.1.1
  have e5 := (hK.2 5 ((zEE X).2.2.1 5, .array .int) rfl).2
  have ec : cA = (zEE X).2.2.1 5 := Option.some.inj (fA.symm.trans e5)
  have e0 := (hK.2 0 ((zEE X).2.2.1 0, .int) rfl).2
  have ec0 : comp = (zEE X).2.2.1 0 := Option.some.inj (fC.symm.trans e0)
  subst ec
  subst ec0
  have hn8 : (8 : Int32).toNatClampNeg = 8 := by decide
  have hn41 : (41 : Int32).toNatClampNeg = 41 := by decide
  rw [hn8, hn41] at X' step
  generalize hF : Jvm.Free.Multi.fill (T.setVm vm₁) ((zEE X).2.2.1 5) ((zEE X).2.2.1 0) 8 41 (defaultValue .int) 8 = F at X' step
  have hTh : (T.setVm vm₁).heap = H := hT
  obtain ⟨f1, f2, -, -⟩ := Jvm.Free.Multi.fill_facts (T.setVm vm₁) ((zEE X).2.2.1 5) ((zEE X).2.2.1 0) 8 41 (defaultValue .int) 8
  rw [hF, hTh] at f1 f2
  rw [zr_outer] at f2
  have hold : ∀ x : Nat, x < H.size → F.heap[x]? = H[x]? := fun x hx => by
    have h9 := Jvm.Free.Multi.fill_old (T.setVm vm₁) ((zEE X).2.2.1 5) ((zEE X).2.2.1 0) 8 41 (defaultValue .int) (a := x) (by rw [hTh]; exact hx) 8
    rw [hF, hTh] at h9
    exact h9
  have hrow : ∀ j : Nat, j < 8 → ∀ x : Nat, x = (zEE X).1 + (ws.length + (j + 1)) → F.heap[x]? = some (arrV ((zEE X).2.2.1 0) 41 (fun _ => .int 0)) := fun j hj x hx => by
    have h9 := Jvm.Free.Multi.fill_inner (T.setVm vm₁) ((zEE X).2.2.1 5) ((zEE X).2.2.1 0) 8 41 (defaultValue .int) 8 j hj
    rw [hF, hTh, hsz] at h9
    rw [hx, show (zEE X).1 + (ws.length + (j + 1)) = (zEE X).1 + ws.length + 1 + j from by omega, h9]
    exact congrArg some (arrV_new _ _ _)
  have hall : ∀ (i : Nat) (q : Nat × va_E), (zMn (zEE X) ws.length)[i]? = some q → va_at (zEE X).2.1 vwCl q F.heap ∧ q.1 = (zEE X).1 + (ws.length + i) := fun i q hi => by
    have h9 : i < 9 := (List.getElem?_eq_some_iff.mp hi).1
    have h9 : i = 0 ∨ i = 1 ∨ i = 2 ∨ i = 3 ∨ i = 4 ∨ i = 5 ∨ i = 6 ∨ i = 7 ∨ i = 8 := by omega
    rcases h9 with rfl | rfl | rfl | rfl | rfl | rfl | rfl | rfl | rfl <;> cases hi <;> refine ⟨?_, rfl⟩
    · refine zarr_q (f := fun j => if j < 8 then some (H.size + 1 + j) else none) (fun j hj => ?_) F.heap ?_
      · show (if j < 8 then some (H.size + 1 + j) else none) = some ((zEE X).1 + (ws.length + 1 + j))
        rw [if_pos hj, hsz]
        exact congrArg some (by omega)
      · show F.heap[(zEE X).1 + ws.length]? = _
        rw [← hsz, f2]
        rfl
    · exact hrow 0 (by decide) _ rfl
    · exact hrow 1 (by decide) _ rfl
    · exact hrow 2 (by decide) _ rfl
    · exact hrow 3 (by decide) _ rfl
    · exact hrow 4 (by decide) _ rfl
    · exact hrow 5 (by decide) _ rfl
    · exact hrow 6 (by decide) _ rfl
    · exact hrow 7 (by decide) _ rfl
  have hP1 : va_P (zEE X).2.1 vwCl (ws ++ zMn (zEE X) ws.length) F.heap := (hP.1.kept (fun k9 x hx => hold x.1 ((hP.1 k9 x hx).lt))).app (fun i q hi => (hall i q hi).1)
  have hA1 : zAd (zEE X) (ws ++ zMn (zEE X) ws.length) := fun i q hi => by
    rcases Nat.lt_or_ge i ws.length with hq | hq
    · rw [List.getElem?_append_left hq] at hi; exact hP.2.1 i q hi
    · rw [List.getElem?_append_right hq] at hi; rw [(hall _ q hi).2]; omega
  obtain ⟨t, a1, b1⟩ := kk F.heap locs ls ⟨hP1, hA1, by
    have h1 := hP.2.2
    rw [List.length_append]
    show _ = (zEE X).1 + (ws.length + 9)
    omega⟩ ⟨by rw [f1]; have := hS.1; omega, fun x h1 h2 => (hold x (Nat.lt_of_lt_of_le h1 hS.1)).trans (hS.2.1 x h1 h2), hS.2.2⟩ hl F rfl X'
  refine ⟨t, step t ?_, b1⟩
  have e : T.heap.size = (zEE X).1 + ws.length := by rw [hT]; exact hsz
  rw [e]
  exact a1
end ZMNA
