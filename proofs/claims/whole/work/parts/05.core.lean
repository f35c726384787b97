/-! THE ABSTRACT MEMORY: cells have fixed numbers in the order of their making, only their ints change. -/
abbrev zM : Type := Nat → Nat → Int32
def zset (g : zM) (a k : Nat) (v : Int32) : zM := fun a' k' => if a' = a ∧ k' = k then v else g a' k'
def zcopy (g : zM) (a sp b dp n : Nat) : zM := fun a' k' => if a' = b ∧ dp ≤ k' ∧ k' < dp + n then g a (sp + (k' - dp)) else g a' k'
/-- base, classes and slots, array classes, where the literals lie, where their bytes lie -/
abbrev zE : Type := Nat × va_G × (Nat → ClassId) × (Nat → Nat) × (Nat → Nat)
def zA (E : zE) : Nat → Prop := fun q => E.1 ≤ q
def zGW : List Cond := lw_tbl.filter goodWord
def zisN : Cond → Bool
  | .fieldLinkNest .. | .methodLinkNest .. | .declares _ | .castable .. => true
  | _ => false
def zNW : List Cond := lw_tbl.filter zisN
set_option maxRecDepth 20000 in
def zKL : List Nat := [10, 1400, 9, 0, 22, 3, 1024, 1024, 3, 1024, 1024, 3, 1024, 1024, 3, 1024, 1024, 3, 1024, 1024, 3, 1024, 1024, 3, 1024, 1024, 3, 1024, 1024, 1, 1012, 1012, 1012, 1400, 1400, 1008, 1012, 1008, 1008, 9, 0, 22, 3, 1024, 1024, 3, 1024, 1024, 3, 1024, 1024, 3, 1024, 1024, 3, 1024, 1024, 3, 1024, 1024, 3, 1024, 1024, 3, 1024, 1024, 1, 1012, 1012, 1012, 1400, 1400, 1008, 1012, 1008, 1008, 4, 23, 0, 22, 3, 1024, 1024, 3, 1024, 1024, 3, 1024, 1024, 3, 1024, 1024, 3, 1024, 1024, 3, 1024, 1024, 3, 1024, 1024, 3, 1024, 1024, 0, 22, 3, 1024, 1024, 3, 1024, 1024, 3, 1024, 1024, 3, 1024, 1024, 3, 1024, 1024, 3, 1024, 1024, 3, 1024, 1024, 3, 1024, 1024, 0, 22, 3, 1024, 1024, 3, 1024, 1024, 3, 1024, 1024, 3, 1024, 1024, 3, 1024, 1024, 3, 1024, 1024, 3, 1024, 1024, 3, 1024, 1024, 0, 22, 3, 1024, 1024, 3, 1024, 1024, 3, 1024, 1024, 3, 1024, 1024, 3, 1024, 1024, 3, 1024, 1024, 3, 1024, 1024, 3, 1024, 1024, 0, 22, 3, 1024, 1024, 3, 1024, 1024, 3, 1024, 1024, 3, 1024, 1024, 3, 1024, 1024, 3, 1024, 1024, 3, 1024, 1024, 3, 1024, 1024, 0, 22, 3, 1024, 1024, 3, 1024, 1024, 3, 1024, 1024, 3, 1024, 1024, 3, 1024, 1024, 3, 1024, 1024, 3, 1024, 1024, 3, 1024, 1024, 0, 22, 3, 1024, 1024, 3, 1024, 1024, 3, 1024, 1024, 3, 1024, 1024, 3, 1024, 1024, 3, 1024, 1024, 3, 1024, 1024, 3, 1024, 1024, 0, 22, 3, 1024, 1024, 3, 1024, 1024, 3, 1024, 1024, 3, 1024, 1024, 3, 1024, 1024, 3, 1024, 1024, 3, 1024, 1024, 3, 1024, 1024, 0, 22, 3, 1024, 1024, 3, 1024, 1024, 3, 1024, 1024, 3, 1024, 1024, 3, 1024, 1024, 3, 1024, 1024, 3, 1024, 1024, 3, 1024, 1024, 0, 22, 3, 1024, 1024, 3, 1024, 1024, 3, 1024, 1024, 3, 1024, 1024, 3, 1024, 1024, 3, 1024, 1024, 3, 1024, 1024, 3, 1024, 1024, 0, 22, 3, 1024, 1024, 3, 1024, 1024, 3, 1024, 1024, 3, 1024, 1024, 3, 1024, 1024, 3, 1024, 1024, 3, 1024, 1024, 3, 1024, 1024, 0, 22, 3, 1024, 1024, 3, 1024, 1024, 3, 1024, 1024, 3, 1024, 1024, 3, 1024, 1024, 3, 1024, 1024, 3, 1024, 1024, 3, 1024, 1024, 5, 8, 1400, 1401, 1401, 1401, 9, 0, 22, 3, 1024, 1024, 3, 1024, 1024, 3, 1024, 1024, 3, 1024, 1024, 3, 1024, 1024, 3, 1024, 1024, 3, 1024, 1024, 3, 1024, 1024, 1, 1012, 1012, 1012, 1400, 1400, 1008, 1012, 1008, 1008, 2, 8, 1400, 1401, 1401, 1401, 1, 1012, 1012, 1012, 1400, 1400, 1008, 7, 3, 1024, 1024, 7, 3, 1024, 1024, 0, 22, 3, 1024, 1024, 3, 1024, 1024, 3, 1024, 1024, 3, 1024, 1024, 3, 1024, 1024, 3, 1024, 1024, 3, 1024, 1024, 3, 1024, 1024, 6, 1256, 1256, 24, 1041, 1041, 1041, 1041, 1041, 1041, 1041, 1041, 1012, 11, 3158, 2309, 2309, 1460, 6520, 20, 1005, 1400, 1024, 1024, 1041, 1008, 1256, 1012, 21]
def zK (id : Nat) : Nat := zKL.getD id 999
theorem zK_lt {id c : Nat} (h : zK id = c) (hc : c ≠ 999) : id < 509 := by
  rcases Nat.lt_or_ge id 509 with q | q
  · exact q
  · exfalso
    have hl : zKL.length = 509 := by decide +kernel
    have : zK id = 999 := by
      unfold zK
      rw [List.getD_eq_getElem?_getD, List.getElem?_eq_none (by omega)]
      rfl
    exact hc (h.symm.trans this)
/-- what lies in cell id of that kind, its ints being f -/
def zcell (E : zE) (kc id : Nat) (f : Nat → Int32) : va_E := match kc with
  | 0 => .inr (0, [.ref (E.1 + (id + 1)), .int (f 1), .int (f 2), .int (f 3), .int (f 4)])
  | 1 => .inr (1, [.ref (E.1 + (id + 1)), .ref (E.1 + (id + 2)), .ref (E.1 + (id + 3)), .ref (E.1 + (id + 4)), .ref (E.1 + (id + 5)), .ref (E.1 + (id + 6)), .int (f 6), .int (f 7), .int (f 8)])
  | 2 => .inr (2, [.ref (E.1 + (id + 1)), .ref (E.1 + (id + 6))])
  | 3 => .inr (3, [.ref (E.1 + (id + 1)), .ref (E.1 + (id + 2)), .int (f 2), .int (f 3), .int (f 4), .int (f 5), .int (f 6)])
  | 4 => .inr (4, [.ref (E.1 + (id + 1)), .int (f 1), .int (f 2)])
  | 5 => .inr (5, [.ref (E.1 + (id + 1)), .ref (E.1 + (id + 6))])
  | 6 => .inr (6, [.ref (E.1 + (id + 1)), .ref (E.1 + (id + 2)), .int (f 2)])
  | 7 => .inr (7, [.ref (E.1 + (id + 1)), .int (f 1), .int (f 2)])
  | 8 => .inr (8, [.ref (E.1 + (id + 1)), .ref (E.1 + (id + 2)), .ref (E.1 + (id + 3)), .ref (E.1 + (id + 4)), .int (f 4), .int (f 5), .int (f 6), .int (f 7)])
  | 9 => .inr (9, [.ref (E.1 + (id + 1)), .ref (E.1 + (id + 27)), .ref (E.1 + (id + 34)), .ref (E.1 + (id + 35)), .ref (E.1 + (id + 36)), .int (f 5), .int (f 6), .int (f 7)])
  | 10 => .inr (10, [.ref (E.1 + (id + 1)), .int (f 1), .int (f 2), .ref (E.1 + (id + 2)), .ref (E.1 + (id + 39)), .int (f 5), .ref (E.1 + (id + 76)), .ref (E.1 + (id + 390)), .ref (E.1 + (id + 433)), .ref (E.1 + (id + 446)), .ref (E.1 + (id + 450)), .ref (E.1 + (id + 454)), .ref (E.1 + (id + 480)), .ref (E.1 + (id + 483)), .ref (E.1 + (id + 492))])
  | 11 => .inr (11, [.int (f 0), .ref (E.1 + (id + 1)), .ref (E.1 + (id + 2)), .ref (E.1 + (id + 3)), .ref (E.1 + (id + 4)), .ref (E.1 + (id + 5)), .int (f 6), .int (f 7), .ref (E.1 + (id + 6)), .int (f 9), .int (f 10), .int (f 11), .int (f 12), .int (f 13), .int (f 14), .ref (E.1 + (id + 7)), .int (f 16), .ref (E.1 + (id + 8)), .ref (E.1 + (id + 9)), .int (f 19), .int (f 20), .int (f 21), .int (f 22), .int (f 23), .int (f 24), .ref (E.1 + (id + 10)), .ref (E.1 + (id + 11)), .ref (E.1 + (id + 12)), .ref (E.1 + (id + 13)), .ref (E.1 + (id + 14))])
  | 20 => .inl (E.2.2.1 1, 400, .inl f)
  | 21 => .inl (E.2.2.1 2, 1, .inr (.inl (fun j => (f j).toInt64)))
  | 22 => .inl (E.2.2.1 3, 8, .inr (.inr (.inr (.inr (fun i => some (E.1 + (id + 1 + 3 * i)))))))
  | 23 => .inl (E.2.2.1 4, 12, .inr (.inr (.inr (.inr (fun i => some (E.1 + (id + 1 + 26 * i)))))))
  | 24 => .inl (E.2.2.1 5, 8, .inr (.inr (.inr (.inr (fun i => some (E.1 + (id + 1 + i)))))))
  | n => .inl (E.2.2.1 0, n - 1000, .inl f)
def zPic (E : zE) (g : zM) (H : Heap) : Prop := E.1 + 509 ≤ H.size ∧ ∀ id, id < 509 → va_at E.2.1 vwCl (E.1 + id, zcell E (zK id) id (g id)) H
def zTys (E : zE) : List (ClassId × FieldType) := [(E.2.2.1 0, .int), (E.2.2.1 1, .byte), (E.2.2.1 2, .long), (E.2.2.1 3, .object "GrownPost$Mail"), (E.2.2.1 4, .object "GrownPost$Bag"), (E.2.2.1 5, .array .int)]
/-- thrown, and a handler that it passes -/
def zNcs : List (String × String) := [("java/lang/IllegalArgumentException", "java/lang/IndexOutOfBoundsException"), ("java/lang/IllegalStateException", "java/lang/IndexOutOfBoundsException"), ("java/lang/UnsupportedOperationException", "java/lang/IllegalArgumentException"), ("java/lang/UnsupportedOperationException", "java/lang/IndexOutOfBoundsException"), ("java/util/NoSuchElementException", "java/lang/IllegalArgumentException"), ("java/util/NoSuchElementException", "java/lang/IndexOutOfBoundsException")]
/-- the literals: class, place, text -/
def zStr : List (String × Nat × String) := [("GrownPost$Tokens", 69, "hot winter length temper before week season sender not and or to if letter from words promise slip open"), ("GrownPost", 112, "the text of THE POST is wrong"), ("GrownPost", 122, "there are 12 texts"), ("GrownPost", 138, "the text of THE LAW is wrong"), ("GrownPost", 415, "no such LETTER"), ("GrownPost", 194, "what is 0 to 7"), ("GrownPost", 418, "no such LINE"), ("GrownPost", 420, "no such KIND"), ("GrownPost", 422, "no such PROMISE"), ("GrownPost", 221, "WEEK is 0 to 9999"), ("GrownPost", 233, "the TAPE, SENDER or TEMPER is wrong"), ("GrownPost", 236, "there are 8 LETTERS"), ("GrownPost", 256, "no LINE would go, or none stay"), ("GrownPost", 263, "no LINE would stay"), ("GrownPost", 273, "1 to 60 WEEKS"), ("GrownPost", 424, "so many WEEKS AHEAD are none"), ("GrownPost", 288, "what is 0 to 2"), ("GrownPost", 426, "SENDERS and TEMPERS are 0 to 9"), ("GrownPost", 428, "both are one"), ("GrownPost", 367, "a shelf holds 1 to 99 LINES"), ("GrownPostModel", 156, "letter"), ("GrownPostModel", 138, "from"), ("GrownPostModel", 144, "temper"), ("GrownPostModel", 162, "words"), ("GrownPostModel", 167, "promise"), ("GrownPostModel", 172, "slip"), ("GrownPostModel", 177, "hot"), ("GrownPostModel", 182, "open"), ("GrownPostModel", 184, "week"), ("GrownPostModel", 233, "to"), ("GrownPostModel", 235, "if"), ("GrownPostModel", 212, "not"), ("GrownPostModel", 204, "winter"), ("GrownPostModel", 192, "length"), ("GrownPostModel", 193, "before"), ("GrownPostModel", 194, "season"), ("GrownPostModel", 196, "sender"), ("GrownPostModel", 226, "and"), ("GrownPostModel", 231, "or")]
/-- those whose signs are read -/
def zLits : List Nat := [0, 20, 21, 22, 23, 24, 25, 26, 27, 28, 29, 30, 31, 32, 33, 34, 35, 36, 37, 38]
def zTxt (i : Nat) : String := (zStr.getD i ("", 0, "")).2.2
def zCh (i k : Nat) : Int32 := Int32.ofNat (((zTxt i).toList.getD k ' ').toNat)
def zLit (E : zE) (U : State) (H : Heap) (i : Nat) : Prop :=
  va_O "java/lang/String" (E.2.2.2.1 i) (zA E) U H ∧ va_OF "java/lang/String" "coder" "B" (.int 0) (E.2.2.2.1 i) (zA E) U H ∧ va_OF "java/lang/String" "value" "[B" (.ref (E.2.2.2.2 i)) (E.2.2.2.1 i) (zA E) U H ∧ va_T .byte (E.2.2.2.2 i) (zTxt i).length (fun j => .int (zCh i j)) (zA E) U H
/-- what holds of the machine from the law's entry on -/
def zEnv (E : zE) (U : State) : Prop :=
  va_K E.2.1 vwCl (zTys E) U ∧ vx_Zq Bundle.tN "UNASSIGNED_STACK" Bundle.steD (zA E) U U.heap ∧ vx_Zq Bundle.tN "SUPPRESSED_SENTINEL" Bundle.listD (zA E) U U.heap ∧
  (∀ i q, zStr[i]? = some q → vk_R q.1 q.2.1 q.2.2 (E.2.2.2.1 i) U) ∧ (∀ i, i ∈ zLits → zLit E U U.heap i) ∧
  va_Z "java/lang/String" "COMPACT_STRINGS" "Z" (.int 1) (zA E) U U.heap ∧ va_Zq "jdk/internal/util/Preconditions" "SIOOBE_FORMATTER" "Ljava/util/function/BiFunction;" (zA E) U U.heap ∧
  (∀ w ∈ zNW, va_Nw w U) ∧ E.1 ≤ U.heap.size ∧ ∀ q ∈ zNcs, va_Nc q.1 q.2 U
