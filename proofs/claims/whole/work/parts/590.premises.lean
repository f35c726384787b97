/-! THE START: what holds of the machine at the law's entry, out of the premises -/
def zFl : List Cond := flatC (Jvm.Cond.and given_1 narrow_1)
def zTm (i : Nat) : Term := .string (zStr.getD i ("", 0, "")).1 (zStr.getD i ("", 0, "")).2.1
def zTv (i : Nat) : Term := .field (zTm i) "java/lang/String" "value" "[B"
/-- where the rows of each literal begin among the premises -/
def zBs : List Nat := [127, 234, 267, 289, 321, 339, 357, 373, 389, 408, 429, 468, 491, 525, 547, 564, 596, 614, 648, 664, 695, 705, 713, 723, 732, 743, 751, 758, 766, 774, 780, 786, 793, 803, 813, 823, 833, 843, 850]
def zBk (i : Nat) : List Cond := .exactly (zTm i) "java/lang/String" :: .eq (.field (zTm i) "java/lang/String" "coder" "B") (.int 0) :: .arrayOf (zTv i) .byte :: .eq (.length (zTv i)) (.int (Int32.ofNat (zTxt i).length)) :: (List.range (zTxt i).length).map (fun j => .eq (.elem (zTv i) (.int (Int32.ofNat j))) (.int (zCh i j)))
set_option maxRecDepth 100000 in
theorem zBk_in : zLits.all (fun i => decide ((zFl.drop (zBs.getD i 0)).take (zBk i).length = zBk i)) = true := by decide +kernel
set_option maxRecDepth 100000 in
theorem zEx_in : (List.range 39).all (fun i => decide (zFl[zBs.getD i 0]? = some (.exactly (zTm i) "java/lang/String"))) = true := by decide +kernel
set_option maxRecDepth 100000 in
theorem zSr_in : zStr.all (fun q => decide (Cond.stringRef q.1 q.2.1 q.2.2 ∈ lw_tbl)) = true := by decide +kernel
theorem zNc_in : zNcs.map (fun q => some (Cond.not (.castable q.1 q.2))) = [55, 58, 23, 56, 25, 57].map (fun i => zFl[i]?) := by decide +kernel
theorem zLits_lt : ∀ i ∈ zLits, i < 39 := by decide
theorem zart {s : State} {c : ClassId} {k : Class} {comp : ClassId} {ty : FieldType} (h1 : s.vm.classes[c]? = some k) (h2 : k.kind = .array comp ty) : ArrOfT s c ty := fun _ _ => ⟨fun _ h => (nomatch h), k, h1, comp, h2⟩
theorem zao_spec {args : Array Value} {s : State} {ty : FieldType} (h : (Cond.arrayOver (.array ty)).before args s = true) : ∃ comp c k, s.vm.classes[c]? = some k ∧ k.kind = .array comp (.array ty) ∧ s.vm.findClass ("[" ++ (FieldType.array ty).toString) = some c := by
  have h : (Cond.arrayOver (.array ty)).holds args s none s [] = true := h
  simp only [Cond.holds, Cond.value, beq_iff_eq] at h
  cases hc : s.vm.findClass (FieldType.array ty).toString with
  | none => simp [hc] at h
  | some comp =>
    simp only [hc, Option.bind_some, Option.bind_eq_some_iff, Option.map_eq_some_iff] at h
    obtain ⟨c, hi, k, hk, hb⟩ := h
    obtain ⟨hlt, hp, -⟩ := Array.findIdx?_eq_some_iff_getElem.mp hi
    have hkk : s.vm.classes[c] = k := (Array.getElem?_eq_some_iff.mp hk).2
    rw [hkk] at hp
    cases hkind : k.kind with
    | array component ty2 =>
      rw [hkind] at hb hp
      simp at hb hp
      exact ⟨comp, c, k, hk, by rw [hkind, hp, hb.1], hb.2⟩
    | _ => rw [hkind] at hb; simp at hb
def zTyL : List FieldType := [.int, .byte, .long, .object "GrownPost$Mail", .object "GrownPost$Bag", .array .int]
theorem zstart_cl {s : State} {args : Array Value} (hts : ∀ w ∈ lw_tbl, w.before args s = true) : ∀ k : Nat, ∃ r : ClassId × (Nat → Nat), ∀ q, vwCl[k]? = some q → u_Kn s q.1 q.2.1 q.2.2 r.1 r.2 := by
  have hin : ∀ {C : String} {T : u_T} {N : Nat}, (∀ w ∈ u_ws C T N, w ∈ zGW) → ∀ w ∈ u_ws C T N, w ∈ lw_tbl := fun h w hw => (List.mem_filter.mp (h w hw)).1
  intro k
  match k with
  | 0 =>
    obtain ⟨c, f, h⟩ := u_known (C := RX0) (T := TX0) (N := 5) (n := 5) hts (hin zin_Bag) (hts (.instantiable RX0 5) (by decide +kernel))
    exact ⟨(c, f), fun q hq => by cases hq; exact h⟩
  | 1 =>
    obtain ⟨c, f, h⟩ := u_known (C := RX1) (T := TX1) (N := 9) (n := 9) hts (hin zin_Law) (hts (.instantiable RX1 9) (by decide +kernel))
    exact ⟨(c, f), fun q hq => by cases hq; exact h⟩
  | 2 =>
    obtain ⟨c, f, h⟩ := u_known (C := RX2) (T := TX2) (N := 2) (n := 2) hts (hin zin_LawReader) (hts (.instantiable RX2 2) (by decide +kernel))
    exact ⟨(c, f), fun q hq => by cases hq; exact h⟩
  | 3 =>
    obtain ⟨c, f, h⟩ := u_known (C := RX3) (T := TX3) (N := 7) (n := 7) hts (hin zin_Mail) (hts (.instantiable RX3 7) (by decide +kernel))
    exact ⟨(c, f), fun q hq => by cases hq; exact h⟩
  | 4 =>
    obtain ⟨c, f, h⟩ := u_known (C := RX4) (T := TX4) (N := 3) (n := 3) hts (hin zin_Memory) (hts (.instantiable RX4 3) (by decide +kernel))
    exact ⟨(c, f), fun q hq => by cases hq; exact h⟩
  | 5 =>
    obtain ⟨c, f, h⟩ := u_known (C := RX5) (T := TX5) (N := 2) (n := 2) hts (hin zin_PostReader) (hts (.instantiable RX5 2) (by decide +kernel))
    exact ⟨(c, f), fun q hq => by cases hq; exact h⟩
  | 6 =>
    obtain ⟨c, f, h⟩ := u_known (C := RX6) (T := TX6) (N := 3) (n := 3) hts (hin zin_Shelving) (hts (.instantiable RX6 3) (by decide +kernel))
    exact ⟨(c, f), fun q hq => by cases hq; exact h⟩
  | 7 =>
    obtain ⟨c, f, h⟩ := u_known (C := RX7) (T := TX7) (N := 3) (n := 3) hts (hin zin_Sight) (hts (.instantiable RX7 3) (by decide +kernel))
    exact ⟨(c, f), fun q hq => by cases hq; exact h⟩
  | 8 =>
    obtain ⟨c, f, h⟩ := u_known (C := RX9) (T := TX9) (N := 8) (n := 8) hts (hin zin_Tokens) (hts (.instantiable RX9 8) (by decide +kernel))
    exact ⟨(c, f), fun q hq => by cases hq; exact h⟩
  | 9 =>
    obtain ⟨c, f, h⟩ := u_known (C := RX10) (T := TX10) (N := 8) (n := 8) hts (hin zin_World) (hts (.instantiable RX10 8) (by decide +kernel))
    exact ⟨(c, f), fun q hq => by cases hq; exact h⟩
  | 10 =>
    obtain ⟨c, f, h⟩ := u_known (C := RX11) (T := TX11) (N := 15) (n := 15) hts (hin zin_Post) (hts (.instantiable RX11 15) (by decide +kernel))
    exact ⟨(c, f), fun q hq => by cases hq; exact h⟩
  | 11 =>
    obtain ⟨c, f, h⟩ := u_known (C := RX12) (T := TX12) (N := 30) (n := 30) hts (hin zin_Model) (hts (.instantiable RX12 30) (by decide +kernel))
    exact ⟨(c, f), fun q hq => by cases hq; exact h⟩
  | k + 12 => exact ⟨(0, fun _ => 0), fun q hq => by simp at hq⟩
theorem zstart_ar {s : State} {args : Array Value} (hts : ∀ w ∈ lw_tbl, w.before args s = true) : ∀ k : Nat, ∃ c : ClassId, ∀ ty, zTyL[k]? = some ty → ArrOfT s c ty ∧ va_RA s c ty := by
  intro k
  match k with
  | 0 =>
    obtain ⟨c, k, comp, q1, q2, q3⟩ := Cond.arrayClass_spec (show (Cond.arrayClass .int).holds args s none s [] = true from hts (.arrayClass .int) (by decide +kernel))
    exact ⟨c, fun ty h => by cases h; exact ⟨zart q2 q3, q1⟩⟩
  | 1 =>
    obtain ⟨c, k, comp, q1, q2, q3⟩ := Cond.arrayClass_spec (show (Cond.arrayClass .byte).holds args s none s [] = true from hts (.arrayClass .byte) (by decide +kernel))
    exact ⟨c, fun ty h => by cases h; exact ⟨zart q2 q3, q1⟩⟩
  | 2 =>
    obtain ⟨c, k, comp, q1, q2, q3⟩ := Cond.arrayClass_spec (show (Cond.arrayClass .long).holds args s none s [] = true from hts (.arrayClass .long) (by decide +kernel))
    exact ⟨c, fun ty h => by cases h; exact ⟨zart q2 q3, q1⟩⟩
  | 3 =>
    obtain ⟨comp, c, k, q0, -, q2, q3, q1⟩ := Cond.arrayOver_spec (show (Cond.arrayOver (.object "GrownPost$Mail")).holds args s none s [] = true from hts (.arrayOver (.object "GrownPost$Mail")) (by decide +kernel))
    exact ⟨c, fun ty h => by cases h; exact ⟨zart q2 q3, k, comp, q2, q3, q0, q1⟩⟩
  | 4 =>
    obtain ⟨comp, c, k, q0, -, q2, q3, q1⟩ := Cond.arrayOver_spec (show (Cond.arrayOver (.object "GrownPost$Bag")).holds args s none s [] = true from hts (.arrayOver (.object "GrownPost$Bag")) (by decide +kernel))
    exact ⟨c, fun ty h => by cases h; exact ⟨zart q2 q3, k, comp, q2, q3, q0, q1⟩⟩
  | 5 =>
    obtain ⟨comp, c, k, q2, q3, q1⟩ := zao_spec (hts (.arrayOver (.array .int)) (by decide +kernel))
    exact ⟨c, fun ty h => by cases h; exact ⟨zart q2 q3, q1⟩⟩
  | k + 6 => exact ⟨0, fun ty h => by simp [zTyL] at h⟩
theorem zstart_st {s : State} {args : Array Value} (hts : ∀ w ∈ lw_tbl, w.before args s = true) (hfl : ∀ c ∈ zFl, c.before args s = true) : ∀ i : Nat, ∃ q : Nat × Nat, (∀ z, zStr[i]? = some z → vk_R z.1 z.2.1 z.2.2 q.1 s) ∧ (i ∈ zLits → va_O "java/lang/String" q.1 (fun q => s.heap.size ≤ q) s s.heap ∧ va_OF "java/lang/String" "coder" "B" (.int 0) q.1 (fun q => s.heap.size ≤ q) s s.heap ∧ va_OF "java/lang/String" "value" "[B" (.ref q.2) q.1 (fun q => s.heap.size ≤ q) s s.heap ∧ va_T .byte q.2 (zTxt i).length (fun j => .int (zCh i j)) (fun q => s.heap.size ≤ q) s s.heap) := by
  intro i
  have hA : ∀ a : Nat, a < s.heap.size → ¬ (fun q : Nat => s.heap.size ≤ q) a := fun a h h2 => Nat.not_lt.mpr h2 h
  by_cases hi : i < 39
  · have he := List.all_eq_true.mp zEx_in i (List.mem_range.mpr hi)
    have hex : (Cond.exactly (zTm i) "java/lang/String").before args s = true := hfl _ (List.mem_of_getElem? (of_decide_eq_true he))
    obtain ⟨a, c, cA, kA, q1, -⟩ := Cond.exactly_spec (args := args) (first := s) (o := none) (s := s) (idx := []) (t := zTm i) (cls := "java/lang/String") hex
    have hR : ∀ z, zStr[i]? = some z → vk_R z.1 z.2.1 z.2.2 a s := by
      intro z hz
      have hw := of_decide_eq_true (List.all_eq_true.mp zSr_in z (List.mem_of_getElem? hz))
      have hd : zStr.getD i ("", 0, "") = z := by rw [List.getD_eq_getElem?_getD, hz]; rfl
      refine vk_R.of (hts _ hw) ?_
      unfold zTm at q1
      rw [hd] at q1
      exact q1
    by_cases hl : i ∈ zLits
    · have hb := of_decide_eq_true (List.all_eq_true.mp zBk_in i hl)
      have hk : ∀ c ∈ zBk i, c.before args s = true := fun c hc => by
        rw [← hb] at hc
        exact hfl c (List.mem_of_mem_drop (List.mem_of_mem_take hc))
      have hco : (Cond.eq (.field (zTm i) "java/lang/String" "coder" "B") (.int 0)).before args s = true := hk _ (by unfold zBk; simp)
      have har : (Cond.arrayOf (zTv i) .byte).before args s = true := hk _ (by unfold zBk; simp)
      have hle : (Cond.eq (.length (zTv i)) (.int (Int32.ofNat (zTxt i).length))).before args s = true := hk _ (by unfold zBk; simp)
      have hel : ∀ j : Nat, j < (zTxt i).length → (Cond.eq (.elem (zTv i) (.int (Int32.ofNat j))) (.int (zCh i j))).before args s = true := fun j hj => hk _ (by
        unfold zBk
        refine List.mem_cons_of_mem _ (List.mem_cons_of_mem _ (List.mem_cons_of_mem _ (List.mem_cons_of_mem _ (List.mem_map.mpr ⟨j, List.mem_range.mpr hj, rfl⟩))))
        )
      have hN : (zTxt i).length < 2 ^ 31 := by
        have h9 : ∀ i, i < 39 → (zTxt i).length < 2 ^ 31 := by decide +kernel
        exact h9 i hi
      obtain ⟨t, ht, hT⟩ := va_Tof (f := fun j => .int (zCh i j)) (A := fun q => s.heap.size ≤ q) hN har (va_eqt hle) (fun j hj => va_eqt (hel j hj)) hA
      exact ⟨(a, t), hR, fun _ => ⟨va_Oof hex q1 hA, vk_OFof q1 (va_eqt hco) hA, vk_OFof q1 ht hA, hT⟩⟩
    · exact ⟨(a, 0), hR, fun h => absurd h hl⟩
  · have hl39 : zStr.length = 39 := by decide +kernel
    refine ⟨(0, 0), fun z hz => ?_, fun h => absurd (zLits_lt i h) hi⟩
    rw [List.getElem?_eq_none (by omega)] at hz
    exact nomatch hz
theorem zstart_env {s : State} {args : Array Value} (hts : ∀ w ∈ lw_tbl, w.before args s = true) (hgv : (Jvm.Cond.and given_1 narrow_1).before args s = true) : ∃ E : zE, E.1 = s.heap.size ∧ zEnv E s := by
  have hfl : ∀ c ∈ zFl, c.before args s = true := flat_of_before _ hgv
  have hA : ∀ a : Nat, a < s.heap.size → ¬ (fun q : Nat => s.heap.size ≤ q) a := fun a h h2 => Nat.not_lt.mpr h2 h
  obtain ⟨F, hF⟩ := Classical.axiomOfChoice (zstart_cl hts)
  obtain ⟨G, hG⟩ := Classical.axiomOfChoice (zstart_ar hts)
  obtain ⟨S, hS⟩ := Classical.axiomOfChoice (zstart_st hts hfl)
  refine ⟨(s.heap.size, (fun k => (F k).1, fun k => (F k).2), G, fun i => (S i).1, fun i => (S i).2), rfl, ⟨fun k q h => hF k q h, fun k q h => ?_⟩, ?_, ?_, fun i q h => (hS i).1 q h, fun i hi => (hS i).2 hi, ?_, ?_, fun w hw => ?_, Nat.le_refl _, fun q hq => ?_⟩
  · match k, h with
    | 0, h => cases h; exact hG 0 _ rfl
    | 1, h => cases h; exact hG 1 _ rfl
    | 2, h => cases h; exact hG 2 _ rfl
    | 3, h => cases h; exact hG 3 _ rfl
    | 4, h => cases h; exact hG 4 _ rfl
    | 5, h => cases h; exact hG 5 _ rfl
    | k + 6, h => simp [zTys] at h
  · exact vx_Zqof (hts (.laysStatic "java/lang/Throwable" "UNASSIGNED_STACK" "[Ljava/lang/StackTraceElement;") (by decide +kernel)) (hts (.initialized "java/lang/Throwable") (by decide +kernel)) (hfl (.isRef (.static "java/lang/Throwable" "UNASSIGNED_STACK" "[Ljava/lang/StackTraceElement;")) (List.mem_of_getElem? (i := 9) (by decide +kernel))) hA
  · exact vx_Zqof (hts (.laysStatic "java/lang/Throwable" "SUPPRESSED_SENTINEL" "Ljava/util/List;") (by decide +kernel)) (hts (.initialized "java/lang/Throwable") (by decide +kernel)) (hfl (.isRef (.static "java/lang/Throwable" "SUPPRESSED_SENTINEL" "Ljava/util/List;")) (List.mem_of_getElem? (i := 10) (by decide +kernel))) hA
  · exact va_Zof (hts (.laysStatic "java/lang/String" "COMPACT_STRINGS" "Z") (by decide +kernel)) (hts (.initialized "java/lang/String") (by decide +kernel)) (va_eqt (hfl (.eq (.static "java/lang/String" "COMPACT_STRINGS" "Z") (.int 1)) (List.mem_of_getElem? (i := 4) (by decide +kernel)))) hA
  · exact va_Zqof (hts (.laysStatic "jdk/internal/util/Preconditions" "SIOOBE_FORMATTER" "Ljava/util/function/BiFunction;") (by decide +kernel)) (hts (.initialized "jdk/internal/util/Preconditions") (by decide +kernel)) (hfl (.isRef (.static "jdk/internal/util/Preconditions" "SIOOBE_FORMATTER" "Ljava/util/function/BiFunction;")) (List.mem_of_getElem? (i := 5) (by decide +kernel))) hA
  · have hn : zisN w = true := (List.mem_filter.mp hw).2
    exact va_Nw.of (by cases w <;> first | rfl | exact absurd hn (by simp [zisN])) (hts w (List.mem_filter.mp hw).1)
  · have h1 : some (Cond.not (.castable q.1 q.2)) ∈ zNcs.map (fun q => some (Cond.not (.castable q.1 q.2))) := List.mem_map.mpr ⟨q, hq, rfl⟩
    rw [zNc_in] at h1
    obtain ⟨i, -, hi⟩ := List.mem_map.mp h1
    exact va_Nc.of (hfl _ (List.mem_of_getElem? hi))
