theorem zq_obj_i : Cond.instanceMethod Lib.objectInit ∈ zGW := zmem 149 (by decide +kernel) (by decide +kernel)
theorem zq_obj_c : Cond.code Lib.objectInit ⟨#[0xb1]⟩ 1 none ∈ zGW := zmem 150 (by decide +kernel) (by decide +kernel)
/-! CONSTRUCTORS: the world grows cell by cell, each at the next place -/
def zAd (E : zE) (ws : va_W) : Prop := ∀ (i : Nat) (q : Nat × va_E), ws[i]? = some q → q.1 = E.1 + i
def zCC (U : State) : Prop := va_AO "GrownPost$Mail" U ∧ va_AO "GrownPost$Bag" U ∧ (Cond.arrayOver (.array .int)).before #[] U = true
def zVP (X : zX) (ws : va_W) (k : Nat) (H : Heap) : Prop := va_P (zEE X).2.1 vwCl ws H ∧ zAd (zEE X) ws ∧ X.2.2.2.2.1.heap.size + k = (zEE X).1 + ws.length
def zV (X : zX) (Q : State → Prop) (ws : va_W) (k n pc : Nat) (lv : List (Nat × Value)) (st : List Value) : Prop :=
  ∀ (H : Heap) (locs : List Loc) (ls : Array Slot), zVP X ws k H → va_S (zA (zEE X)) X.2.2.2.2.1.heap H locs → lv_has ls X.2.2.2.2.2.2.2.2.2.1.maxLocals lv →
    W X.1 X.2.1 X.2.2.1 X.2.2.2.1 X.2.2.2.2.1 X.2.2.2.2.2.1 X.2.2.2.2.2.2.1 X.2.2.2.2.2.2.2.1 X.2.2.2.2.2.2.2.2.1 X.2.2.2.2.2.2.2.2.2.1 H locs k n Q (F0 X.2.2.2.2.2.1 pc ls st)
theorem zVD {E : zE} {ws : va_W} (h : zAd E ws) : va_D (zA E) ws :=
  ⟨fun i j p q hi hj e => by rw [h i p hi, h j q hj] at e; omega, fun k q hk => by rw [h k q hk]; exact Nat.le_add_right _ _⟩
theorem zAd_push {E : zE} {ws : va_W} (h : zAd E ws) (x : va_E) : zAd E (ws ++ [(E.1 + ws.length, x)]) := by
  intro i q hi
  rcases Nat.lt_or_ge i ws.length with hl | hl
  · rw [List.getElem?_append_left hl] at hi; exact h i q hi
  · rw [List.getElem?_append_right hl] at hi
    have h1 : i - ws.length < 1 := (List.getElem?_eq_some_iff.mp hi).1
    have h2 : i = ws.length := by omega
    subst h2
    rw [Nat.sub_self] at hi
    cases hi
    rfl
theorem zv_q {E : zE} {ws : va_W} {q : Nat} {x : va_E} {H1 : Heap} {sz k : Nat} {D : va_G} {cl : List vw_C} (hA : zAd E ws) (hc : sz + k = E.1 + ws.length) (hP : va_P D cl (ws ++ [(q, x)]) H1) (hD : va_D (zA E) (ws ++ [(q, x)])) (hup : H1.size ≤ sz + (k + 1)) : q = E.1 + ws.length := by
  have hg : (ws ++ [(q, x)])[ws.length]? = some (q, x) := by rw [List.getElem?_append_right (Nat.le_refl _), Nat.sub_self]; rfl
  have h1 : E.1 ≤ q := hD.2 _ _ hg
  have h2 : q < H1.size := (hP _ _ hg).lt
  rcases Nat.lt_or_ge q (E.1 + ws.length) with hl | hl
  · exfalso
    have hj : q - E.1 < ws.length := by omega
    obtain ⟨p, hp⟩ : ∃ p, ws[q - E.1]? = some p := ⟨_, List.getElem?_eq_getElem hj⟩
    have h3 : p.1 = q := by rw [hA _ _ hp]; omega
    have h4 := hD.1 (q - E.1) ws.length p (q, x) (by rw [List.getElem?_append_left hj]; exact hp) hg h3
    omega
  · omega
theorem zRA_find {U : State} {cA : ClassId} {ty : FieldType} (h : va_RA U cA ty) : U.vm.findClass ("[" ++ ty.toString) = some cA := by
  cases ty with
  | object C => obtain ⟨_, _, _, _, _, h4⟩ := h; exact h4
  | _ => exact h
theorem zv_ca {E : zE} {s : State} {cA c : ClassId} {ty : FieldType} (hK : va_K E.2.1 vwCl (zTys E ++ [(cA, ty)]) s) (i : Nat) (hi : (zTys E)[i]? = some (c, ty)) : cA = c := by
  have h1 := hK.2 (zTys E).length (cA, ty) (by rw [List.getElem?_append_right (Nat.le_refl _), Nat.sub_self]; rfl)
  have h2 := hK.2 i (c, ty) (by rw [List.getElem?_append_left (List.getElem?_eq_some_iff.mp hi).1]; exact hi)
  have e := (zRA_find h1.2).symm.trans (zRA_find h2.2)
  exact Option.some.inj e
section ZVR
variable {X : zX} {Q : State → Prop} {ws ws' pre blk blk' : va_W} {k n pc : Nat} {lv lv' : List (Nat × Value)} {st rest : List Value} {cc : ByteArray} {own : String}
theorem zV.eqw (h : ws = ws') (kk : zV X Q ws' k n pc lv st) : zV X Q ws k n pc lv st := h ▸ kk
theorem zv_iconst (hX : zCX X cc own) {v : Int32} {q : Int} (hd : decode cc pc = .ok (.iconst q, 1)) (hv : Int32.ofInt q = v) (kk : zV X Q ws k n (pc + 1) lv (.int v :: st)) : zV X Q ws k n pc lv (st) := fun H locs ls hP hS hl => lv_iconst hX.1 hX.2.1 hd hv (kk H locs ls hP hS hl)
theorem zv_bipush (hX : zCX X cc own) {v : Int32} {q : Int} (hd : decode cc pc = .ok (.bipush q, 2)) (hv : (Int8.ofInt q).toInt32 = v) (kk : zV X Q ws k n (pc + 2) lv (.int v :: st)) : zV X Q ws k n pc lv (st) := fun H locs ls hP hS hl => lv_bipush hX.1 hX.2.1 hd hv (kk H locs ls hP hS hl)
theorem zv_sipush (hX : zCX X cc own) {v : Int32} {q : Int} (hd : decode cc pc = .ok (.sipush q, 3)) (hv : (Int16.ofInt q).toInt32 = v) (kk : zV X Q ws k n (pc + 3) lv (.int v :: st)) : zV X Q ws k n pc lv (st) := fun H locs ls hP hS hl => lv_sipush hX.1 hX.2.1 hd hv (kk H locs ls hP hS hl)
theorem zv_dup (hX : zCX X cc own) {x : Value} (hd : decode cc pc = .ok (.dup, 1)) (hc : x.category = 1) (kk : zV X Q ws k n (pc + 1) lv (x :: x :: st)) : zV X Q ws k n pc lv (x :: st) := fun H locs ls hP hS hl => lv_dup hX.1 hX.2.1 hd hc (kk H locs ls hP hS hl)
theorem zv_iadd (hX : zCX X cc own) {x y : Int32} (hd : decode cc pc = .ok (.iadd, 1)) (kk : zV X Q ws k n (pc + 1) lv (.int (x + y) :: st)) : zV X Q ws k n pc lv (.int y :: .int x :: st) := fun H locs ls hP hS hl => lv_iadd hX.1 hX.2.1 hd (kk H locs ls hP hS hl)
theorem zv_iload_n (hX : zCX X cc own) {q : Fin 4} {x : Int32} (hd : decode cc pc = .ok (.iload_n q, 1)) (pl : Nat) (hl0 : lv[pl]? = some ((q : Nat), .int x)) (kk : zV X Q ws k n (pc + 1) lv (.int x :: st)) : zV X Q ws k n pc lv st := fun H locs ls hP hS hl => lv_iload_n hX.1 hX.2.1 hd rfl (lv_at hl pl hl0) (kk H locs ls hP hS hl)
theorem zv_istore_n (hX : zCX X cc own) {q : Fin 4} {x : Int32} (hd : decode cc pc = .ok (.istore_n q, 1)) {nL : Nat} (hn : X.2.2.2.2.2.2.2.2.2.1.maxLocals = nL) (hq : (q : Nat) < nL) (hl0 : ((q : Nat), Value.int x) :: lv.filter (fun r => !(r.1 == (q : Nat)) && !(r.1 + 1 == (q : Nat) && r.2.category == 2)) = lv') (kk : zV X Q ws k n (pc + 1) lv' st) : zV X Q ws k n pc lv (.int x :: st) := fun H locs ls hP hS hl => lv_istore_n hX.1 hX.2.1 hd rfl hl (by rw [hn]; exact hq) hl0 (fun ls' hl' => kk H locs ls' hP hS hl')
theorem zv_aload_n (hX : zCX X cc own) {q : Fin 4} {x : Nat} (hd : decode cc pc = .ok (.aload_n q, 1)) (pl : Nat) (hl0 : lv[pl]? = some ((q : Nat), .ref x)) (kk : zV X Q ws k n (pc + 1) lv (.ref x :: st)) : zV X Q ws k n pc lv st := fun H locs ls hP hS hl => lv_aload_n hX.1 hX.2.1 hd rfl (lv_at hl pl hl0) (kk H locs ls hP hS hl)
theorem zv_astore_n (hX : zCX X cc own) {q : Fin 4} {x : Nat} (hd : decode cc pc = .ok (.astore_n q, 1)) {nL : Nat} (hn : X.2.2.2.2.2.2.2.2.2.1.maxLocals = nL) (hq : (q : Nat) < nL) (hl0 : ((q : Nat), Value.ref x) :: lv.filter (fun r => !(r.1 == (q : Nat)) && !(r.1 + 1 == (q : Nat) && r.2.category == 2)) = lv') (kk : zV X Q ws k n (pc + 1) lv' st) : zV X Q ws k n pc lv (.ref x :: st) := fun H locs ls hP hS hl => lv_astore_n hX.1 hX.2.1 hd rfl hl (by rw [hn]; exact hq) hl0 (fun ls' hl' => kk H locs ls' hP hS hl')
theorem zv_istore (hX : zCX X cc own) {q : Nat} {x : Int32} (hd : decode cc pc = .ok (.istore q, 2)) {nL : Nat} (hn : X.2.2.2.2.2.2.2.2.2.1.maxLocals = nL) (hq : q < nL) (hl0 : (q, Value.int x) :: lv.filter (fun r => !(r.1 == q) && !(r.1 + 1 == q && r.2.category == 2)) = lv') (kk : zV X Q ws k n (pc + 2) lv' st) : zV X Q ws k n pc lv (.int x :: st) := fun H locs ls hP hS hl => lv_istore hX.1 hX.2.1 hd hl (by rw [hn]; exact hq) hl0 (fun ls' hl' => kk H locs ls' hP hS hl')
theorem zv_iincc (hX : zCX X cc own) {q : Nat} {i : Int} {x v : Int32} (hd : decode cc pc = .ok (.iinc q i, 3)) {nL : Nat} (hn : X.2.2.2.2.2.2.2.2.2.1.maxLocals = nL) (hq : q < nL) (pl : Nat) (hk0 : lv[pl]? = some (q, .int x)) (hc : x + Int32.ofInt i = v) (hl0 : (q, Value.int v) :: lv.filter (fun r => !(r.1 == q) && !(r.1 + 1 == q && r.2.category == 2)) = lv') (kk : zV X Q ws k n (pc + 3) lv' st) : zV X Q ws k n pc lv st := fun H locs ls hP hS hl => lv_iinc hX.1 hX.2.1 hd hl hk0 hc (by rw [hn]; exact hq) hl0 (fun ls' hl' => kk H locs ls' hP hS hl')
theorem zv_icmp_ge (hX : zCX X cc own) {x y : Int32} {off : Int} (tgt : Nat) (hd : decode cc pc = .ok (.if_icmp .ge off, 3)) (ht : (pc : Int) + off = (tgt : Int)) (kt : y ≤ x → zV X Q ws k n tgt lv st) (kf : ¬ y ≤ x → zV X Q ws k n (pc + 3) lv st) : zV X Q ws k n pc lv (.int y :: .int x :: st) := fun H locs ls hP hS hl => lv_icmp_ge hX.1 hX.2.1 hd ht (fun h => kt h H locs ls hP hS hl) (fun h => kf h H locs ls hP hS hl)
theorem zv_goto (hX : zCX X cc own) {off : Int} (tgt : Nat) (hd : decode cc pc = .ok (.goto off, 3)) (ht : (pc : Int) + off = (tgt : Int)) (kk : zV X Q ws k n tgt lv st) : zV X Q ws k n pc lv st := fun H locs ls hP hS hl => lv_goto hX.1 hX.2.1 hd ht (kk H locs ls hP hS hl)
theorem zv_obj (hX : zCX X cc own) {a idx : Nat} (hlink : Cond.methodLink own idx Lib.objectInit ∈ zGW) (hf : 1 ≤ X.2.2.2.1.frames) (hloc : (st.map fun v => v.category).sum + 12 ≤ X.2.2.2.1.locals) (hd : decode cc pc = .ok (.invokespecial idx, 3)) (kk : zV X Q ws k n (pc + 3) lv st) : zV X Q ws k n pc lv (.ref a :: st) := fun H locs ls hP hS hl =>
  W.objInit hX.1 hX.2.1 hX.2.2.1 (hX.2.2.2.1 _ hlink) (hX.2.2.2.1 _ zq_obj_i) (hX.2.2.2.1 _ zq_obj_c) (g := F0 X.2.2.2.2.2.1 pc ls (.ref a :: st)) rfl hl.1 rfl hd hf (by show 2 * 0 + _ + 12 ≤ _; omega) (kk H locs ls hP hS hl)
theorem zv_new (hX : zCX X cc own) {C : String} {T : u_T} {N ci index a : Nat} (hin : ∀ w ∈ u_ws C T N, w ∈ zGW) (ty : Nat → FieldType) (hty : ∀ k, k < N → parseFieldDescriptor (T k).2.2.1 = some (ty k)) (hcl : Cond.classLink own index C ∈ zGW) (hinst : Cond.instantiable C N ∈ zGW) (hini : Cond.initialized C ∈ zGW) (hc : vwCl[ci]? = some (C, T, N)) {fs : List Value} (hfs : ∀ j, j < N → defaultValue (ty j) = vp_V fs j)
    (hcells : k + 1 ≤ X.2.2.2.1.cells) (hslots : n + N ≤ X.2.2.2.1.slots) (hd : decode cc pc = .ok (.new index, 3)) (ha : ws.length = a) (hws : ws ++ [((zEE X).1 + a, .inr (ci, fs))] = ws') (kk : zV X Q ws' (k + 1) (n + N) (pc + 3) lv (.ref ((zEE X).1 + a) :: st)) : zV X Q ws k n pc lv st := fun H locs ls hP hS hl => by
  subst ha
  subst hws
  refine va_new hX.1 hX.2.1 hX.2.2.2.1 hin ty hty hX.2.2.1 (hX.2.2.2.1 _ hcl) (hX.2.2.2.1 _ hinst) (hX.2.2.2.1 _ hini) hX.2.2.2.2.1.1 hP.1 (zVD hP.2.1) hS (fun q h => Nat.le_trans hX.2.2.2.2.1.2.2.2.2.2.2.2.2.1 h) hc hfs hcells hslots hd (fun q H1 hP1 hD1 hS1 T hT Xs => ?_)
  have hq := zv_q hP.2.1 hP.2.2 hP1 hD1 (by rw [← hT]; exact Xs.heapSize)
  subst hq
  exact kk H1 locs ls ⟨hP1, zAd_push hP.2.1 _, by rw [List.length_append]; have := hP.2.2; simp only [List.length_cons, List.length_nil]; omega⟩ hS1 hl T hT Xs
theorem zv_newa (hX : zCX X cc own) {at0 : ArrayType} {ty : FieldType} {a ti : Nat} {c : ClassId} (hti : (zTys (zEE X))[ti]? = some (c, ty)) (harr : Cond.arrayClass (newarray.typeOf at0) ∈ zGW) (hty : newarray.typeOf at0 = ty) {sz : Int32} {N' : Nat} {a0 : vp_A} (h0 : ∀ cA : ClassId, vp_cell cA a0 = arrV cA N' (fun _ => defaultValue ty)) (hn : ¬ sz < 0) (hN : sz.toNatClampNeg = N') (hb : N' * componentBytes ty ≤ 536870912)
    (hcells : k + 1 ≤ X.2.2.2.1.cells) (hslots : n + N' ≤ X.2.2.2.1.slots) (hd : decode cc pc = .ok (.newarray at0, 2)) (ha : ws.length = a) (hws : ws ++ [((zEE X).1 + a, .inl (c, a0))] = ws') (kk : zV X Q ws' (k + 1) (n + N') (pc + 2) lv (.ref ((zEE X).1 + a) :: st)) : zV X Q ws k n pc lv (.int sz :: st) := fun H locs ls hP hS hl => by
  subst ha
  subst hws
  refine va_newa (atype := at0) hX.1 hX.2.1 (hX.2.2.2.1 _ harr) hty hX.2.2.2.2.1.1 hP.1 (zVD hP.2.1) hS (fun q h => Nat.le_trans hX.2.2.2.2.1.2.2.2.2.2.2.2.2.1 h) h0 hn hN hb hcells hslots hd (fun q cA H1 hK1 hP1 hD1 hS1 T hT Xs => ?_)
  have hq := zv_q hP.2.1 hP.2.2 hP1 hD1 (by rw [← hT]; exact Xs.heapSize)
  subst hq
  have hcA := zv_ca hK1 ti hti
  subst hcA
  exact kk H1 locs ls ⟨hP1, zAd_push hP.2.1 _, by rw [List.length_append]; have := hP.2.2; simp only [List.length_cons, List.length_nil]; omega⟩ hS1 hl T hT Xs
theorem zv_newq (hX : zCX X cc own) {C : String} {index a ti : Nat} {c : ClassId} (hti : (zTys (zEE X))[ti]? = some (c, .object C)) (hclink : Cond.classLink own index C ∈ zGW) (hov : va_AO C X.2.2.2.2.1) {sz : Int32} {N' : Nat} (hn : ¬ sz < 0) (hN : sz.toNatClampNeg = N') (hb : N' * 4 ≤ 536870912)
    (hcells : k + 1 ≤ X.2.2.2.1.cells) (hslots : n + N' ≤ X.2.2.2.1.slots) (hd : decode cc pc = .ok (.anewarray index, 3)) (ha : ws.length = a) (hws : ws ++ [((zEE X).1 + a, .inl (c, N', .inr (.inr (.inr (.inr (fun _ => none))))))] = ws') (kk : zV X Q ws' (k + 1) (n + N') (pc + 3) lv (.ref ((zEE X).1 + a) :: st)) : zV X Q ws k n pc lv (.int sz :: st) := fun H locs ls hP hS hl => by
  subst ha
  subst hws
  refine va_newq hX.1 hX.2.1 hX.2.2.1 (hX.2.2.2.1 _ hclink) hov hX.2.2.2.2.1.1 hP.1 (zVD hP.2.1) hS (fun q h => Nat.le_trans hX.2.2.2.2.1.2.2.2.2.2.2.2.2.1 h) hn hN hb hcells hslots hd (fun q cA H1 hK1 hP1 hD1 hS1 T hT Xs => ?_)
  have hq := zv_q hP.2.1 hP.2.2 hP1 hD1 (by rw [← hT]; exact Xs.heapSize)
  subst hq
  have hcA := zv_ca hK1 ti hti
  subst hcA
  exact kk H1 locs ls ⟨hP1, zAd_push hP.2.1 _, by rw [List.length_append]; have := hP.2.2; simp only [List.length_cons, List.length_nil]; omega⟩ hS1 hl T hT Xs
theorem zv_set {E : zE} {H1 : Heap} {sz k q0 : Nat} {a : Nat} {x y : va_E} (hP : va_P E.2.1 vwCl (ws.set q0 (a, y)) H1) (hA : zAd E ws) (h : ws[q0]? = some (a, x)) (hc : sz + k = E.1 + ws.length) : va_P E.2.1 vwCl (ws.set q0 (a, y)) H1 ∧ zAd E (ws.set q0 (a, y)) ∧ sz + k = E.1 + (ws.set q0 (a, y)).length := by
  refine ⟨hP, fun i q hi => ?_, by rw [List.length_set]; exact hc⟩
  rw [List.getElem?_set] at hi
  by_cases hq : q0 = i
  · subst hq
    rw [if_pos rfl] at hi
    split at hi
    · cases hi; exact hA q0 (a, x) h
    · cases hi
  · rw [if_neg hq] at hi; exact hA i q hi
theorem zv_at {i o : Nat} {x : Nat × va_E} (hp : pre.length = o) (h : blk[i]? = some x) : (pre ++ blk)[o + i]? = some x := by
  rw [List.getElem?_append_right (by omega), show o + i - pre.length = i by omega]; exact h
theorem zv_st {i o : Nat} {x : Nat × va_E} (hp : pre.length = o) (h : blk.set i x = blk') : (pre ++ blk).set (o + i) x = pre ++ blk' := by
  rw [List.set_append_right _ _ (by omega), show o + i - pre.length = i by omega, h]
/-- a field, final or not, of the object being made -/
theorem zv_put (hX : zCX X cc own) (hm : X.2.2.2.2.2.2.2.2.1.name = "<init>") {o i f ci N index : Nat} {C : String} {T : u_T} (hin : ∀ w ∈ u_ws C T N, w ∈ zGW) (ty0 : Nat → FieldType) (hty : ∀ k, k < N → parseFieldDescriptor (T k).2.2.1 = some (ty0 k)) (hnm : ∀ a, a < N → ∀ b, b < N → a ≠ b → (T a).2.1 ≠ (T b).2.1) (hp : pre.length = o) {fs : List Value} (hi : blk[i]? = some ((zEE X).1 + (o + i), .inr (ci, fs))) (hc : vwCl[ci]? = some (C, T, N)) (hf : f < N) (hlink : Cond.fieldLink own index own (T f).2.1 (T f).2.2.1 ∈ zGW) (hdecl : (T f).1 = own)
    {ty : FieldType} {v : Value} (hd0 : parseFieldDescriptor (T f).2.2.1 = some ty) (hn : narrow ty v = v) (hfit : fits ty v = true) (hl0 : f < fs.length) (hd : decode cc pc = .ok (.putfield index, 3)) (hb : blk.set i ((zEE X).1 + (o + i), .inr (ci, fs.set f v)) = blk') (kk : zV X Q (pre ++ blk') k n (pc + 3) lv st) : zV X Q (pre ++ blk) k n pc lv (v :: .ref ((zEE X).1 + (o + i)) :: st) := fun H locs ls hP hS hl => by
  have he := zv_at hp hi
  have key : ∀ (H1 : Heap) (locs1 : List Loc), va_P (zEE X).2.1 vwCl ((pre ++ blk).set (o + i) ((zEE X).1 + (o + i), .inr (ci, fs.set f v))) H1 → va_S (zA (zEE X)) X.2.2.2.2.1.heap H1 locs1 → W X.1 X.2.1 X.2.2.1 X.2.2.2.1 X.2.2.2.2.1 X.2.2.2.2.2.1 X.2.2.2.2.2.2.1 X.2.2.2.2.2.2.2.1 X.2.2.2.2.2.2.2.2.1 X.2.2.2.2.2.2.2.2.2.1 H1 locs1 k n Q (F0 X.2.2.2.2.2.1 (pc + 3) ls st) := fun H1 locs1 hP1 hS1 => by
    have h3 := zv_set hP1 hP.2.1 he hP.2.2
    rw [zv_st hp hb] at h3
    exact kk H1 locs1 ls h3 hS1 hl
  by_cases hfin : (T f).2.2.2 = true
  · exact va_putF hX.1 hX.2.1 hX.2.2.2.1 hin ty0 hty hnm hX.2.2.1 hX.2.2.2.2.1.1 hP.1 (zVD hP.2.1) hS (o + i) he hc f hf (hX.2.2.2.1 _ hlink) (fun x h => by rw [hdecl] at h; exact h) hfin hm hdecl hd0 hn hfit hl0 hd (fun H1 locs1 hP1 _ hS1 => key H1 locs1 hP1 hS1)
  · exact va_put hX.1 hX.2.1 hX.2.2.2.1 hin ty0 hty hnm hX.2.2.1 hX.2.2.2.2.1.1 hP.1 (zVD hP.2.1) hS (o + i) he hc f hf (hX.2.2.2.1 _ hlink) (fun x h => by rw [hdecl] at h; exact h) (by cases h : (T f).2.2.2 with | true => exact absurd h hfin | false => rfl) hd0 hn hfit hl0 hd (fun H1 locs1 hP1 _ hS1 => key H1 locs1 hP1 hS1)
theorem zv_getr (hX : zCX X cc own) {o i f ci N index : Nat} {C : String} {T : u_T} (hin : ∀ w ∈ u_ws C T N, w ∈ zGW) (hp : pre.length = o) {fs : List Value} (hi : blk[i]? = some ((zEE X).1 + (o + i), .inr (ci, fs))) (hc : vwCl[ci]? = some (C, T, N)) (hf : f < N) (hlink : Cond.fieldLink own index own (T f).2.1 (T f).2.2.1 ∈ zGW) (hdecl : (T f).1 = own) {v : Value} (hv : fs[f]? = some v) (hd : decode cc pc = .ok (.getfield index, 3)) (kk : zV X Q (pre ++ blk) k n (pc + 3) lv (v :: st)) : zV X Q (pre ++ blk) k n pc lv (.ref ((zEE X).1 + (o + i)) :: st) := fun H locs ls hP hS hl =>
  va_get hX.1 hX.2.1 hX.2.2.2.1 hin hX.2.2.1 hX.2.2.2.2.1.1 hP.1 (o + i) (zv_at hp hi) hc f hf (hX.2.2.2.1 _ hlink) (fun x h => by rw [hdecl] at h; exact h) hv hd (kk H locs ls hP hS hl)
theorem zv_iast (hX : zCX X cc own) {o i N : Nat} (hp : pre.length = o) {f : Nat → Int32} {j v : Int32} (hi : blk[i]? = some ((zEE X).1 + (o + i), .inl ((zEE X).2.2.1 0, N, .inl f))) (hin : vp_in j N) (hd : decode cc pc = .ok (.iastore, 1)) (hb : blk.set i ((zEE X).1 + (o + i), .inl ((zEE X).2.2.1 0, N, .inl (upd f j.toNatClampNeg v))) = blk') (kk : zV X Q (pre ++ blk') k n (pc + 1) lv st) : zV X Q (pre ++ blk) k n pc lv (.int v :: .int j :: .ref ((zEE X).1 + (o + i)) :: st) := fun H locs ls hP hS hl =>
  va_iast hX.1 hX.2.1 hX.2.2.2.2.1.1 hP.1 (zVD hP.2.1) hS (o + i) 0 (zv_at hp hi) rfl hin hd (fun H1 locs1 hP1 _ hS1 => by
    have h3 := zv_set hP1 hP.2.1 (zv_at hp hi) hP.2.2
    rw [zv_st hp hb] at h3
    exact kk H1 locs1 ls h3 hS1 hl)
theorem zv_aast (hX : zCX X cc own) {o i i2 ti ci N : Nat} {c : ClassId} {r : vw_C} (hp : pre.length = o) {f : Nat → Option Nat} {j : Int32} {vs : List Value} (hi : blk[i]? = some ((zEE X).1 + (o + i), .inl (c, N, .inr (.inr (.inr (.inr f)))))) (hti : (zTys (zEE X))[ti]? = some (c, .object r.1)) (hv : blk[i2]? = some ((zEE X).1 + (o + i2), .inr (ci, vs))) (hc : vwCl[ci]? = some r) (hin : vp_in j N) (hd : decode cc pc = .ok (.aastore, 1))
    (hb : blk.set i ((zEE X).1 + (o + i), .inl (c, N, .inr (.inr (.inr (.inr (va_up f j.toNatClampNeg (some ((zEE X).1 + (o + i2)))))))))  = blk') (kk : zV X Q (pre ++ blk') k n (pc + 1) lv st) : zV X Q (pre ++ blk) k n pc lv (.ref ((zEE X).1 + (o + i2)) :: .int j :: .ref ((zEE X).1 + (o + i)) :: st) := fun H locs ls hP hS hl =>
  va_astq hX.1 hX.2.1 hX.2.2.2.2.1.1 hP.1 (zVD hP.2.1) hS (o + i) ti (o + i2) ci (zv_at hp hi) hti (zv_at hp hv) hc hin hd (fun H1 locs1 hP1 _ hS1 => by
    have h3 := zv_set hP1 hP.2.1 (zv_at hp hi) hP.2.2
    rw [zv_st hp hb] at h3
    exact kk H1 locs1 ls h3 hS1 hl)
/-- one cell told otherwise -/
theorem zv_fix {o i : Nat} {x y : va_E} (hp : pre.length = o) (hi : blk[i]? = some ((zEE X).1 + (o + i), x)) (h : ∀ H, va_at (zEE X).2.1 vwCl ((zEE X).1 + (o + i), x) H → va_at (zEE X).2.1 vwCl ((zEE X).1 + (o + i), y) H) (hb : blk.set i ((zEE X).1 + (o + i), y) = blk') (kk : zV X Q (pre ++ blk') k n pc lv st) : zV X Q (pre ++ blk) k n pc lv st := fun H locs ls hP hS hl => by
  have he := zv_at hp hi
  have hP1 : va_P (zEE X).2.1 vwCl ((pre ++ blk).set (o + i) ((zEE X).1 + (o + i), y)) H := by
    intro j q hj
    rw [List.getElem?_set] at hj
    by_cases hq : o + i = j
    · subst hq
      rw [if_pos rfl] at hj
      split at hj
      · cases hj; exact h H (hP.1 _ _ he)
      · cases hj
    · rw [if_neg hq] at hj; exact hP.1 j q hj
  have h3 := zv_set hP1 hP.2.1 he hP.2.2
  rw [zv_st hp hb] at h3
  exact kk H locs ls h3 hS hl
end ZVR
theorem zarr_i {D : va_G} {cl : List vw_C} {a N : Nat} {c : ClassId} {f g : Nat → Int32} (h : ∀ j, j < N → f j = g j) (H : Heap) (hx : va_at D cl (a, .inl (c, N, .inl f)) H) : va_at D cl (a, .inl (c, N, .inl g)) H := by
  have e : arrV c N (fun j => Value.int (f j)) = arrV c N (fun j => Value.int (g j)) := by
    unfold arrV
    congr 1
    apply congrArg (Array.ofFn (n := N))
    funext j
    show Value.int (f j.val) = Value.int (g j.val)
    rw [h j.val j.isLt]
  show H[a]? = some (arrV c N (fun j => Value.int (g j)))
  rw [← e]
  exact hx
theorem zarr_q {D : va_G} {cl : List vw_C} {a N : Nat} {c : ClassId} {f g : Nat → Option Nat} (h : ∀ j, j < N → f j = g j) (H : Heap) (hx : va_at D cl (a, .inl (c, N, .inr (.inr (.inr (.inr f))))) H) : va_at D cl (a, .inl (c, N, .inr (.inr (.inr (.inr g))))) H := by
  have e : arrV c N (fun j => va_rf (f j)) = arrV c N (fun j => va_rf (g j)) := by
    unfold arrV
    congr 1
    apply congrArg (Array.ofFn (n := N))
    funext j
    show va_rf (f j.val) = va_rf (g j.val)
    rw [h j.val j.isLt]
  show H[a]? = some (arrV c N (fun j => va_rf (g j)))
  rw [← e]
  exact hx
/-- a constructor's contract: the blank object last becomes the block T -/
def zCn (y : MethodName) (cc : ByteArray) (maxL : Nat) (blank : va_E) (T : zE → Nat → va_W) (d mc ms : Nat) : Prop :=
  ∀ (E : zE) (pre : va_W) (l : Launch), l.stackTraces = false → Met l y (.code y cc maxL none :: zGW) { frames := d + 14, cells := mc, slots := ms, locals := 40 * d + 400 }
    (va_Pc [.ref (E.1 + pre.length)] (fun U => zEnv E U ∧ zCC U ∧ va_P E.2.1 vwCl (pre ++ [(E.1 + pre.length, blank)]) U.heap ∧ zAd E pre ∧ U.heap.size = E.1 + pre.length + 1))
    (fun _ st oc t => oc = .returned none ∧ va_P E.2.1 vwCl (pre ++ T E pre.length) t.heap ∧ va_F (zA E) st t) mc ms (zA E)
