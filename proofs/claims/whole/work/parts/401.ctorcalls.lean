theorem zao_moved {u U : State} (hvm : u.vm.Alike U.vm) (h : (Cond.arrayOver (.array .int)).before #[] u = true) : (Cond.arrayOver (.array .int)).before #[] U = true := by
  unfold Cond.before at h
  simp only [Cond.holds, Cond.value, beq_iff_eq] at h
  cases hc : u.vm.findClass (FieldType.array FieldType.int).toString with
  | none => simp [hc] at h
  | some comp =>
    simp only [hc, Option.bind_some, Option.bind_eq_some_iff, Option.map_eq_some_iff] at h
    obtain ⟨c, hi, k, hk, hb⟩ := h
    obtain ⟨k', hk', he⟩ := hvm.2.2 _ _ hk
    have hi2 : (U.vm.classes.findIdx? fun (x : Class) => match x.kind with | .array component _ => component == comp | _ => false) = some c := by
      have z1 := va_idx_bare U.vm comp
      have z2 := va_idx_bare u.vm comp
      have z3 : U.vm.bare = u.vm.bare := by first | exact hvm.bare_eq | exact hvm.bare_eq.symm
      rw [z3] at z1
      exact z1.symm.trans (z2.trans hi)
    have f1 : U.vm.findClass (FieldType.array FieldType.int).toString = some comp := by rw [hvm.findClass]; exact hc
    unfold Cond.before Cond.holds
    simp only [Cond.value]
    rw [f1, Option.bind_some]
    refine (congrArg (fun o : Option Nat => (o.bind (fun c => (U.vm.classes[c]?).map fun (k : Class) => match k.kind with | .array _ ty => decide (ty = FieldType.array FieldType.int) && decide (U.vm.findClass ("[" ++ (FieldType.array FieldType.int).toString) = some c) | _ => false) == some true)) hi2).trans ?_
    simp only [Option.bind_some, hk', Option.map_some, beq_iff_eq, Option.some.injEq]
    rw [he]
    rw [hvm.findClass]
    exact hb
/-- a block of cells at the next places -/
def zTl (T : zE → Nat → va_W) (m : Nat) : Prop := (∀ E o, (T E o).length = m) ∧ ∀ E o (i : Nat) (q : Nat × va_E), (T E o)[i]? = some q → q.1 = E.1 + (o + i)
def zTa (E : zE) (o : Nat) (ws : va_W) : Prop := ∀ (i : Nat) (q : Nat × va_E), ws[i]? = some q → q.1 = E.1 + (o + i)
theorem zTa_nil {E : zE} {o : Nat} : zTa E o [] := fun i q h => by simp at h
theorem zTa_cons {E : zE} {o : Nat} {x : va_E} {r : va_W} (h : zTa E (o + 1) r) : zTa E o ((E.1 + o, x) :: r) := fun i q hi => by
  cases i with
  | zero => simp only [List.getElem?_cons_zero, Option.some.injEq] at hi; subst hi; rfl
  | succ i => rw [List.getElem?_cons_succ] at hi; rw [h i q hi]; omega
theorem zTa_app {E : zE} {o m : Nat} {a r : va_W} (ha : zTa E o a) (hm : a.length = m) (h : zTa E (o + m) r) : zTa E o (a ++ r) := fun i q hi => by
  rcases Nat.lt_or_ge i a.length with hl | hl
  · rw [List.getElem?_append_left hl] at hi; exact ha i q hi
  · rw [List.getElem?_append_right hl] at hi; rw [h _ q hi]; omega
def zQn (X : zX) (T : zE → Nat → va_W) (pre : va_W) (mc ms : Nat) : State → Prop := MQ X.2.2.2.2.2.2.2.1 (fun _ st oc t => oc = .returned none ∧ va_P (zEE X).2.1 vwCl (pre ++ T (zEE X) pre.length) t.heap ∧ va_F (zA (zEE X)) st t) X.2.2.2.2.2.2.1 X.2.2.2.2.1 mc ms (zA (zEE X))
def zrc (d mc ms : Nat) : Room := { frames := d + 14, cells := mc, slots := ms, locals := 40 * d + 400 }
theorem zcn_blind {E : zE} {pre : va_W} {blank : va_E} : FrameBlind (va_Pc [.ref (E.1 + pre.length)] (fun U => zEnv E U ∧ zCC U ∧ va_P E.2.1 vwCl (pre ++ [(E.1 + pre.length, blank)]) U.heap ∧ zAd E pre ∧ U.heap.size = E.1 + pre.length + 1)) := fun v U f mk h => ⟨h.1, zEnv.same (s := U) (U := U.calling f mk v) rfl rfl h.2.1, ⟨h.2.2.1.1.moved (U := U.calling f mk v) (Vm.Alike.refl U.vm), h.2.2.1.2.1.moved (U := U.calling f mk v) (Vm.Alike.refl U.vm), zao_moved (U := U.calling f mk v) (Vm.Alike.refl U.vm) h.2.2.1.2.2⟩, h.2.2.2⟩
theorem zcn_of {y : MethodName} {cc : ByteArray} {maxL : Nat} {blank : va_E} {T : zE → Nat → va_W} {d mc ms : Nat} (hy : plainName y.cls = true) (hi : y.name = "<init>") (hlen : 1 ≤ maxL)
    (body : ∀ (X : zX) (pre : va_W) (o : Nat), pre.length = o → zCX X cc y.cls → zCC X.2.2.2.2.1 → X.2.2.2.2.2.2.2.2.1.name = "<init>" → X.2.2.2.1 = zrc d mc ms → X.2.2.2.2.2.2.2.2.1.sig.returnType = none → X.2.2.2.2.2.2.2.2.2.1.maxLocals = maxL → zV X (zQn X T pre mc ms) (pre ++ ((zEE X).1 + (o + 0), blank) :: []) 0 0 0 [(0, .ref ((zEE X).1 + (o + 0)))] []) : zCn y cc maxL blank T d mc ms := by
  intro E pre l hl
  refine Met.ofW (cc := cc) (maxL := maxL) (ret := none) (ws' := zGW) hy rfl ?_
  intro p e s m args below meth c s₁ B hml hv
  obtain ⟨hargs, hE, hC, hP, hA, hsz⟩ := hv
  have hts := atoms_spec (ws := .code y cc maxL none :: zGW) B.pre
  have h1 : zCX (p, l, e, zrc d mc ms, s, m, args, below, meth, c, E) cc y.cls := ⟨B.exec, B.bytes, findClass_of_methodNamed B.named, fun w hw => hts w (List.mem_cons_of_mem _ hw), hE, hl, B.notSynchronized⟩
  have hnm : meth.name = "<init>" := by rw [(name_of_methodNamed B.named B.method).1]; exact hi
  have K := body (p, l, e, zrc d mc ms, s, m, args, below, meth, c, E) pre pre.length rfl h1 hC hnm rfl B.returns hml
  have hl2 := lv_entry [Value.ref (E.1 + pre.length)] (n := maxL) hlen
  subst hargs
  rw [lg_entry_eq]
  exact K s.heap [] _ ⟨hP, zAd_push hA _, by rw [List.length_append]; show s.heap.size + 0 = E.1 + (pre.length + 1); omega⟩ va_S.rf (by rw [hml]; exact hl2)
section ZVC
variable {X : zX} {Q : State → Prop} {ws ws0 ws' pre blk : va_W} {k n pc : Nat} {lv lv' : List (Nat × Value)} {st rest : List Value} {cc : ByteArray} {own : String}
theorem zv_ret (hX : zCX X cc own) (hr : X.2.2.2.2.2.2.2.2.1.sig.returnType = none) {T : zE → Nat → va_W} {o : Nat} (hp : pre.length = o) (hT : blk = T (zEE X) o) (hd : decode cc pc = .ok (.return_, 1)) : zV X (zQn X T pre k n) (pre ++ blk) k n pc lv [] := fun H locs ls hP hS hl =>
  W.vret hX.1 hX.2.1 hr (fun t ht hW => ⟨rfl, by rw [hp, ← hT, ht]; exact hP.1, hS.F ht⟩) hS.2.2 hd hX.2.2.2.2.2.2
theorem zv_fin {y : MethodName} {blank : va_E} {T : zE → Nat → va_W} {mc ms a m : Nat} {st0 : List Value} (hr : ∀ (H : Heap) (locs : List Loc) (ls : Array Slot), zVP X (ws0 ++ [((zEE X).1 + a, blank)]) k H → va_S (zA (zEE X)) X.2.2.2.2.1.heap H locs → lv_has ls X.2.2.2.2.2.2.2.2.2.1.maxLocals lv → H.size ≤ X.2.2.2.2.1.heap.size + k →
      va_Run X.1 X.2.1 X.2.2.1 X.2.2.2.1 X.2.2.2.2.1 X.2.2.2.2.2.1 X.2.2.2.2.2.2.1 X.2.2.2.2.2.2.2.1 X.2.2.2.2.2.2.2.2.1 X.2.2.2.2.2.2.2.2.2.1 H locs k n mc ms (F0 X.2.2.2.2.2.1 pc ls st0) rest (fun st oc t => oc = .returned none ∧ va_P (zEE X).2.1 vwCl (ws0 ++ T (zEE X) ws0.length) t.heap ∧ va_F (zA (zEE X)) st t) (zA (zEE X)))
    (ha : ws0.length = a) (hl0 : zTl T m) (hm : mc + 1 = m) (hws : ws0 ++ T (zEE X) a = ws') (kk : zV X Q ws' (k + mc) (n + ms) (pc + 3) lv rest) : zV X Q (ws0 ++ [((zEE X).1 + a, blank)]) k n pc lv st0 := by
  subst ha
  subst hws
  intro H locs ls hP hS hl T0 hT0 Xs
  obtain ⟨v, st₀, t, T', L, h0, X', hL, e1, e2, ⟨hv, hP1, hF⟩, stp⟩ := hr H locs ls hP hS hl (by rw [← hT0]; exact Xs.heapSize) T0 hT0 Xs
  cases hv
  obtain ⟨k1, k2, k3⟩ := vx_keep (A0 := zA (zEE X)) h0 e1 hS (fun q _ h => h) (fun q h => h) hL hF
  have hA0 : zAd (zEE X) ws0 := fun i q hi => hP.2.1 i q (by rw [List.getElem?_append_left (List.getElem?_eq_some_iff.mp hi).1]; exact hi)
  obtain ⟨t2, a1, b1⟩ := kk T'.heap (locs ++ L) ls ⟨by rw [e1]; exact hP1, fun i q hi => by
    rcases Nat.lt_or_ge i ws0.length with hq | hq
    · rw [List.getElem?_append_left hq] at hi; exact hA0 i q hi
    · rw [List.getElem?_append_right hq] at hi; rw [hl0.2 _ _ _ q hi]; omega, by
    have h1 := hP.2.2
    rw [List.length_append] at h1 ⊢
    rw [hl0.1]
    simp only [List.length_cons, List.length_nil] at h1
    omega⟩ k3 hl T' rfl X'
  exact ⟨t2, stp t2 a1, b1⟩
theorem zcn_pc (hX : zCX X cc own) (hC : zCC X.2.2.2.2.1) {blank : va_E} {H : Heap} {locs : List Loc} (hP : zVP X (ws0 ++ [((zEE X).1 + ws0.length, blank)]) k H) (hS : va_S (zA (zEE X)) X.2.2.2.2.1.heap H locs) (hup : H.size ≤ X.2.2.2.2.1.heap.size + k) (U : State) (hU : U.heap = H) (hW : X.2.2.2.2.1.WarmedH U.vm) :
    va_Pc [.ref ((zEE X).1 + ws0.length)] (fun U => zEnv (zEE X) U ∧ zCC U ∧ va_P (zEE X).2.1 vwCl (ws0 ++ [((zEE X).1 + ws0.length, blank)]) U.heap ∧ zAd (zEE X) ws0 ∧ U.heap.size = (zEE X).1 + ws0.length + 1) [Value.ref ((zEE X).1 + ws0.length)].toArray U := by
  refine ⟨rfl, zEnv.kept hW (fun a ha hna => by rw [hU]; exact hS.2.1 a ha hna) (by rw [hU]; exact hS.1) hX.2.2.2.2.1, ⟨hC.1.moved hW.alike, hC.2.1.moved hW.alike, ?_⟩, by rw [hU]; exact hP.1, fun i q hi => hP.2.1 i q (by rw [List.getElem?_append_left (List.getElem?_eq_some_iff.mp hi).1]; exact hi), ?_⟩
  · exact zao_moved hW.alike hC.2.2
  · rw [hU]
    have h1 := hP.2.2
    rw [List.length_append] at h1
    simp only [List.length_cons, List.length_nil] at h1
    have h2 := (hP.1 ws0.length _ (by rw [List.getElem?_append_right (Nat.le_refl _), Nat.sub_self]; rfl)).lt
    dsimp only at h2
    omega
theorem zv_ctorN (hX : zCX X cc own) (hC : zCC X.2.2.2.2.1) {y : MethodName} {bytes : ByteArray} {maxL : Nat} {blank : va_E} {T : zE → Nat → va_W} {d mc ms a m index : Nat} {host : String} (hCn : zCn y bytes maxL blank T d mc ms) (hOK : zOK y bytes maxL none 0) (hini : y.name = "<init>") (hlink : Cond.methodLinkNest own index y host ∈ zNW) (hinst : Cond.instanceMethod y ∈ zGW)
    (hrm : (d + 14 + 1 ≤ X.2.2.2.1.frames ∧ 8 + (maxL + 11) + (40 * d + 400) ≤ X.2.2.2.1.locals) ∧ k + mc ≤ X.2.2.2.1.cells ∧ n + ms ≤ X.2.2.2.1.slots) (hd : decode cc pc = .ok (.invokespecial index, 3)) (hroom : Nat.ble ((rest.map fun v => v.category).sum) 8 = true) (h0 : ws = ws0 ++ [((zEE X).1 + a, blank)]) (ha : ws0.length = a) (hl0 : zTl T m) (hm : mc + 1 = m) (hws : ws0 ++ T (zEE X) a = ws') (kk : zV X Q ws' (k + mc) (n + ms) (pc + 3) lv rest) : zV X Q ws k n pc lv (.ref ((zEE X).1 + a) :: rest) := by
  subst h0
  subst ha
  refine zv_fin (y := y) (fun H locs ls hP hS hl hup => ?_) rfl hl0 hm hws kk
  exact va_runIN (As := []) (nL := X.2.2.2.2.2.2.2.2.2.1.maxLocals) (rm := zrc d mc ms) ⟨hX.1, hX.2.1, rfl, hX.2.2.1, hX.2.2.2.1⟩ (hCn (zEE X) ws0 X.2.1 hX.2.2.2.2.2.1) ⟨va_cnB 0 hX.2.2.2.1 (zgood (zOK.ws (As := []) hOK)) rfl rfl rfl (hX.2.2.2.2.1.2.2.2.2.2.2.2.1 _ hlink) (hX.2.2.2.1 _ hOK.2.1) ⟨hOK.2.2.1, hOK.2.2.2.1, hOK.2.2.2.2⟩ hrm.1, hini, hX.2.2.2.1 _ hinst⟩ ⟨zcn_blind, fun U hU hW => zcn_pc hX hC hP hS hup U hU hW⟩ rfl rfl hl.1 rfl (lv_room (zl hroom)) hd hrm.2
theorem zv_ctor (hX : zCX X cc own) (hC : zCC X.2.2.2.2.1) {y : MethodName} {bytes : ByteArray} {maxL : Nat} {blank : va_E} {T : zE → Nat → va_W} {d mc ms a m index : Nat} (hCn : zCn y bytes maxL blank T d mc ms) (hOK : zOK y bytes maxL none 0) (hini : y.name = "<init>") (hlink : Cond.methodLink own index y ∈ zGW) (hinst : Cond.instanceMethod y ∈ zGW)
    (hrm : (d + 14 + 1 ≤ X.2.2.2.1.frames ∧ 8 + (maxL + 11) + (40 * d + 400) ≤ X.2.2.2.1.locals) ∧ k + mc ≤ X.2.2.2.1.cells ∧ n + ms ≤ X.2.2.2.1.slots) (hd : decode cc pc = .ok (.invokespecial index, 3)) (hroom : Nat.ble ((rest.map fun v => v.category).sum) 8 = true) (h0 : ws = ws0 ++ [((zEE X).1 + a, blank)]) (ha : ws0.length = a) (hl0 : zTl T m) (hm : mc + 1 = m) (hws : ws0 ++ T (zEE X) a = ws') (kk : zV X Q ws' (k + mc) (n + ms) (pc + 3) lv rest) : zV X Q ws k n pc lv (.ref ((zEE X).1 + a) :: rest) := by
  subst h0
  subst ha
  refine zv_fin (y := y) (fun H locs ls hP hS hl hup => ?_) rfl hl0 hm hws kk
  exact va_runI (As := []) (nL := X.2.2.2.2.2.2.2.2.2.1.maxLocals) (rm := zrc d mc ms) ⟨hX.1, hX.2.1, rfl, hX.2.2.1, hX.2.2.2.1⟩ (hCn (zEE X) ws0 X.2.1 hX.2.2.2.2.2.1) ⟨callB_of 0 hX.2.2.2.1 (zgood (zOK.ws (As := []) hOK)) rfl rfl rfl (hX.2.2.2.1 _ hOK.2.1) (hX.2.2.2.1 _ hlink) ⟨hOK.2.2.1, hOK.2.2.2.1, hOK.2.2.2.2⟩ hrm.1, hini, hX.2.2.2.1 _ hinst⟩ ⟨zcn_blind, fun U hU hW => zcn_pc hX hC hP hS hup U hU hW⟩ rfl rfl hl.1 rfl (lv_room (zl hroom)) hd hrm.2
end ZVC
