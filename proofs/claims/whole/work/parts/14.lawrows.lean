/-- the contract of a method with handlers: it returns -/
def zCtW (y : MethodName) (cc : ByteArray) (maxL : Nat) (ret : Option FieldType) (hh : List (Nat × Nat × Nat × Nat)) (d mc : Nat) (E : zE) (av : List Value) (g : zM) (v : Option Value) (g1 : zM) : Prop :=
  ∀ l : Launch, l.stackTraces = false → Met l y (.codeWith y cc maxL ret hh :: zGW) (zrm d mc) (zPc E g av) (zQc E (.inl (v, g1))) mc (6 * mc) (zA E)
def zTab (X : zX) (hh : List (Nat × Nat × Nat × Nat)) : Prop := X.2.2.2.2.2.2.2.2.2.1.exceptionTable.toList = tableOf hh
theorem zmetW {y : MethodName} {cc : ByteArray} {maxL : Nat} {ret : Option FieldType} {hh : List (Nat × Nat × Nat × Nat)} {d mc : Nat} {E : zE} {av : List Value} {g : zM} {v : Option Value} {g1 : zM} (hy : plainName y.cls = true) (hlen : (lg_sl av).length ≤ maxL)
    (body : ∀ X : zX, zEE X = E → zCX X cc y.cls → zTab X hh → X.2.2.2.1 = zrm d mc → X.2.2.2.2.2.2.2.2.1.sig.returnType = ret → X.2.2.2.2.2.2.2.2.2.1.maxLocals = maxL → zW X (zQ X (.inl (v, g1)) mc) 0 0 0 (lv_args 0 av) [] g) : zCtW y cc maxL ret hh d mc E av g v g1 := by
  intro l hl
  have hm : vx_Met l y (.codeWith y cc maxL ret hh :: zGW) (zrm d mc) (zPc E g av) (zQc E (.inl (v, g1))) (zXC E (.inl (v, g1))) mc (6 * mc) (zA E) := by
    refine vx_ofWH (cc := cc) (maxL := maxL) (ret := ret) (hh := hh) (ws' := zGW) hy rfl ?_
    intro p e s m args below meth c s₁ B hml hv
    obtain ⟨hargs, hE, hP⟩ := hv
    have hts := atoms_spec (ws := .codeWith y cc maxL ret hh :: zGW) B.pre
    have h1 : zCX (p, l, e, zrm d mc, s, m, args, below, meth, c, E) cc y.cls := ⟨B.exec, B.bytes, findClass_of_methodNamed B.named, fun w hw => hts w (List.mem_cons_of_mem _ hw), hE, hl, B.notSynchronized⟩
    have K := body (p, l, e, zrm d mc, s, m, args, below, meth, c, E) rfl h1 (vx_table (x := y) B (hts _ List.mem_cons_self)) rfl B.returns hml
    have hl2 := lv_entry av (n := maxL) hlen
    subst hargs
    rw [lg_entry_eq]
    exact K s.heap [] _ hP va_S.rf (by rw [hml]; exact hl2)
  exact MetFree.mono hm (fun _ _ h => h) (fun _ _ _ _ _ h => h) (fun a st oc t _ hq => by
    rcases hq with hq | ⟨q, -, E9, ce, L, hx, -⟩
    · exact hq
    · exact absurd hx (fun h => h))
/-- of codeWith -/
def zOKW (y : MethodName) (bytes : ByteArray) (maxL : Nat) (ret : Option FieldType) (hh : List (Nat × Nat × Nat × Nat)) (np : Nat) : Prop :=
  Cond.codeWith y bytes maxL ret hh ∈ zGW ∧ Cond.initialized y.cls ∈ zGW ∧ y.cls ≠ "java/lang/invoke/MethodHandle" ∧ y.cls ≠ "java/lang/invoke/VarHandle" ∧ (parseMethodDescriptor y.desc).map (fun d => d.parameters.length) = some np
/-- what is thrown, its class's number known -/
def zb3w {α β : Type} (x : Option (Except Nat α × zM)) (f : α → zM → Option β) (h : Nat → zM → Option β) : Option β := match x with
  | none => none
  | some (.error c, g) => h c g
  | some (.ok a, g) => f a g
theorem zb3w_some {α β : Type} {x : Option (Except Nat α × zM)} {f : α → zM → Option β} {h : Nat → zM → Option β} {r : β} (hf : zb3w x f h = some r) : (∃ c g1, x = some (.error c, g1) ∧ h c g1 = some r) ∨ ∃ a g1, x = some (.ok a, g1) ∧ f a g1 = some r := by
  match x, hf with
  | some (.error c, g), hf => exact Or.inl ⟨c, g, rfl, hf⟩
  | some (.ok a, g), hf => exact Or.inr ⟨a, g, rfl, hf⟩
section ZLW
variable {X : zX} {Q : State → Prop} {k n pc : Nat} {lv lv' : List (Nat × Value)} {st rest : List Value} {g : zM} {cc : ByteArray} {own : String}
variable {y : MethodName} {bytes : ByteArray} {maxL d mc : Nat} {ret : Option FieldType} {As : List Value} {index : Nat}
theorem z_callW1 (hX : zCX X cc own) {hh : List (Nat × Nat × Nat × Nat)} {v : Value} {g1 : zM} (hOK : zOKW y bytes maxL ret hh As.length) (hlink : Cond.methodLink own index y ∈ zGW) (hstat : Cond.static y ∈ zGW) (hrm : zRm X.2.2.2.1 d maxL mc k n) (hC : zCtW y bytes maxL ret hh d mc (zEE X) As g (some v) g1)
    (hd : decode cc pc = .ok (.invokestatic index, 3)) {st0 : List Value} (hst : st0 = As.reverse ++ rest) (hroom : Nat.ble ((rest.map fun v => v.category).sum) 8 = true)
    (kk : zW X Q (k + mc) (n + 6 * mc) (pc + 3) lv (v :: rest) g1) : zW X Q k n pc lv st0 g := by
  intro H locs ls hP hS hl T hT Xs
  have hr := vx_runSW (hh := hh) (meth := X.2.2.2.2.2.2.2.2.1) (e := X.2.2.1) (below := X.2.2.2.2.2.2.2.1) (nL := X.2.2.2.2.2.2.2.2.2.1.maxLocals) (rm := zrm d mc) (g := F0 X.2.2.2.2.2.1 pc ls st0) (rest := rest) (H := H) (locs := locs) (cells := k) (slots := n) ⟨hX.1, hX.2.1, rfl, hX.2.2.1, hX.2.2.2.1⟩ (hC X.2.1 hX.2.2.2.2.2.1)
    (vx_cwSW As.length hX.2.2.2.1 (zgood fun w hw => by
      unfold va_wsS at hw
      rcases List.mem_append.mp hw with h | h
      · simp only [List.mem_cons, List.not_mem_nil, or_false] at h
        rcases h with rfl | rfl | rfl
        · exact hlink
        · exact hstat
        · exact hOK.2.1
      · rcases List.mem_cons.mp h with h | h
        · rw [h]; exact hOK.1
        · exact h) rfl rfl rfl ⟨hOK.2.2.1, hOK.2.2.2.1, hOK.2.2.2.2⟩ hrm.1) ⟨zPc_blind, fun U hU hW => zPc_of hX.2.2.2.2.1 hP hS hU hW⟩ rfl rfl hl.1 hst (lv_room (zl hroom)) hd hrm.2
  obtain ⟨v', st₀, t, T', L, h0, X', hL, e1, e2, hq, stp⟩ := hr T hT Xs
  obtain ⟨hv, hpic, hF⟩ := hq
  cases hv
  obtain ⟨k1, k2, k3⟩ := vx_keep (A0 := zA (zEE X)) h0 e1 hS (fun q _ h => h) (fun q h => h) hL hF
  obtain ⟨t2, a1, b1⟩ := kk T'.heap (locs ++ L) ls (by rw [e1]; exact hpic) k3 hl T' rfl X'
  exact ⟨t2, stp t2 a1, b1⟩
theorem z_callV_c (hX : zCX X cc own) {c : Nat} {g1 : zM} (hOK : zOK y bytes maxL ret As.length) (hlink : Cond.methodLink own index y ∈ zGW) (hinst : Cond.instanceMethod y ∈ zGW) (hsel : Cond.selects y.cls y y ∈ zGW) (hrm : zRm X.2.2.2.1 d maxL mc k n) {b : Nat} (hC : zCt y bytes maxL ret d mc (zEE X) (.ref b :: As) g (.inr (c, g1)))
    (hrec : ∀ H, zPic (zEE X) g H → ∃ cellB : Cell, H[b]? = some cellB ∧ cellB.vm.isStatics = false ∧ X.2.2.2.2.1.vm.findClass y.cls = some cellB.cls) (hd : decode cc pc = .ok (.invokevirtual index, 3)) {st0 : List Value} (hst : st0 = As.reverse ++ .ref b :: rest) (hroom : Nat.ble ((rest.map fun v => v.category).sum) 8 = true)
    (kx : zVX X Q (k + mc) (n + 6 * mc) pc lv rest g1 c) : zW X Q k n pc lv st0 g :=
  z_fin (o := .inr (c, g1)) (zrunV hX hOK hlink hinst hsel hrm hC hrec (zl hroom) hd hst) (fun v' g1' e => by cases e) (fun c' g1' e => by cases e; exact kx)
/-- a handler takes it -/
theorem z_catch (hX : zCX X cc own) {c : Nat} {hh : List (Nat × Nat × Nat × Nat)} (hT : zTab X hh) (pre : List (Nat × Nat × Nat × Nat)) {a b h i : Nat} (suf : List (Nat × Nat × Nat × Nat)) (hh0 : hh = pre ++ (a, b, h, i) :: suf)
    (hpass : ∀ z ∈ pre, z.2.2.2 ≠ 0 ∧ ∃ nm : String, Cond.classLink own z.2.2.2 nm ∈ zGW ∧ (zXn c, nm) ∈ zNcs) (hcov : covers (⟨a, b, h, i⟩ : ExceptionTableEntry) pc = true) (hi : i ≠ 0) (hlink : Cond.classLink own i (zXn c) ∈ zGW) (hcast : Cond.castable (zXn c) (zXn c) ∈ zNW)
    (kk : ∀ q : Nat, zW X Q k n h lv [.ref q] g) : zVX X Q k n pc lv st g c := fun H locs ls q ce hP hS hl hce hcv hcl =>
  vx_catch hX.2.2.1 (tableOf pre) ⟨a, b, h, i⟩ (tableOf suf) (by rw [hT, hh0]; simp [tableOf]) (fun z hz => by
    obtain ⟨w, hw, rfl⟩ := List.mem_map.mp hz
    obtain ⟨h1, nm, h2, h3⟩ := hpass w hw
    exact Or.inr ⟨h1, nm, hX.2.2.2.1 _ h2, hX.2.2.2.2.1.2.2.2.2.2.2.2.2.2 _ h3⟩) hcov hi (hX.2.2.2.1 _ hlink) (va_Nw.use rfl (hX.2.2.2.2.1.2.2.2.2.2.2.2.1 _ hcast)) hce hcv hcl (kk q H locs ls hP hS hl)
/-- the script -/
def zSc (X : zX) (b L : Nat) (xs : Nat → Int32) : Prop := va_X b L xs X.2.2.2.2.1 X.2.2.2.2.1.heap ∧ b < X.2.2.2.2.1.heap.size ∧ b < zB X
theorem z_sld (hX : zCX X cc own) {b L : Nat} {xs : Nat → Int32} (hs : zSc X b L xs) {i : Int32} (hin : vp_in i L) (hd : decode cc pc = .ok (.iaload, 1)) (kk : zW X Q k n (pc + 1) lv (.int (xs i.toNatClampNeg) :: st) g) : zW X Q k n pc lv (.int i :: .ref b :: st) g := fun H locs ls hP hS hl => va_sld (A := zA (zEE X)) hX.1 hX.2.1 hs.1 hs.2.1 (Nat.not_le.mpr hs.2.2) hS hin hd (kk H locs ls hP hS hl)
theorem z_slen (hX : zCX X cc own) {b L : Nat} {xs : Nat → Int32} (hs : zSc X b L xs) (hd : decode cc pc = .ok (.arraylength, 1)) (kk : zW X Q k n (pc + 1) lv (.int (Int32.ofNat L) :: st) g) : zW X Q k n pc lv (.ref b :: st) g := fun H locs ls hP hS hl => va_slen (A := zA (zEE X)) hX.1 hX.2.1 hs.1 hs.2.1 (Nat.not_le.mpr hs.2.2) hS hd (kk H locs ls hP hS hl)
theorem z_aload_nq (hX : zCX X cc own) {q : Fin 4} {x : Nat} (hd : decode cc pc = .ok (.aload_n q, 1)) (pl : Nat) (hl0 : lv[pl]? = some ((q : Nat), .ref x)) (kk : zW X Q k n (pc + 1) lv (.ref x :: st) g) : zW X Q k n pc lv st g := z_aload_n hX hd pl hl0 kk
end ZLW
theorem zrm_law {R : Room} {d maxL mc k n K N : Nat} (hR : R = room_1) (hd : d ≤ 200 ∧ maxL ≤ 21) (hk : K ≤ 601024) (hn : N ≤ 7293034) (h1 : k + mc ≤ K) (h2 : n + 6 * mc ≤ N) : zRm R d maxL mc k n := by
  subst hR
  exact ⟨⟨by show d + 14 + 1 ≤ 2048; omega, by show 8 + (maxL + 11) + (40 * d + 400) ≤ 84000; omega⟩, by show k + mc ≤ 601024; omega, by show n + 6 * mc ≤ 7293034; omega⟩
