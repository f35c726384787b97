theorem zgood {ws : List Cond} (h : ∀ w ∈ ws, w ∈ zGW) : GoodIn zGW ws := fun w hw => ⟨h w hw, good_of_word (List.mem_filter.mp (h w hw)).2⟩
theorem zPc_blind {E : zE} {g : zM} {av : List Value} : FrameBlind (zPc E g av) := fun a U f mk h => ⟨h.1, zEnv.same (s := U) (U := U.calling f mk a) rfl rfl h.2.1, h.2.2⟩
theorem zPc_of {E : zE} {g : zM} {av : List Value} {s U : State} {H : Heap} {locs : List Loc} (hE : zEnv E s) (hP : zPic E g H) (hS : va_S (zA E) s.heap H locs) (hU : U.heap = H) (hW : s.WarmedH U.vm) : zPc E g av av.toArray U :=
  ⟨rfl, zEnv.kept hW (fun a ha hna => by rw [hU]; exact hS.2.1 a ha hna) (by rw [hU]; exact hS.1) hE, by rw [hU]; exact hP⟩
/-- room for a call at depth d -/
def zRm (R : Room) (d maxL mc k n : Nat) : Prop := (d + 14 + 1 ≤ R.frames ∧ 8 + (maxL + 11) + (40 * d + 400) ≤ R.locals) ∧ k + mc ≤ R.cells ∧ n + 6 * mc ≤ R.slots
theorem zrm_ok {R : Room} {D M d maxL mc k n : Nat} (hR : R = zrm D M) (h : (d < D ∧ maxL ≤ 21) ∧ k + mc ≤ M ∧ n + 6 * mc ≤ 6 * M) : zRm R d maxL mc k n := by
  subst hR
  obtain ⟨⟨h1, h2⟩, h3, h4⟩ := h
  exact ⟨⟨by show d + 14 + 1 ≤ D + 14; omega, by show 8 + (maxL + 11) + (40 * d + 400) ≤ 40 * D + 400; omega⟩, h3, h4⟩
/-- the method's frame, with an exception of class c thrown over it -/
def zVX (X : zX) (Q : State → Prop) (k n pc : Nat) (lv : List (Nat × Value)) (st : List Value) (g : zM) (c : Nat) : Prop :=
  ∀ (H : Heap) (locs : List Loc) (ls : Array Slot) (q : Addr) (ce : Cell), zPic (zEE X) g H → va_S (zA (zEE X)) X.2.2.2.2.1.heap H locs → lv_has ls X.2.2.2.2.2.2.2.2.2.1.maxLocals lv → H[q]? = some ce → ce.vm = .none → X.2.2.2.2.1.vm.findClass (zXn c) = some ce.cls →
    vx_W X.1 X.2.1 X.2.2.1 X.2.2.2.1 X.2.2.2.2.1 X.2.2.2.2.2.1 X.2.2.2.2.2.2.1 X.2.2.2.2.2.2.2.1 X.2.2.2.2.2.2.2.2.1 X.2.2.2.2.2.2.2.2.2.1 H locs k n Q (F0 X.2.2.2.2.2.1 pc ls st) q
section ZC
variable {X : zX} {Q : State → Prop} {k n pc : Nat} {lv lv' : List (Nat × Value)} {st rest : List Value} {g : zM} {cc : ByteArray} {own : String}
variable {y : MethodName} {bytes : ByteArray} {maxL d mc : Nat} {ret : Option FieldType} {o : zO} {As : List Value} {index : Nat}
abbrev zRun (X : zX) (H : Heap) (locs : List Loc) (k n mc pc : Nat) (ls : Array Slot) (st0 rest : List Value) (o : zO) (a : Array Value) : Prop :=
  vx_Run X.1 X.2.1 X.2.2.1 X.2.2.2.1 X.2.2.2.2.1 X.2.2.2.2.2.1 X.2.2.2.2.2.2.1 X.2.2.2.2.2.2.2.1 X.2.2.2.2.2.2.2.2.1 X.2.2.2.2.2.2.2.2.2.1 H locs k n mc (6 * mc) (F0 X.2.2.2.2.2.1 pc ls st0) rest (zQc (zEE X) o a) (zXC (zEE X) o) (zA (zEE X))
theorem z_fin {a : Array Value} {st0 : List Value} (hr : ∀ (H : Heap) (locs : List Loc) (ls : Array Slot), zPic (zEE X) g H → va_S (zA (zEE X)) X.2.2.2.2.1.heap H locs → lv_has ls X.2.2.2.2.2.2.2.2.2.1.maxLocals lv → zRun X H locs k n mc pc ls st0 rest o a)
    (kk : ∀ (v : Option Value) (g1 : zM), o = .inl (v, g1) → zW X Q (k + mc) (n + 6 * mc) (pc + 3) lv (v.toList ++ rest) g1) (kx : ∀ (c : Nat) (g1 : zM), o = .inr (c, g1) → zVX X Q (k + mc) (n + 6 * mc) pc lv rest g1 c) : zW X Q k n pc lv st0 g := by
  intro H locs ls hP hS hl T hT Xs
  rcases hr H locs ls hP hS hl T hT Xs with ⟨v, st₀, t, T', L, h0, X', hL, e1, e2, hq, st⟩ | ⟨q, st₀, t, T', L, E, ce, h0, X', hL, e1, e2, hq, hce, hcv, hcl, st⟩
  · match o, hq, kk with
    | .inl (v', g1), hq, kk =>
      obtain ⟨hv, hpic, hF⟩ := hq
      cases hv
      obtain ⟨k1, k2, k3⟩ := vx_keep (A0 := zA (zEE X)) h0 e1 hS (fun q _ h => h) (fun q h => h) hL hF
      obtain ⟨t2, a1, b1⟩ := kk v g1 rfl T'.heap (locs ++ L) ls (by rw [e1]; exact hpic) k3 hl T' rfl X'
      exact ⟨t2, st t2 a1, b1⟩
    | .inr _, hq, _ => exact absurd hq (by intro h; exact h)
  · match o, hq, kx with
    | .inr (c, g1), hq, kx =>
      obtain ⟨hN, hpic, hF⟩ := hq
      subst hN
      obtain ⟨k1, k2, k3⟩ := vx_keep (A0 := zA (zEE X)) h0 e1 hS (fun q _ h => h) (fun q h => h) hL hF
      obtain ⟨t2, a1, b1⟩ := kx c g1 rfl T'.heap (locs ++ L) ls q ce (by rw [e1]; exact hpic) k3 hl (by rw [e1]; exact hce) hcv hcl T' rfl X'
      exact ⟨t2, st.trans a1, b1⟩
    | .inl _, hq, _ => exact absurd hq (by intro h; exact h)
/-- a method's words, of which a call speaks -/
def zOK (y : MethodName) (bytes : ByteArray) (maxL : Nat) (ret : Option FieldType) (np : Nat) : Prop :=
  Cond.code y bytes maxL ret ∈ zGW ∧ Cond.initialized y.cls ∈ zGW ∧ y.cls ≠ "java/lang/invoke/MethodHandle" ∧ y.cls ≠ "java/lang/invoke/VarHandle" ∧ (parseMethodDescriptor y.desc).map (fun d => d.parameters.length) = some np
theorem zOK.ws (h : zOK y bytes maxL ret As.length) : ∀ w ∈ (.code y bytes maxL ret :: zGW : List Cond), w ∈ zGW := fun w hw => (List.mem_cons.mp hw).elim (fun e => by rw [e]; exact h.1) id
theorem zrunV (hX : zCX X cc own) (hOK : zOK y bytes maxL ret As.length) (hlink : Cond.methodLink own index y ∈ zGW) (hinst : Cond.instanceMethod y ∈ zGW) (hsel : Cond.selects y.cls y y ∈ zGW) (hrm : zRm X.2.2.2.1 d maxL mc k n) {b : Nat} (hC : zCt y bytes maxL ret d mc (zEE X) (.ref b :: As) g o)
    (hrec : ∀ H, zPic (zEE X) g H → ∃ cellB : Cell, H[b]? = some cellB ∧ cellB.vm.isStatics = false ∧ X.2.2.2.2.1.vm.findClass y.cls = some cellB.cls) (hroom : (rest.map fun v => v.category).sum ≤ 8) (hd : decode cc pc = .ok (.invokevirtual index, 3)) {st0 : List Value} (hst : st0 = As.reverse ++ .ref b :: rest)
    (H : Heap) (locs : List Loc) (ls : Array Slot) (hP : zPic (zEE X) g H) (hS : va_S (zA (zEE X)) X.2.2.2.2.1.heap H locs) (hl : lv_has ls X.2.2.2.2.2.2.2.2.2.1.maxLocals lv) : zRun X H locs k n mc pc ls st0 rest o (Value.ref b :: As).toArray :=
  vx_runV (nL := X.2.2.2.2.2.2.2.2.2.1.maxLocals) (rm := zrm d mc) ⟨hX.1, hX.2.1, rfl, hX.2.2.1, hX.2.2.2.1⟩ (hC X.2.1 hX.2.2.2.2.2.1) (cwV As.length hX.2.2.2.1 (zgood fun w hw => by
    unfold wsV at hw
    rcases List.mem_append.mp hw with h | h
    · simp only [List.mem_cons, List.not_mem_nil, or_false] at h
      rcases h with rfl | rfl | rfl | rfl
      · exact hlink
      · exact hinst
      · exact hsel
      · exact hOK.2.1
    · exact hOK.ws w h) rfl rfl rfl ⟨rfl, hOK.2.2.1, hOK.2.2.2.1, hOK.2.2.2.2⟩ hrm.1) ⟨zPc_blind, hrec H hP, fun U hU hW => zPc_of hX.2.2.2.2.1 hP hS hU hW⟩ rfl rfl hl.1 hst (lv_room hroom) hd hrm.2
theorem zrunS (hX : zCX X cc own) (hOK : zOK y bytes maxL ret As.length) (hown : y.cls = own) (hlink : Cond.methodLink own index y ∈ zGW) (hstat : Cond.static y ∈ zGW) (hrm : zRm X.2.2.2.1 d maxL mc k n) (hC : zCt y bytes maxL ret d mc (zEE X) As g o)
    (hroom : (rest.map fun v => v.category).sum ≤ 8) (hd : decode cc pc = .ok (.invokestatic index, 3)) {st0 : List Value} (hst : st0 = As.reverse ++ rest)
    (H : Heap) (locs : List Loc) (ls : Array Slot) (hP : zPic (zEE X) g H) (hS : va_S (zA (zEE X)) X.2.2.2.2.1.heap H locs) (hl : lv_has ls X.2.2.2.2.2.2.2.2.2.1.maxLocals lv) : zRun X H locs k n mc pc ls st0 rest o As.toArray :=
  vx_runS (nL := X.2.2.2.2.2.2.2.2.2.1.maxLocals) (rm := zrm d mc) ⟨hX.1, hX.2.1, rfl, hX.2.2.1, hX.2.2.2.1⟩ (hC X.2.1 hX.2.2.2.2.2.1) (cwS As.length hX.2.2.2.1 (zgood fun w hw => by
    unfold wsS at hw
    rcases List.mem_append.mp hw with h | h
    · simp only [List.mem_cons, List.not_mem_nil, or_false] at h
      rcases h with rfl | rfl | rfl
      · exact hlink
      · exact hstat
      · rw [← hown]; exact hOK.2.1
    · exact hOK.ws w h) rfl rfl rfl ⟨hown, hOK.2.2.1, hOK.2.2.2.1, hOK.2.2.2.2⟩ hrm.1) ⟨zPc_blind, fun U hU hW => zPc_of hX.2.2.2.2.1 hP hS hU hW⟩ rfl rfl hl.1 hst (lv_room hroom) hd hrm.2
/-- a thrown thing leaves the method -/
theorem z_out {X : zX} {k n pc M c : Nat} {lv : List (Nat × Value)} {st : List Value} {g : zM} {cc : ByteArray} {own : String} (hX : zCX X cc own) (hT : zNT X) {o : zO} (ho : o = .inr (c, g)) (h1 : k ≤ M) (h2 : n ≤ 6 * M) : zVX X (zQ X o M) k n pc lv st g c := by
  subst ho
  intro H locs ls q ce hP hS hl hce hcv hcl
  exact vx_out (fun x hx => (hT x hx).elim) hX.2.2.2.2.2.2 hce hcv hcl (fun t ht hvm => ⟨rfl, by rw [ht]; exact hP, hS.F ht⟩) hS.2.2 h1 h2
theorem z_callV (hX : zCX X cc own) {v : Option Value} {g1 : zM} (hOK : zOK y bytes maxL ret As.length) (hlink : Cond.methodLink own index y ∈ zGW) (hinst : Cond.instanceMethod y ∈ zGW) (hsel : Cond.selects y.cls y y ∈ zGW) (hrm : zRm X.2.2.2.1 d maxL mc k n) {b : Nat} (hC : zCt y bytes maxL ret d mc (zEE X) (.ref b :: As) g (.inl (v, g1)))
    (hrec : ∀ H, zPic (zEE X) g H → ∃ cellB : Cell, H[b]? = some cellB ∧ cellB.vm.isStatics = false ∧ X.2.2.2.2.1.vm.findClass y.cls = some cellB.cls) (hroom : (rest.map fun v => v.category).sum ≤ 8) (hd : decode cc pc = .ok (.invokevirtual index, 3)) {st0 : List Value} (hst : st0 = As.reverse ++ .ref b :: rest)
    (kk : zW X Q (k + mc) (n + 6 * mc) (pc + 3) lv (v.toList ++ rest) g1) : zW X Q k n pc lv st0 g :=
  z_fin (o := .inl (v, g1)) (zrunV hX hOK hlink hinst hsel hrm hC hrec hroom hd hst) (fun v' g1' e => by cases e; exact kk) (fun c g1 e => by cases e)
theorem z_callVx (hX : zCX X cc own) (hT : zNT X) {c M : Nat} {g1 : zM} (hOK : zOK y bytes maxL ret As.length) (hlink : Cond.methodLink own index y ∈ zGW) (hinst : Cond.instanceMethod y ∈ zGW) (hsel : Cond.selects y.cls y y ∈ zGW) (hrm : zRm X.2.2.2.1 d maxL mc k n) {b : Nat} (hC : zCt y bytes maxL ret d mc (zEE X) (.ref b :: As) g (.inr (c, g1)))
    (hrec : ∀ H, zPic (zEE X) g H → ∃ cellB : Cell, H[b]? = some cellB ∧ cellB.vm.isStatics = false ∧ X.2.2.2.2.1.vm.findClass y.cls = some cellB.cls) (hroom : (rest.map fun v => v.category).sum ≤ 8) (hd : decode cc pc = .ok (.invokevirtual index, 3)) {st0 : List Value} (hst : st0 = As.reverse ++ .ref b :: rest)
    (h1 : k + mc ≤ M) (h2 : n + 6 * mc ≤ 6 * M) : zW X (zQ X (.inr (c, g1)) M) k n pc lv st0 g :=
  z_fin (o := .inr (c, g1)) (zrunV hX hOK hlink hinst hsel hrm hC hrec hroom hd hst) (fun v' g1' e => by cases e) (fun c' g1' e => by cases e; exact z_out hX hT rfl h1 h2)
theorem z_callS (hX : zCX X cc own) {v : Option Value} {g1 : zM} (hOK : zOK y bytes maxL ret As.length) (hown : y.cls = own) (hlink : Cond.methodLink own index y ∈ zGW) (hstat : Cond.static y ∈ zGW) (hrm : zRm X.2.2.2.1 d maxL mc k n) (hC : zCt y bytes maxL ret d mc (zEE X) As g (.inl (v, g1)))
    (hroom : (rest.map fun v => v.category).sum ≤ 8) (hd : decode cc pc = .ok (.invokestatic index, 3)) {st0 : List Value} (hst : st0 = As.reverse ++ rest)
    (kk : zW X Q (k + mc) (n + 6 * mc) (pc + 3) lv (v.toList ++ rest) g1) : zW X Q k n pc lv st0 g :=
  z_fin (o := .inl (v, g1)) (zrunS hX hOK hown hlink hstat hrm hC hroom hd hst) (fun v' g1' e => by cases e; exact kk) (fun c g1 e => by cases e)
theorem z_callSx (hX : zCX X cc own) (hT : zNT X) {c M : Nat} {g1 : zM} (hOK : zOK y bytes maxL ret As.length) (hown : y.cls = own) (hlink : Cond.methodLink own index y ∈ zGW) (hstat : Cond.static y ∈ zGW) (hrm : zRm X.2.2.2.1 d maxL mc k n) (hC : zCt y bytes maxL ret d mc (zEE X) As g (.inr (c, g1)))
    (hroom : (rest.map fun v => v.category).sum ≤ 8) (hd : decode cc pc = .ok (.invokestatic index, 3)) {st0 : List Value} (hst : st0 = As.reverse ++ rest)
    (h1 : k + mc ≤ M) (h2 : n + 6 * mc ≤ 6 * M) : zW X (zQ X (.inr (c, g1)) M) k n pc lv st0 g :=
  z_fin (o := .inr (c, g1)) (zrunS hX hOK hown hlink hstat hrm hC hroom hd hst) (fun v' g1' e => by cases e) (fun c' g1' e => by cases e; exact z_out hX hT rfl h1 h2)
end ZC
section ZE
variable {X : zX} {k n pc M : Nat} {lv : List (Nat × Value)} {st : List Value} {g : zM} {cc : ByteArray} {own : String}
theorem z_iret (hX : zCX X cc own) {v : Int32} {ty : FieldType} (hr : X.2.2.2.2.2.2.2.2.1.sig.returnType = some ty) (hn : narrow ty (.int v) = .int v) (h1 : k ≤ M) (h2 : n ≤ 6 * M) (hd : decode cc pc = .ok (.ireturn, 1)) : zW X (zQ X (.inl (some (.int v), g)) M) k n pc lv [.int v] g :=
  zW.widen h1 h2 (fun H locs ls hP hS hl => vx_ret (W.zret hX.1 hX.2.1 hr hn (fun t ht hW => ⟨rfl, by rw [ht]; exact hP, hS.F ht⟩) hS.2.2 hd hX.2.2.2.2.2.2))
theorem z_aret (hX : zCX X cc own) {a : Nat} {nm : String} (hr : X.2.2.2.2.2.2.2.2.1.sig.returnType = some (.object nm)) (h1 : k ≤ M) (h2 : n ≤ 6 * M) (hd : decode cc pc = .ok (.areturn, 1)) : zW X (zQ X (.inl (some (.ref a), g)) M) k n pc lv [.ref a] g :=
  zW.widen h1 h2 (fun H locs ls hP hS hl => vx_ret (W.aret hX.1 hX.2.1 hr (Or.inl ⟨_, rfl⟩) (Or.inr ⟨_, rfl⟩) (fun t ht hW => ⟨rfl, by rw [ht]; exact hP, hS.F ht⟩) hS.2.2 hd hX.2.2.2.2.2.2))
theorem z_vret (hX : zCX X cc own) (hr : X.2.2.2.2.2.2.2.2.1.sig.returnType = none) (h1 : k ≤ M) (h2 : n ≤ 6 * M) (hd : decode cc pc = .ok (.return_, 1)) : zW X (zQ X (.inl (none, g)) M) k n pc lv [] g :=
  zW.widen h1 h2 (fun H locs ls hP hS hl => vx_ret (W.vret hX.1 hX.2.1 hr (fun t ht hW => ⟨rfl, by rw [ht]; exact hP, hS.F ht⟩) hS.2.2 hd hX.2.2.2.2.2.2))
end ZE
theorem zrec_Bag {X : zX} {cc : ByteArray} {own : String} {g : zM} (hX : zCX X cc own) {id : Nat} (hk : zK id = 0) (H : Heap) (hP : zPic (zEE X) g H) : ∃ cellB : Cell, H[zB X + id]? = some cellB ∧ cellB.vm.isStatics = false ∧ X.2.2.2.2.1.vm.findClass RX0 = some cellB.cls := va_recv (ci := 0) (q0 := id) hX.2.2.2.2.1.1 hP.ws rfl (by rw [zws_get (zK_lt hk (by decide)), hk]; rfl)
theorem zrec_Law {X : zX} {cc : ByteArray} {own : String} {g : zM} (hX : zCX X cc own) {id : Nat} (hk : zK id = 1) (H : Heap) (hP : zPic (zEE X) g H) : ∃ cellB : Cell, H[zB X + id]? = some cellB ∧ cellB.vm.isStatics = false ∧ X.2.2.2.2.1.vm.findClass RX1 = some cellB.cls := va_recv (ci := 1) (q0 := id) hX.2.2.2.2.1.1 hP.ws rfl (by rw [zws_get (zK_lt hk (by decide)), hk]; rfl)
theorem zrec_LawReader {X : zX} {cc : ByteArray} {own : String} {g : zM} (hX : zCX X cc own) {id : Nat} (hk : zK id = 2) (H : Heap) (hP : zPic (zEE X) g H) : ∃ cellB : Cell, H[zB X + id]? = some cellB ∧ cellB.vm.isStatics = false ∧ X.2.2.2.2.1.vm.findClass RX2 = some cellB.cls := va_recv (ci := 2) (q0 := id) hX.2.2.2.2.1.1 hP.ws rfl (by rw [zws_get (zK_lt hk (by decide)), hk]; rfl)
theorem zrec_Mail {X : zX} {cc : ByteArray} {own : String} {g : zM} (hX : zCX X cc own) {id : Nat} (hk : zK id = 3) (H : Heap) (hP : zPic (zEE X) g H) : ∃ cellB : Cell, H[zB X + id]? = some cellB ∧ cellB.vm.isStatics = false ∧ X.2.2.2.2.1.vm.findClass RX3 = some cellB.cls := va_recv (ci := 3) (q0 := id) hX.2.2.2.2.1.1 hP.ws rfl (by rw [zws_get (zK_lt hk (by decide)), hk]; rfl)
theorem zrec_Memory {X : zX} {cc : ByteArray} {own : String} {g : zM} (hX : zCX X cc own) {id : Nat} (hk : zK id = 4) (H : Heap) (hP : zPic (zEE X) g H) : ∃ cellB : Cell, H[zB X + id]? = some cellB ∧ cellB.vm.isStatics = false ∧ X.2.2.2.2.1.vm.findClass RX4 = some cellB.cls := va_recv (ci := 4) (q0 := id) hX.2.2.2.2.1.1 hP.ws rfl (by rw [zws_get (zK_lt hk (by decide)), hk]; rfl)
theorem zrec_PostReader {X : zX} {cc : ByteArray} {own : String} {g : zM} (hX : zCX X cc own) {id : Nat} (hk : zK id = 5) (H : Heap) (hP : zPic (zEE X) g H) : ∃ cellB : Cell, H[zB X + id]? = some cellB ∧ cellB.vm.isStatics = false ∧ X.2.2.2.2.1.vm.findClass RX5 = some cellB.cls := va_recv (ci := 5) (q0 := id) hX.2.2.2.2.1.1 hP.ws rfl (by rw [zws_get (zK_lt hk (by decide)), hk]; rfl)
theorem zrec_Shelving {X : zX} {cc : ByteArray} {own : String} {g : zM} (hX : zCX X cc own) {id : Nat} (hk : zK id = 6) (H : Heap) (hP : zPic (zEE X) g H) : ∃ cellB : Cell, H[zB X + id]? = some cellB ∧ cellB.vm.isStatics = false ∧ X.2.2.2.2.1.vm.findClass RX6 = some cellB.cls := va_recv (ci := 6) (q0 := id) hX.2.2.2.2.1.1 hP.ws rfl (by rw [zws_get (zK_lt hk (by decide)), hk]; rfl)
theorem zrec_Sight {X : zX} {cc : ByteArray} {own : String} {g : zM} (hX : zCX X cc own) {id : Nat} (hk : zK id = 7) (H : Heap) (hP : zPic (zEE X) g H) : ∃ cellB : Cell, H[zB X + id]? = some cellB ∧ cellB.vm.isStatics = false ∧ X.2.2.2.2.1.vm.findClass RX7 = some cellB.cls := va_recv (ci := 7) (q0 := id) hX.2.2.2.2.1.1 hP.ws rfl (by rw [zws_get (zK_lt hk (by decide)), hk]; rfl)
theorem zrec_Tokens {X : zX} {cc : ByteArray} {own : String} {g : zM} (hX : zCX X cc own) {id : Nat} (hk : zK id = 8) (H : Heap) (hP : zPic (zEE X) g H) : ∃ cellB : Cell, H[zB X + id]? = some cellB ∧ cellB.vm.isStatics = false ∧ X.2.2.2.2.1.vm.findClass RX9 = some cellB.cls := va_recv (ci := 8) (q0 := id) hX.2.2.2.2.1.1 hP.ws rfl (by rw [zws_get (zK_lt hk (by decide)), hk]; rfl)
theorem zrec_World {X : zX} {cc : ByteArray} {own : String} {g : zM} (hX : zCX X cc own) {id : Nat} (hk : zK id = 9) (H : Heap) (hP : zPic (zEE X) g H) : ∃ cellB : Cell, H[zB X + id]? = some cellB ∧ cellB.vm.isStatics = false ∧ X.2.2.2.2.1.vm.findClass RX10 = some cellB.cls := va_recv (ci := 9) (q0 := id) hX.2.2.2.2.1.1 hP.ws rfl (by rw [zws_get (zK_lt hk (by decide)), hk]; rfl)
theorem zrec_Post {X : zX} {cc : ByteArray} {own : String} {g : zM} (hX : zCX X cc own) {id : Nat} (hk : zK id = 10) (H : Heap) (hP : zPic (zEE X) g H) : ∃ cellB : Cell, H[zB X + id]? = some cellB ∧ cellB.vm.isStatics = false ∧ X.2.2.2.2.1.vm.findClass RX11 = some cellB.cls := va_recv (ci := 10) (q0 := id) hX.2.2.2.2.1.1 hP.ws rfl (by rw [zws_get (zK_lt hk (by decide)), hk]; rfl)
theorem zrec_Model {X : zX} {cc : ByteArray} {own : String} {g : zM} (hX : zCX X cc own) {id : Nat} (hk : zK id = 11) (H : Heap) (hP : zPic (zEE X) g H) : ∃ cellB : Cell, H[zB X + id]? = some cellB ∧ cellB.vm.isStatics = false ∧ X.2.2.2.2.1.vm.findClass RX12 = some cellB.cls := va_recv (ci := 11) (q0 := id) hX.2.2.2.2.1.1 hP.ws rfl (by rw [zws_get (zK_lt hk (by decide)), hk]; rfl)
