/-! the combinators in which a method's function is written -/
def zchk {α : Type} (i : Int32) (n : Nat) (x : Option α) : Option α := if i < 0 ∨ n ≤ i.toNatClampNeg then none else x
theorem zchk_some {α : Type} {i : Int32} {n : Nat} {x : Option α} {r : α} (h : zchk i n x = some r) : vp_in i n ∧ x = some r := by
  unfold zchk at h
  by_cases c : i < 0 ∨ n ≤ i.toNatClampNeg
  · rw [if_pos c] at h; exact nomatch h
  · rw [if_neg c] at h; exact ⟨c, h⟩
theorem zchk_pos {α : Type} {i : Int32} {n : Nat} {x : Option α} (h : vp_in i n) : zchk i n x = x := if_neg h
def znz {α : Type} (y : Int32) (x : Option α) : Option α := if y = 0 then none else x
theorem znz_some {α : Type} {y : Int32} {x : Option α} {r : α} (h : znz y x = some r) : ¬ y = 0 ∧ x = some r := by
  unfold znz at h
  by_cases c : y = 0
  · rw [if_pos c] at h; exact nomatch h
  · rw [if_neg c] at h; exact ⟨c, h⟩
def zbo {α : Type} (v : Int32) (x : Option α) : Option α := if v = 0 ∨ v = 1 then x else none
theorem zbo_some {α : Type} {v : Int32} {x : Option α} {r : α} (h : zbo v x = some r) : (v = 0 ∨ v = 1) ∧ x = some r := by
  unfold zbo at h
  by_cases c : v = 0 ∨ v = 1
  · rw [if_pos c] at h; exact ⟨c, h⟩
  · rw [if_neg c] at h; exact nomatch h
def zput {α : Type} (g : zM) (a k : Nat) (v : Int32) (f : zM → α) : α := f (zset g a k v)
theorem zput_some {α : Type} {g : zM} {a k : Nat} {v : Int32} {f : zM → Option α} {r : α} (h : zput g a k v f = some r) : ∃ g1, zset g a k v = g1 ∧ f g1 = some r := ⟨_, rfl, h⟩
def zb {α β : Type} (x : Option α) (f : α → Option β) : Option β := match x with
  | none => none
  | some a => f a
theorem zb_some {α β : Type} {x : Option α} {f : α → Option β} {r : β} (h : zb x f = some r) : ∃ a, x = some a ∧ f a = some r := by
  cases x with
  | none => exact nomatch h
  | some a => exact ⟨a, rfl, h⟩
def zb2 {α β : Type} (x : Option (α × zM)) (f : α → zM → Option β) : Option β := match x with
  | none => none
  | some a => f a.1 a.2
theorem zb2_some {α β : Type} {x : Option (α × zM)} {f : α → zM → Option β} {r : β} (h : zb2 x f = some r) : ∃ a g1, x = some (a, g1) ∧ f a g1 = some r := by
  cases x with
  | none => exact nomatch h
  | some a => exact ⟨a.1, a.2, rfl, h⟩
def zb3 {α β : Type} (x : Option (Except Nat α × zM)) (f : α → zM → Option (Except Nat β × zM)) : Option (Except Nat β × zM) := match x with
  | none => none
  | some (.error c, g) => some (.error c, g)
  | some (.ok a, g) => f a g
theorem zb3_some {α β : Type} {x : Option (Except Nat α × zM)} {f : α → zM → Option (Except Nat β × zM)} {r : Except Nat β × zM} (h : zb3 x f = some r) : (∃ c g1, x = some (.error c, g1) ∧ r = (.error c, g1)) ∨ ∃ a g1, x = some (.ok a, g1) ∧ f a g1 = some r := by
  match x, h with
  | some (.error c, g), h => exact Or.inl ⟨c, g, rfl, (Option.some.inj h).symm⟩
  | some (.ok a, g), h => exact Or.inr ⟨a, g, rfl, h⟩
def zacp {α : Type} (g : zM) (a : Nat) (sp : Int32) (la : Nat) (b : Nat) (dp : Int32) (lb : Nat) (n : Int32) (f : zM → Option α) : Option α :=
  if ¬ sp < 0 ∧ ¬ dp < 0 ∧ ¬ n < 0 ∧ sp.toNatClampNeg + n.toNatClampNeg ≤ la ∧ dp.toNatClampNeg + n.toNatClampNeg ≤ lb then f (zcopy g a sp.toNatClampNeg b dp.toNatClampNeg n.toNatClampNeg) else none
theorem zacp_some {α : Type} {g : zM} {a : Nat} {sp : Int32} {la b : Nat} {dp : Int32} {lb : Nat} {n : Int32} {f : zM → Option α} {r : α} (h : zacp g a sp la b dp lb n f = some r) :
    ∃ g1, zcopy g a sp.toNatClampNeg b dp.toNatClampNeg n.toNatClampNeg = g1 ∧ (¬ sp < 0 ∧ ¬ dp < 0 ∧ ¬ n < 0 ∧ sp.toNatClampNeg + n.toNatClampNeg ≤ la ∧ dp.toNatClampNeg + n.toNatClampNeg ≤ lb) ∧ f g1 = some r := by
  unfold zacp at h
  by_cases c : ¬ sp < 0 ∧ ¬ dp < 0 ∧ ¬ n < 0 ∧ sp.toNatClampNeg + n.toNatClampNeg ≤ la ∧ dp.toNatClampNeg + n.toNatClampNeg ≤ lb
  · rw [if_pos c] at h; exact ⟨_, rfl, c, h⟩
  · rw [if_neg c] at h; exact nomatch h
def zjoin {γ α : Type} (k : γ) (f : γ → α) : α := f k
theorem zjoin_ok {γ α : Type} {K : γ} {F : γ → Option α} {r : α} {P : γ → Prop} {G : Prop} (h : zjoin K F = some r) (h1 : P K) (h2 : ∀ k, P k → F k = some r → G) : G := h2 K h1 h
theorem zif_pos {α : Type} {c : Prop} [Decidable c] {a b : Option α} {r : α} (hc : c) (h : (if c then a else b) = some r) : a = some r := by rwa [if_pos hc] at h
theorem zif_neg {α : Type} {c : Prop} [Decidable c] {a b : Option α} {r : α} (hc : ¬ c) (h : (if c then a else b) = some r) : b = some r := by rwa [if_neg hc] at h
theorem zno {α : Type} {r : α} {P : Prop} (h : (none : Option α) = some r) : P := nomatch h
theorem zl {a b : Nat} (h : Nat.ble a b = true) : a ≤ b := Nat.le_of_ble_eq_true h
def zFU : Nat := 100000
def zoI (r : Except Nat Int32 × zM) : zO := match r with
  | (.ok v, g) => .inl (some (.int v), g)
  | (.error c, g) => .inr (c, g)
def zoU (r : Except Nat Unit × zM) : zO := match r with
  | (.ok _, g) => .inl (none, g)
  | (.error c, g) => .inr (c, g)
def zoR (E : zE) (r : Except Nat Nat × zM) : zO := match r with
  | (.ok v, g) => .inl (some (.ref (E.1 + v)), g)
  | (.error c, g) => .inr (c, g)
theorem zW.eqg {X : zX} {Q : State → Prop} {k n pc : Nat} {lv : List (Nat × Value)} {st : List Value} {g g1 : zM} (h : g = g1) (kk : zW X Q k n pc lv st g1) : zW X Q k n pc lv st g := by rw [h]; exact kk
theorem zrm_okd {R : Room} {D M d maxL mc k n : Nat} (hR : R = zrm D M) (h : (d < D ∧ maxL ≤ 21) ∧ k + mc ≤ M ∧ n + 6 * mc ≤ 6 * M) : zRm R d maxL mc k n := zrm_ok hR h
theorem zq_max_s : Cond.static Lib.Math.max.name ∈ zGW := zmem 1310 (by decide +kernel) (by decide +kernel)
theorem zq_min_s : Cond.static Lib.Math.min.name ∈ zGW := zmem 557 (by decide +kernel) (by decide +kernel)
theorem zq_max_c : Cond.code Lib.Math.max.name Lib.Math.max.code 2 (some .int) ∈ zGW := zmem 1311 (by decide +kernel) (by decide +kernel)
theorem zq_min_c : Cond.code Lib.Math.min.name Lib.Math.min.code 2 (some .int) ∈ zGW := zmem 558 (by decide +kernel) (by decide +kernel)
theorem zq_math_i : Cond.initialized "java/lang/Math" ∈ zGW := zmem 129 (by decide +kernel) (by decide +kernel)
theorem zq_ac_n : Cond.native arraycopyName ∈ zGW := zmem 516 (by decide +kernel) (by decide +kernel)
theorem zq_ac_s : Cond.static arraycopyName ∈ zGW := zmem 515 (by decide +kernel) (by decide +kernel)
theorem zq_ac_i : Cond.initialized "java/lang/System" ∈ zGW := zmem 128 (by decide +kernel) (by decide +kernel)
section ZP
variable {X : zX} {Q : State → Prop} {k n pc : Nat} {lv lv' : List (Nat × Value)} {st : List Value} {g : zM} {cc : ByteArray} {own : String}
theorem z_iincc (hX : zCX X cc own) {q : Nat} {i : Int} {x c : Int32} (hd : decode cc pc = .ok (.iinc q i, 3)) {nL : Nat} (hn : X.2.2.2.2.2.2.2.2.2.1.maxLocals = nL) (hq : q < nL) (pl : Nat) (hk0 : lv[pl]? = some (q, .int x)) (hc : Int32.ofInt i = c) (hl0 : (q, Value.int (x + c)) :: lv.filter (fun r => !(r.1 == q) && !(r.1 + 1 == q && r.2.category == 2)) = lv') (kk : zW X Q k n (pc + 3) lv' st g) : zW X Q k n pc lv st g := z_iinc hX hd hn hq pl hk0 (by rw [hc]) hl0 kk
theorem z_ldcs (hX : zCX X cc own) {index i : Nat} {tx : String} (hd : decode cc pc = .ok (.ldc index, 2)) (hi : zStr[i]? = some (own, index, tx)) (kk : zW X Q k n (pc + 2) lv (.ref ((zEE X).2.2.2.1 i) :: st) g) : zW X Q k n pc lv st g := fun H locs ls hP hS hl => va_ldcS hX.1 hX.2.1 hX.2.2.1 (hX.2.2.2.2.1.2.2.2.1 i _ hi) hd (kk H locs ls hP hS hl)
theorem z_same (hX : zCX X cc own) {C o f d : String} (hw : Cond.sameField C o f d ∈ zGW) : ∀ x, X.2.2.2.2.1.fieldFound? o f d = some x → X.2.2.2.2.1.fieldFound? C f d = some x := fun x h => u_same (hX.2.2.2.1 _ hw) x h
theorem z_max (hX : zCX X cc own) {D M : Nat} (hR : X.2.2.2.1 = zrm D M) (hkM : k ≤ M ∧ n ≤ 6 * M) {index : Nat} (hlink : Cond.methodLink own index Lib.Math.max.name ∈ zGW) {x y : Int32} (hd : decode cc pc = .ok (.invokestatic index, 3)) (hroom : (st.map fun v => v.category).sum ≤ 300) (kk : zW X Q k n (pc + 3) lv (.int (if x < y then y else x) :: st) g) : zW X Q k n pc lv (.int y :: .int x :: st) g := fun H locs ls hP hS hl => va_mmax hX.1 hX.2.1 hl.1.symm hX.2.2.1 (hX.2.2.2.1 _ hlink) (hX.2.2.2.1 _ zq_max_s) (hX.2.2.2.1 _ zq_math_i) (hX.2.2.2.1 _ zq_max_c) (by rw [hR]; show 1 ≤ D + 14; omega) (by rw [hR]; show _ + 13 ≤ 40 * D + 400; omega) (by rw [hR]; exact hkM.1) (by rw [hR]; exact hkM.2) hd (kk H locs ls hP hS hl)
theorem z_min (hX : zCX X cc own) {D M : Nat} (hR : X.2.2.2.1 = zrm D M) (hkM : k ≤ M ∧ n ≤ 6 * M) {index : Nat} (hlink : Cond.methodLink own index Lib.Math.min.name ∈ zGW) {x y : Int32} (hd : decode cc pc = .ok (.invokestatic index, 3)) (hroom : (st.map fun v => v.category).sum ≤ 300) (kk : zW X Q k n (pc + 3) lv (.int (if y < x then y else x) :: st) g) : zW X Q k n pc lv (.int y :: .int x :: st) g := fun H locs ls hP hS hl => va_mmin hX.1 hX.2.1 hl.1.symm hX.2.2.1 (hX.2.2.2.1 _ hlink) (hX.2.2.2.1 _ zq_min_s) (hX.2.2.2.1 _ zq_math_i) (hX.2.2.2.1 _ zq_min_c) (by rw [hR]; show 1 ≤ D + 14; omega) (by rw [hR]; show _ + 13 ≤ 40 * D + 400; omega) (by rw [hR]; exact hkM.1) (by rw [hR]; exact hkM.2) hd (kk H locs ls hP hS hl)
theorem zcopy_ne {g : zM} {a sp b dp n c : Nat} (h : c ≠ b) : zcopy g a sp b dp n c = g c := by
  funext j
  exact if_neg (fun q => h q.1)
theorem zcopy_eq {g : zM} {a sp b dp n : Nat} : zcopy g a sp b dp n b = va_cpy (g a) (g b) sp dp n := by
  funext j
  unfold zcopy va_cpy
  by_cases h : dp ≤ j ∧ j < dp + n
  · rw [if_pos ⟨rfl, h⟩, if_pos h]
  · rw [if_neg (fun q => h q.2), if_neg h]
theorem z_acp (hX : zCX X cc own) {D M : Nat} (hR : X.2.2.2.1 = zrm D M) {index : Nat} {a ca la b cb lb : Nat} (hka : zK a = ca) (h9 : ca ≠ 999) (hca : ∀ f, zcell (zEE X) ca a f = .inl ((zEE X).2.2.1 0, la, .inl f)) (hkb : zK b = cb) (h8 : cb ≠ 999) (hcb : ∀ f, zcell (zEE X) cb b f = .inl ((zEE X).2.2.1 0, lb, .inl f)) (hlink : Cond.methodLink own index arraycopyName ∈ zGW) {sp dp nn : Int32}
    (h : ¬ sp < 0 ∧ ¬ dp < 0 ∧ ¬ nn < 0 ∧ sp.toNatClampNeg + nn.toNatClampNeg ≤ la ∧ dp.toNatClampNeg + nn.toNatClampNeg ≤ lb) (hroom : (st.map fun v => v.category).sum ≤ 8) (hd : decode cc pc = .ok (.invokestatic index, 3))
    (kk : zW X Q k n (pc + 3) lv st (zcopy g a sp.toNatClampNeg b dp.toNatClampNeg nn.toNatClampNeg)) : zW X Q k n pc lv (.int nn :: .int dp :: .ref (zB X + b) :: .int sp :: .ref (zB X + a) :: st) g := fun H locs ls hP hS hl =>
  va_copyi (ty := .int) hX.1 hX.2.1 hl.1.symm hX.2.2.1 (hX.2.2.2.1 _ hlink) (hX.2.2.2.1 _ zq_ac_n) (hX.2.2.2.1 _ zq_ac_s) (hX.2.2.2.1 _ zq_ac_i) hX.2.2.2.2.1.1 hP.ws (zws_D _ _) hS a b 0 0 (by rw [zws_get (zK_lt hka h9), hka, hca]; rfl) (by rw [zws_get (zK_lt hkb h8), hkb, hcb]; rfl) rfl rfl rfl h.1 h.2.1 h.2.2.1 h.2.2.2.1 h.2.2.2.2 (fun _ _ => rfl) (by rw [hR]; show 1 ≤ D + 14; omega) (by
    rw [hR]
    have e : nativeFrameWords "java/lang/System" "arraycopy" 5 ≤ 100 := by decide +kernel
    show _ + (_ + 11) ≤ 40 * D + 400
    omega) hd (fun H1 locs1 hP1 hD1 hS1 => by
    have hP1 := zset_P (E := zEE X) (g' := zcopy g a sp.toNatClampNeg b dp.toNatClampNeg nn.toNatClampNeg) (by rw [hkb, zcopy_eq, hcb]) (fun c hc => zcopy_ne hc) hP1
    exact kk H1 locs1 ls (.of (zsize (A := fun _ => True) (H0 := H) (locs := []) hP hP1) hP1) hS1 hl)
end ZP
