theorem zbn {v : Int32} (h : v = 0 ∨ v = 1) : narrow .boolean (.int v) = .int v := by rcases h with rfl | rfl <;> rfl
theorem zsw_out {x : Int32} {lo hi : Int} (h : ∀ v : Int, lo ≤ v → v ≤ hi → x = Int32.ofInt v → False) : x.toInt < lo ∨ hi < x.toInt := by
  by_cases h1 : x.toInt < lo
  · exact Or.inl h1
  · by_cases h2 : hi < x.toInt
    · exact Or.inr h2
    · exact (h x.toInt (by omega) (by omega) (by simp)).elim
section ZD
variable {X : zX} {Q : State → Prop} {k n pc : Nat} {lv lv' : List (Nat × Value)} {st rest : List Value} {g : zM} {cc : ByteArray} {own : String}
variable {y : MethodName} {bytes : ByteArray} {maxL d mc : Nat} {ret : Option FieldType} {o : zO} {As : List Value} {index : Nat}
theorem z_callV1 (hX : zCX X cc own) {v : Value} {g1 : zM} (hOK : zOK y bytes maxL ret As.length) (hlink : Cond.methodLink own index y ∈ zGW) (hinst : Cond.instanceMethod y ∈ zGW) (hsel : Cond.selects y.cls y y ∈ zGW) (hrm : zRm X.2.2.2.1 d maxL mc k n) {b : Nat} (hC : zCt y bytes maxL ret d mc (zEE X) (.ref b :: As) g (.inl (some v, g1)))
    (hrec : ∀ H, zPic (zEE X) g H → ∃ cellB : Cell, H[b]? = some cellB ∧ cellB.vm.isStatics = false ∧ X.2.2.2.2.1.vm.findClass y.cls = some cellB.cls) (hd : decode cc pc = .ok (.invokevirtual index, 3)) {st0 : List Value} (hst : st0 = As.reverse ++ .ref b :: rest) (hroom : Nat.ble ((rest.map fun v => v.category).sum) 8 = true)
    (kk : zW X Q (k + mc) (n + 6 * mc) (pc + 3) lv (v :: rest) g1) : zW X Q k n pc lv st0 g := z_callV hX hOK hlink hinst hsel hrm hC hrec (zl hroom) hd hst kk
theorem z_callV0 (hX : zCX X cc own) {g1 : zM} (hOK : zOK y bytes maxL ret As.length) (hlink : Cond.methodLink own index y ∈ zGW) (hinst : Cond.instanceMethod y ∈ zGW) (hsel : Cond.selects y.cls y y ∈ zGW) (hrm : zRm X.2.2.2.1 d maxL mc k n) {b : Nat} (hC : zCt y bytes maxL ret d mc (zEE X) (.ref b :: As) g (.inl (none, g1)))
    (hrec : ∀ H, zPic (zEE X) g H → ∃ cellB : Cell, H[b]? = some cellB ∧ cellB.vm.isStatics = false ∧ X.2.2.2.2.1.vm.findClass y.cls = some cellB.cls) (hd : decode cc pc = .ok (.invokevirtual index, 3)) {st0 : List Value} (hst : st0 = As.reverse ++ .ref b :: rest) (hroom : Nat.ble ((rest.map fun v => v.category).sum) 8 = true)
    (kk : zW X Q (k + mc) (n + 6 * mc) (pc + 3) lv rest g1) : zW X Q k n pc lv st0 g := z_callV hX hOK hlink hinst hsel hrm hC hrec (zl hroom) hd hst kk
theorem z_callS1 (hX : zCX X cc own) {v : Value} {g1 : zM} (hOK : zOK y bytes maxL ret As.length) (hown : y.cls = own) (hlink : Cond.methodLink own index y ∈ zGW) (hstat : Cond.static y ∈ zGW) (hrm : zRm X.2.2.2.1 d maxL mc k n) (hC : zCt y bytes maxL ret d mc (zEE X) As g (.inl (some v, g1)))
    (hd : decode cc pc = .ok (.invokestatic index, 3)) {st0 : List Value} (hst : st0 = As.reverse ++ rest) (hroom : Nat.ble ((rest.map fun v => v.category).sum) 8 = true)
    (kk : zW X Q (k + mc) (n + 6 * mc) (pc + 3) lv (v :: rest) g1) : zW X Q k n pc lv st0 g := z_callS hX hOK hown hlink hstat hrm hC (zl hroom) hd hst kk
theorem z_callS0 (hX : zCX X cc own) {g1 : zM} (hOK : zOK y bytes maxL ret As.length) (hown : y.cls = own) (hlink : Cond.methodLink own index y ∈ zGW) (hstat : Cond.static y ∈ zGW) (hrm : zRm X.2.2.2.1 d maxL mc k n) (hC : zCt y bytes maxL ret d mc (zEE X) As g (.inl (none, g1)))
    (hd : decode cc pc = .ok (.invokestatic index, 3)) {st0 : List Value} (hst : st0 = As.reverse ++ rest) (hroom : Nat.ble ((rest.map fun v => v.category).sum) 8 = true)
    (kk : zW X Q (k + mc) (n + 6 * mc) (pc + 3) lv rest g1) : zW X Q k n pc lv st0 g := z_callS hX hOK hown hlink hstat hrm hC (zl hroom) hd hst kk
theorem z_callV_x (hX : zCX X cc own) (hT : zNT X) {c M : Nat} {g1 : zM} (hOK : zOK y bytes maxL ret As.length) (hlink : Cond.methodLink own index y ∈ zGW) (hinst : Cond.instanceMethod y ∈ zGW) (hsel : Cond.selects y.cls y y ∈ zGW) (hrm : zRm X.2.2.2.1 d maxL mc k n) {b : Nat} (hC : zCt y bytes maxL ret d mc (zEE X) (.ref b :: As) g (.inr (c, g1)))
    (hrec : ∀ H, zPic (zEE X) g H → ∃ cellB : Cell, H[b]? = some cellB ∧ cellB.vm.isStatics = false ∧ X.2.2.2.2.1.vm.findClass y.cls = some cellB.cls) (hd : decode cc pc = .ok (.invokevirtual index, 3)) {st0 : List Value} (hst : st0 = As.reverse ++ .ref b :: rest) (hroom : Nat.ble ((rest.map fun v => v.category).sum) 8 = true)
    (h1 : k + mc ≤ M) (h2 : n + 6 * mc ≤ 6 * M) : zW X (zQ X (.inr (c, g1)) M) k n pc lv st0 g := z_callVx hX hT hOK hlink hinst hsel hrm hC hrec (zl hroom) hd hst h1 h2
theorem z_callS_x (hX : zCX X cc own) (hT : zNT X) {c M : Nat} {g1 : zM} (hOK : zOK y bytes maxL ret As.length) (hown : y.cls = own) (hlink : Cond.methodLink own index y ∈ zGW) (hstat : Cond.static y ∈ zGW) (hrm : zRm X.2.2.2.1 d maxL mc k n) (hC : zCt y bytes maxL ret d mc (zEE X) As g (.inr (c, g1)))
    (hd : decode cc pc = .ok (.invokestatic index, 3)) {st0 : List Value} (hst : st0 = As.reverse ++ rest) (hroom : Nat.ble ((rest.map fun v => v.category).sum) 8 = true)
    (h1 : k + mc ≤ M) (h2 : n + 6 * mc ≤ 6 * M) : zW X (zQ X (.inr (c, g1)) M) k n pc lv st0 g := z_callSx hX hT hOK hown hlink hstat hrm hC (zl hroom) hd hst h1 h2
theorem zCt.met {l : Launch} {E : zE} {av : List Value} {v : Option Value} {g1 : zM} (h : zCt y bytes maxL ret d mc E av g (.inl (v, g1))) (hl : l.stackTraces = false) : Met l y (.code y bytes maxL ret :: zGW) (zrm d mc) (zPc E g av) (zQc E (.inl (v, g1))) mc (6 * mc) (zA E) :=
  MetFree.mono (h l hl) (fun _ _ h => h) (fun _ _ _ _ _ h => h) (fun a st oc t _ hq => by
    rcases hq with hq | ⟨q, -, E9, ce, L, hx, -⟩
    · exact hq
    · exact absurd hx (fun h => h))
/-- a static method of a nest mate -/
theorem z_callSN1 (hX : zCX X cc own) {v : Value} {g1 : zM} {host : String} (hOK : zOK y bytes maxL ret As.length) (hlink : Cond.methodLinkNest own index y host ∈ zNW) (hstat : Cond.static y ∈ zGW) (hrm : zRm X.2.2.2.1 d maxL mc k n) (hC : zCt y bytes maxL ret d mc (zEE X) As g (.inl (some v, g1)))
    (hd : decode cc pc = .ok (.invokestatic index, 3)) {st0 : List Value} (hst : st0 = As.reverse ++ rest) (hroom : Nat.ble ((rest.map fun v => v.category).sum) 8 = true)
    (kk : zW X Q (k + mc) (n + 6 * mc) (pc + 3) lv (v :: rest) g1) : zW X Q k n pc lv st0 g := by
  intro H locs ls hP hS hl T hT Xs
  have hr := va_runSN (meth := X.2.2.2.2.2.2.2.2.1) (e := X.2.2.1) (below := X.2.2.2.2.2.2.2.1) (nL := X.2.2.2.2.2.2.2.2.2.1.maxLocals) (rm := zrm d mc) (g := F0 X.2.2.2.2.2.1 pc ls st0) (rest := rest) (H := H) (locs := locs) (cells := k) (slots := n) ⟨hX.1, hX.2.1, rfl, hX.2.2.1, hX.2.2.2.1⟩ (hC.met hX.2.2.2.2.2.1) ⟨va_cnB As.length hX.2.2.2.1 (zgood hOK.ws) rfl rfl rfl (hX.2.2.2.2.1.2.2.2.2.2.2.2.1 _ hlink) (hX.2.2.2.1 _ hOK.2.1) ⟨hOK.2.2.1, hOK.2.2.2.1, hOK.2.2.2.2⟩ hrm.1, hX.2.2.2.1 _ hstat, trivial⟩ ⟨zPc_blind, fun U hU hW => zPc_of hX.2.2.2.2.1 hP hS hU hW⟩ rfl rfl hl.1 hst (lv_room (zl hroom)) hd hrm.2
  obtain ⟨v', st₀, t, T', L, h0, X', hL, e1, e2, hq, stp⟩ := hr T hT Xs
  obtain ⟨hv, hpic, hF⟩ := hq
  cases hv
  obtain ⟨k1, k2, k3⟩ := vx_keep (A0 := zA (zEE X)) h0 e1 hS (fun q _ h => h) (fun q h => h) hL hF
  obtain ⟨t2, a1, b1⟩ := kk T'.heap (locs ++ L) ls (by rw [e1]; exact hpic) k3 hl T' rfl X'
  exact ⟨t2, stp t2 a1, b1⟩
theorem vx_ot_G {w : Cond} (h : w ∈ zGW ∨ w ∈ zNW) : vx_ot w = true := by
  unfold vx_ot
  rcases h with h | h
  · rw [(List.mem_filter.mp h).2, Bool.or_true]
  · have hn : zisN w = true := (List.mem_filter.mp h).2
    have : w.onTables = true := by cases w <;> first | rfl | exact absurd hn (by simp [zisN])
    rw [this, Bool.true_or]
theorem vx_at_G (hX : zCX X cc own) {w : Cond} (h : w ∈ zGW ∨ w ∈ zNW) : w.before X.2.2.2.2.2.2.1 X.2.2.2.2.1 = true := by
  rcases h with h | h
  · exact hX.2.2.2.1 _ h
  · have hn : zisN w = true := (List.mem_filter.mp h).2
    exact va_Nw.use (by cases w <;> first | rfl | exact absurd hn (by simp [zisN])) (hX.2.2.2.2.1.2.2.2.2.2.2.2.1 _ h)
def zXnames : List String := ["java/lang/RuntimeException", "java/lang/Exception"]
/-- the words of 'throw new E(text)' -/
def zAt (own cls : String) (ik ic : Nat) : Prop := Bundle.fit cls = true ∧ Cond.classLink own ik cls ∈ zGW ∧ Cond.initialized cls ∈ zGW ∧ ∀ w ∈ vx_atS own ic cls zXnames, w ∈ zGW ∨ w ∈ zNW
theorem zAt_of {own cls : String} {ik ic : Nat} (ps : List Nat) (h1 : Bundle.fit cls = true) (h2 : Cond.classLink own ik cls ∈ zGW) (h3 : Cond.initialized cls ∈ zGW) (hp : (vx_atS own ic cls zXnames).map some = ps.map (fun i => lw_tbl[i]?)) (h : (vx_atS own ic cls zXnames).all (fun w => goodWord w || zisN w) = true) : zAt own cls ik ic := by
  refine ⟨h1, h2, h3, fun w hw => ?_⟩
  have h5 : some w ∈ (vx_atS own ic cls zXnames).map some := List.mem_map.mpr ⟨w, hw, rfl⟩
  rw [hp] at h5
  obtain ⟨i, -, hi⟩ := List.mem_map.mp h5
  have hm : w ∈ lw_tbl := List.mem_of_getElem? hi
  have h6 := List.all_eq_true.mp h w hw
  rcases Bool.or_eq_true_iff.mp h6 with h7 | h7
  · exact Or.inl (List.mem_filter.mpr ⟨hm, h7⟩)
  · exact Or.inr (List.mem_filter.mpr ⟨hm, h7⟩)
theorem zAt_of2 {own cls : String} {ik ic : Nat} (h1 : Bundle.fit cls = true) (h2 : Cond.classLink own ik cls ∈ zGW) (h3 : Cond.initialized cls ∈ zGW) (h : (vx_atS own ic cls zXnames).all (fun w => decide (w ∈ lw_tbl) && (goodWord w || zisN w)) = true) : zAt own cls ik ic := by
  refine ⟨h1, h2, h3, fun w hw => ?_⟩
  have h6 := List.all_eq_true.mp h w hw
  rw [Bool.and_eq_true] at h6
  have hm : w ∈ lw_tbl := of_decide_eq_true h6.1
  rcases Bool.or_eq_true_iff.mp h6.2 with h7 | h7
  · exact Or.inl (List.mem_filter.mpr ⟨hm, h7⟩)
  · exact Or.inr (List.mem_filter.mpr ⟨hm, h7⟩)
theorem z_throw (hX : zCX X cc own) (hT : zNT X) {D M c ik is ic i : Nat} {tx : String} (hR : X.2.2.2.1 = zrm D M) (hA : zAt own (zXn c) ik ic) (hi : zStr[i]? = some (own, is, tx))
    (d0 : decode cc pc = .ok (.new ik, 3)) (d3 : decode cc (pc + 3) = .ok (.dup, 1)) (d4 : decode cc (pc + 4) = .ok (.ldc is, 2)) (d6 : decode cc (pc + 6) = .ok (.invokespecial ic, 3)) (d9 : decode cc (pc + 9) = .ok (.athrow, 1))
    (hroom : (st.map fun v => v.category).sum ≤ 8) (h1 : k + 1 ≤ M) (h2 : n + 6 ≤ 6 * M) (_h3 : 0 ≤ 0) : zW X (zQ X (.inr (c, g)) M) k n pc lv st g := fun H locs ls hP hS hl =>
  vx_throwS (names := zXnames) (A := zA (zEE X)) hX.1 hX.2.1 hX.2.2.2.2.2.1 hX.2.2.1 hA.1 (by decide) (hX.2.2.2.1 _ hA.2.1) (hX.2.2.2.1 _ hA.2.2.1) (hX.2.2.2.2.1.2.2.2.1 i _ hi) (fun w hw => vx_at_G hX (hA.2.2.2 w hw))
    (fun w hw => vx_ot_G ((List.mem_cons.mp hw).elim (fun e => by rw [e]; exact Or.inl hA.2.1) (fun hw => (List.mem_cons.mp hw).elim (fun e => by rw [e]; exact Or.inl hA.2.2.1) (hA.2.2.2 w))))
    hX.2.2.2.2.1.2.1 hX.2.2.2.2.1.2.2.1 hS hl.1 d0 d3 d4 d6 d9 (fun x hx => (hT x hx).elim) (by rw [hR]; show 2 + 3 < D + 14; omega) (by rw [hR]; show _ + (13 * (2 + 1) + 43) ≤ 40 * D + 400; omega) (by rw [hR]; exact h1) (by rw [hR]; exact h2) hX.2.2.2.2.2.2
    (fun t hvm hz hk => ⟨rfl, ⟨Nat.le_trans hP.1 hz, fun id hid => (hP.2 id hid).kept (hk _ (by have := hP.1; show (zEE X).1 + id < H.size; omega))⟩, ⟨Nat.le_trans hS.1 hz, fun q hq hA9 => by rw [hk q (Nat.lt_of_lt_of_le hq hS.1)]; exact hS.2.1 q hq hA9⟩⟩) hS.2.2 h1 h2
theorem z_throwW (hX : zCX X cc own) (hT : zNT X) {D M c ik is ic i : Nat} {tx : String} (hR : X.2.2.2.1 = zrm D M) (hA : zAt own (zXn c) ik ic) (hi : zStr[i]? = some (own, is, tx))
    (d0 : decode cc pc = .ok (.new ik, 3)) (d3 : decode cc (pc + 3) = .ok (.dup, 1)) (d4 : decode cc (pc + 4) = .ok (.ldc_w is, 3)) (d6 : decode cc (pc + 7) = .ok (.invokespecial ic, 3)) (d9 : decode cc (pc + 10) = .ok (.athrow, 1))
    (hroom : (st.map fun v => v.category).sum ≤ 8) (h1 : k + 1 ≤ M) (h2 : n + 6 ≤ 6 * M) (_h3 : 0 ≤ 0) : zW X (zQ X (.inr (c, g)) M) k n pc lv st g := fun H locs ls hP hS hl =>
  vx_throwSW (names := zXnames) (A := zA (zEE X)) hX.1 hX.2.1 hX.2.2.2.2.2.1 hX.2.2.1 hA.1 (by decide) (hX.2.2.2.1 _ hA.2.1) (hX.2.2.2.1 _ hA.2.2.1) (hX.2.2.2.2.1.2.2.2.1 i _ hi) (fun w hw => vx_at_G hX (hA.2.2.2 w hw))
    (fun w hw => vx_ot_G ((List.mem_cons.mp hw).elim (fun e => by rw [e]; exact Or.inl hA.2.1) (fun hw => (List.mem_cons.mp hw).elim (fun e => by rw [e]; exact Or.inl hA.2.2.1) (hA.2.2.2 w))))
    hX.2.2.2.2.1.2.1 hX.2.2.2.2.1.2.2.1 hS hl.1 d0 d3 d4 d6 d9 (fun x hx => (hT x hx).elim) (by rw [hR]; show 2 + 3 < D + 14; omega) (by rw [hR]; show _ + (13 * (2 + 1) + 43) ≤ 40 * D + 400; omega) (by rw [hR]; exact h1) (by rw [hR]; exact h2) hX.2.2.2.2.2.2
    (fun t hvm hz hk => ⟨rfl, ⟨Nat.le_trans hP.1 hz, fun id hid => (hP.2 id hid).kept (hk _ (by have := hP.1; show (zEE X).1 + id < H.size; omega))⟩, ⟨Nat.le_trans hS.1 hz, fun q hq hA9 => by rw [hk q (Nat.lt_of_lt_of_le hq hS.1)]; exact hS.2.1 q hq hA9⟩⟩) hS.2.2 h1 h2
end ZD
