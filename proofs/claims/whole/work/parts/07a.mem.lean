def zws (E : zE) (g : zM) : va_W := (List.range 509).map (fun id => (E.1 + id, zcell E (zK id) id (g id)))
theorem zws_get {E : zE} {g : zM} {id : Nat} (h : id < 509) : (zws E g)[id]? = some (E.1 + id, zcell E (zK id) id (g id)) := by
  unfold zws
  rw [List.getElem?_map, List.getElem?_range h]
  rfl
theorem zws_at {E : zE} {g : zM} {k : Nat} {q : Nat × va_E} (h : (zws E g)[k]? = some q) : k < 509 ∧ q = (E.1 + k, zcell E (zK k) k (g k)) := by
  have hlt : k < 509 := by
    have h1 := (List.getElem?_eq_some_iff.mp h).1
    unfold zws at h1
    rw [List.length_map, List.length_range] at h1
    exact h1
  rw [zws_get hlt] at h
  exact ⟨hlt, (Option.some.inj h).symm⟩
theorem zws_D (E : zE) (g : zM) : va_D (zA E) (zws E g) := by
  refine ⟨fun i j p q hi hj e => ?_, fun k q hk => ?_⟩
  · rw [(zws_at hi).2, (zws_at hj).2] at e
    dsimp only at e
    omega
  · rw [(zws_at hk).2]
    exact Nat.le_add_right _ _
theorem zPic.ws {E : zE} {g : zM} {H : Heap} (h : zPic E g H) : va_P E.2.1 vwCl (zws E g) H := fun k q hk => by
  obtain ⟨h1, h2⟩ := zws_at hk
  rw [h2]
  exact h.2 k h1
theorem zPic.of {E : zE} {g : zM} {H : Heap} (hs : E.1 + 509 ≤ H.size) (h : va_P E.2.1 vwCl (zws E g) H) : zPic E g H := ⟨hs, fun id hid => h id _ (zws_get hid)⟩
theorem zws_set {E : zE} {g g' : zM} {a : Nat} {x : va_E} (hx : zcell E (zK a) a (g' a) = x) (ho : ∀ b, b ≠ a → g' b = g b) : (zws E g).set a (E.1 + a, x) = zws E g' := by
  subst hx
  apply List.ext_getElem?
  intro i
  rw [List.getElem?_set]
  by_cases hia : a = i
  · subst hia
    rw [if_pos rfl]
    by_cases hl : a < 509
    · rw [if_pos (by unfold zws; rw [List.length_map, List.length_range]; exact hl), zws_get hl]
    · rw [if_neg (by unfold zws; rw [List.length_map, List.length_range]; exact hl)]
      symm
      apply List.getElem?_eq_none
      unfold zws
      rw [List.length_map, List.length_range]
      omega
  · rw [if_neg hia]
    by_cases hl : i < 509
    · rw [zws_get hl, zws_get hl, ho i (fun h => hia h.symm)]
    · have e1 : (zws E g)[i]? = none := List.getElem?_eq_none (by unfold zws; rw [List.length_map, List.length_range]; omega)
      have e2 : (zws E g')[i]? = none := List.getElem?_eq_none (by unfold zws; rw [List.length_map, List.length_range]; omega)
      rw [e1, e2]
theorem zset_ne {g : zM} {a k b : Nat} {v : Int32} (h : b ≠ a) : zset g a k v b = g b := by
  funext j
  exact if_neg (fun q => h q.1)
theorem zset_eq {g : zM} {a k : Nat} {v : Int32} : zset g a k v a = upd (g a) k v := by
  funext j
  unfold zset upd
  by_cases h : j = k
  · rw [if_pos ⟨rfl, h⟩, if_pos h]
  · rw [if_neg (fun q => h q.2), if_neg h]
theorem zsize {A : Nat → Prop} {E : zE} {H0 H H1 : Heap} {locs : List Loc} {g g' : zM} (hP : zPic E g H) (h : va_P E.2.1 vwCl (zws E g') H1) : E.1 + 509 ≤ H1.size := by
  have key : ∀ i, i < 509 → E.1 + i < H1.size := fun i hi => (h i _ (zws_get hi)).lt
  have h2 := key (E.1 + 508 - E.1) (by omega)
  omega
theorem zset_P {E : zE} {g g' : zM} {a : Nat} {x : va_E} {H1 : Heap} (hx : zcell E (zK a) a (g' a) = x) (ho : ∀ b, b ≠ a → g' b = g b) (h : va_P E.2.1 vwCl ((zws E g).set a (E.1 + a, x)) H1) : va_P E.2.1 vwCl (zws E g') H1 := by
  rw [zws_set hx ho] at h
  exact h
theorem zmem {w : Cond} (i : Nat) (h : lw_tbl[i]? = some w) (hg : goodWord w = true) : w ∈ zGW := List.mem_filter.mpr ⟨List.mem_of_getElem? h, hg⟩
theorem zin_of {ws : List Cond} (ps : List Nat) (hp : ws = ps.filterMap (fun i => lw_tbl[i]?)) (h : ws.all goodWord = true) : ∀ w ∈ ws, w ∈ zGW := by
  intro w hw
  have h1 := List.all_eq_true.mp h w hw
  rw [hp] at hw
  obtain ⟨i, -, hi⟩ := List.mem_filterMap.mp hw
  exact zmem i hi h1
theorem znmem {w : Cond} (i : Nat) (h : lw_tbl[i]? = some w) (hg : zisN w = true) : w ∈ zNW := List.mem_filter.mpr ⟨List.mem_of_getElem? h, hg⟩
theorem zin_Bag : ∀ w ∈ u_ws RX0 TX0 5, w ∈ zGW := zin_of [224, 226, 228, 230, 232] (by decide +kernel) (by decide +kernel)
theorem zin_Law : ∀ w ∈ u_ws RX1 TX1 9, w ∈ zGW := zin_of [252, 254, 256, 258, 260, 262, 264, 266, 268] (by decide +kernel) (by decide +kernel)
theorem zin_LawReader : ∀ w ∈ u_ws RX2 TX2 2, w ∈ zGW := zin_of [393, 391] (by decide +kernel) (by decide +kernel)
theorem zin_Mail : ∀ w ∈ u_ws RX3 TX3 7, w ∈ zGW := zin_of [195, 197, 199, 201, 203, 205, 207] (by decide +kernel) (by decide +kernel)
theorem zin_Memory : ∀ w ∈ u_ws RX4 TX4 3, w ∈ zGW := zin_of [317, 319, 321] (by decide +kernel) (by decide +kernel)
theorem zin_PostReader : ∀ w ∈ u_ws RX5 TX5 2, w ∈ zGW := zin_of [378, 376] (by decide +kernel) (by decide +kernel)
theorem zin_Shelving : ∀ w ∈ u_ws RX6 TX6 3, w ∈ zGW := zin_of [427, 429, 431] (by decide +kernel) (by decide +kernel)
theorem zin_Sight : ∀ w ∈ u_ws RX7 TX7 3, w ∈ zGW := zin_of [409, 411, 413] (by decide +kernel) (by decide +kernel)
theorem zin_Tokens : ∀ w ∈ u_ws RX9 TX9 8, w ∈ zGW := zin_of [348, 350, 352, 354, 356, 358, 360, 362] (by decide +kernel) (by decide +kernel)
theorem zin_World : ∀ w ∈ u_ws RX10 TX10 8, w ∈ zGW := zin_of [287, 289, 291, 293, 295, 297, 299, 301] (by decide +kernel) (by decide +kernel)
theorem zin_Post : ∀ w ∈ u_ws RX11 TX11 15, w ∈ zGW := zin_of [451, 453, 455, 457, 459, 461, 463, 465, 467, 469, 471, 473, 475, 477, 479] (by decide +kernel) (by decide +kernel)
theorem zin_Model : ∀ w ∈ u_ws RX12 TX12 30, w ∈ zGW := zin_of [1524, 1526, 1528, 1530, 1532, 1534, 1536, 1538, 1540, 1542, 1544, 1546, 1548, 1550, 1552, 1554, 1556, 1558, 1560, 1562, 1564, 1566, 1568, 1570, 1572, 1574, 1576, 1578, 1580, 1582] (by decide +kernel) (by decide +kernel)
