/-! a WORD, as the reference asks for it -/
/-- the reference's string s is the word i of the class -/
def zWs (s i : Nat) : Prop := i < 19 ∧ fStr_length s = some (nI (zwe i - zst i)) ∧ ∀ j, j < zwe i - zst i → fStr_charAt s (nI j) = some (nI (zwc (zst i + j)))
theorem zsb_eq {x c : Nat} (hx : x < 256) (hc : c < 128) : zsb x = nI c ↔ x = c := by
  rcases Nat.lt_or_ge x 128 with q | q
  · rw [zsb_lo x q, nI_eq (by omega) (by omega)]
  · have h0 := zsb_hi x hx q
    constructor
    · intro h
      rw [h, Int32.lt_iff_toInt_lt, nI_toInt (by omega)] at h0
      have z : (0 : Int32).toInt = 0 := by decide
      omega
    · intro h; omega
theorem r_isWord_0 {g : zM} {s : Nat} {v : Int32} {m : Nat} : fX12_isWord_L24 s g (m + 1) 0 v = some 0 := by
  rw [fX12_isWord_L24, if_pos rfl]
  exact zbo_0
theorem r_isWord {g : zM} {n : Nat} {b : Nat → Nat} (hT : zTW n b) (e : zTR g n b) {t u : Nat} (ht : g 493 12 = nI t) (hu : g 493 10 = nI u) (h1 : t ≤ u) (h2 : u ≤ n) {s i : Nat} (hs : zWs s i) : fX12_isWord s g = some (if zwm b t (u - t) i = true then 1 else 0) := by
  have h4 := hT.1
  obtain ⟨hi, hl, hc⟩ := hs
  have hr := w_row i hi
  unfold fX12_isWord
  rw [hl, zb_s, ht, hu, show nI u - nI t = nI (u - t) from pk_sub h1]
  by_cases q : u - t = zwe i - zst i
  · rw [if_pos (by rw [q])]
    have hz : zwm b t (u - t) i = (zff (zkm b (zst i) t) (zwe i - zst i)).isNone := by
      unfold zwm
      rw [q]
      simp
    rw [hz]
    refine zL_Q0 (fun m j (x : Int32) => fX12_isWord_L24 s g m x (nI j)) (fun j x => (x = 1 ∧ ∀ k, k < j → zkm b (zst i) t k = false) ∨ (x = 0 ∧ (zff (zkm b (zst i) t) (zwe i - zst i)).isNone = false)) (zwe i - zst i) (fun r => r = some (if (zff (zkm b (zst i) t) (zwe i - zst i)).isNone = true then 1 else 0)) 1 (by omega) (Or.inl ⟨rfl, fun k hk => absurd hk (Nat.not_lt_zero _)⟩) (fun m j x hj hh => ?_) (fun m x hh => ?_)
    · have hb := hT.2 (t + j) (by omega)
      have hw := w_128 (zst i + j) (by omega)
      rcases hh with ⟨rfl, hh⟩ | ⟨rfl, hh⟩
      · right
        have base : fX12_isWord_L24 s g (m + 1) 1 (nI j) = if b (t + j) = zwc (zst i + j) then fX12_isWord_L24 s g m 1 (nI (j + 1)) else fX12_isWord_L24 s g m 0 (nI (j + 1)) := by
          rw [fX12_isWord_L24, if_neg (by decide), hl, zb_s, if_neg (by rw [nI_leI (by omega) (by omega)]; omega), ht, nI_add, zchk_n (by omega) (by omega), hc j hj, zb_s, nI_cl (by omega), e.2 _ (by omega), nI_1]
          by_cases q2 : b (t + j) = zwc (zst i + j)
          · rw [if_pos ((zsb_eq hb hw).mpr q2), if_pos q2]
          · rw [if_neg (fun h => q2 ((zsb_eq hb hw).mp h)), if_neg q2]
        by_cases q2 : b (t + j) = zwc (zst i + j)
        · refine ⟨1, Or.inl ⟨rfl, fun k hk => ?_⟩, ?_⟩
          · by_cases q3 : k = j
            · subst q3; unfold zkm; simp [q2]
            · exact hh k (by omega)
          · show fX12_isWord_L24 s g (m + 1) 1 (nI j) = _
            rw [base, if_pos q2]
        · refine ⟨0, Or.inr ⟨rfl, ?_⟩, ?_⟩
          · rw [zff_some hj hh (by unfold zkm; simp only [decide_eq_true_eq]; exact fun h => q2 h.symm)]
            rfl
          · show fX12_isWord_L24 s g (m + 1) 1 (nI j) = _
            rw [base, if_neg q2]
      · left
        show fX12_isWord_L24 s g (m + 1) 0 (nI j) = _
        rw [r_isWord_0, hh]
        rfl
    · rcases hh with ⟨rfl, hh⟩ | ⟨rfl, hh⟩
      · show fX12_isWord_L24 s g (m + 1) 1 (nI (zwe i - zst i)) = _
        rw [fX12_isWord_L24, if_neg (by decide), hl, zb_s, if_pos (Int32.le_refl _), zff_none hh]
        exact zbo_1
      · show fX12_isWord_L24 s g (m + 1) 0 (nI (zwe i - zst i)) = _
        rw [r_isWord_0, hh]
        rfl
  · rw [if_neg (by rw [nI_eq (by omega) (by omega)]; exact q)]
    refine (r_isWord_0 (m := 99999)).trans ?_
    have hz : zwm b t (u - t) i = false := by
      unfold zwm
      rw [decide_eq_false (fun h => q h.symm)]
      rfl
    rw [hz]
    rfl
