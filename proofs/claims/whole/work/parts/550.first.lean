/-! the first state -/
def zB0 : zB' := (0, fun _ => (0, fun _ => 0, fun _ => 0, 0, 0, false, false), 0, 1, 0)
def zV0 : zWd := (zB0, (0, fun _ => 0, fun _ => 0, fun _ => 0, fun _ => 0, 0, false), fun _ => 3, 0, fun _ => 0, fun _ => 0, 0, 0)
def zS00 : zS := (0, fun _ => 0, -1, zV0, false, zV0, 0, fun _ => zB0)
theorem zS00_W : zSW zS00 := by
  have n0 : ∀ {i : Nat} {P : Prop}, i < 0 → P := fun h => absurd h (Nat.not_lt_zero _)
  exact ⟨Nat.zero_le _, fun i h => n0 h, ⟨⟨Nat.zero_le _, fun l h => n0 h⟩, ⟨Nat.zero_le _, Nat.zero_le _, fun i h => n0 h, fun _ => rfl⟩, Nat.zero_le _, Nat.zero_le _⟩, fun h => absurd h (by decide +kernel), Nat.zero_le _, fun j h => n0 h⟩
theorem zS00_C : zCI zS00 zg0 := by
  have n0 : ∀ {i : Nat} {P : Prop}, i < 0 → P := fun h => absurd h (Nat.not_lt_zero _)
  refine ⟨by decide +kernel, fun i h => n0 h, by decide +kernel, ⟨⟨by decide +kernel, fun l h => n0 h, by decide +kernel, by decide +kernel, by decide +kernel⟩, ⟨by decide +kernel, fun i h => n0 h, fun i h => n0 h, by decide +kernel, by decide +kernel⟩, fun k hk => rfl, by decide +kernel, fun p h => n0 h, by decide +kernel, by decide +kernel⟩, by decide +kernel, fun h => absurd h (by decide +kernel), ⟨0, by omega, by decide +kernel, fun j h => n0 h⟩, by decide +kernel, by decide +kernel, by decide +kernel⟩
theorem zS00_R : zRI zS00 zg0 := by
  have n0 : ∀ {i : Nat} {P : Prop}, i < 0 → P := fun h => absurd h (Nat.not_lt_zero _)
  refine ⟨by decide +kernel, fun i h => n0 h, by decide +kernel, ⟨⟨by decide +kernel, fun l h => n0 h, by decide +kernel, by decide +kernel, by decide +kernel⟩, ⟨by decide +kernel, fun h => absurd h (by decide +kernel), fun i h => n0 h, fun i h => n0 h⟩, fun k hk => ?_, by decide +kernel, fun p h => n0 h, by decide +kernel, by decide +kernel⟩, by decide +kernel, fun h => absurd h (by decide +kernel), by decide +kernel, fun j h => n0 h⟩
  show zg0 494 (8 + k) = 3
  unfold zg0
  rw [if_neg (by omega), if_pos rfl, if_neg (by omega), if_pos (by omega)]
