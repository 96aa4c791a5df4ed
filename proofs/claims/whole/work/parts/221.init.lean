def in_n : Nat → Nat := fun k => [4, 3, 0, 2, 0, 0, 0, 0, 0].getD k 0
def in_v : Nat → Nat → Nat := fun j _ => if j = 0 then 100 else 0
theorem Inv_init : Inv eb_Mall := by
  refine ⟨10, in_n, in_v, 0, fun _ => 0, fun _ => 0, 0, fun _ => 0, fun _ _ => 0, fun _ _ => 0, fun _ _ => 0, ?_, ?_, ?_, ?_⟩
  · refine ⟨Or.inl rfl, by decide +kernel, by decide +kernel, ?_, ?_, ?_, ?_, ?_, ?_⟩
    · refine ⟨by decide, by decide, by decide, by decide, by decide, by decide, by decide, by decide, by decide, fun k _ => by simp [in_v], fun k h => absurd h (Nat.not_lt_zero _), fun k h => absurd h (Nat.not_lt_zero _), fun k h => absurd h (Nat.not_lt_zero _), fun k h => absurd h (Nat.not_lt_zero _), fun k h => absurd h (Nat.not_lt_zero _)⟩
    · refine ⟨⟨by decide +kernel, by decide +kernel, by decide +kernel, by decide +kernel, by decide +kernel, by decide +kernel, by decide +kernel, by decide +kernel, by decide +kernel⟩, by decide +kernel, fun k h => absurd h (Nat.not_lt_zero _), fun k h => absurd h (Nat.not_lt_zero _), fun k h => absurd h (Nat.not_lt_zero _), fun s i j h => absurd h (Nat.not_lt_zero _), fun k h => absurd h (Nat.not_lt_zero _)⟩
    · refine ⟨⟨by decide +kernel, by decide +kernel, by decide +kernel, by decide +kernel, by decide +kernel, by decide +kernel, by decide +kernel, by decide +kernel, by decide +kernel⟩, by decide +kernel, fun k h => absurd h (Nat.not_lt_zero _), fun k h => absurd h (Nat.not_lt_zero _), fun k h => absurd h (Nat.not_lt_zero _), fun s i j h => absurd h (Nat.not_lt_zero _), fun k h => absurd h (Nat.not_lt_zero _)⟩
    · exact ⟨⟨by decide, fun t h => absurd h (Nat.not_lt_zero _)⟩, fun _ => rfl, fun h => absurd h (Nat.not_lt_zero _), fun t h => absurd h (Nat.not_lt_zero _), fun x h => absurd h (Nat.not_lt_zero _), fun _ x y h => absurd h (Nat.not_lt_zero _)⟩
    · exact ⟨by decide +kernel, fun t h => absurd h (Nat.not_lt_zero _)⟩
    · exact ⟨by decide +kernel, fun t h => absurd h (Nat.not_lt_zero _)⟩
  · exact ⟨by decide, by decide +kernel, by decide +kernel, fun k h => absurd h (Nat.not_lt_zero _), by decide +kernel, by decide +kernel⟩
  · refine ⟨⟨by decide, by decide, by decide, by decide, fun i h => absurd h (Nat.not_lt_zero _), fun i h => absurd h (Nat.not_lt_zero _), fun i h => absurd h (Nat.not_lt_zero _)⟩, ⟨⟨by decide +kernel, by decide +kernel, by decide +kernel, by decide +kernel⟩, fun i k h => absurd h (Nat.not_lt_zero _), fun i k h => absurd h (Nat.not_lt_zero _), fun i h => absurd h (Nat.not_lt_zero _)⟩, ⟨by decide +kernel, fun i k h => absurd h (Nat.not_lt_zero _), fun i k h => absurd h (Nat.not_lt_zero _), fun i k h => absurd h (Nat.not_lt_zero _)⟩, fun i h => absurd h (Nat.not_lt_zero _), fun i h => absurd h (Nat.not_lt_zero _), fun i h => absurd h (Nat.not_lt_zero _)⟩
  · intro j hj
    rcases (show j = 0 ∨ j = 1 ∨ j = 2 by omega) with rfl | rfl | rfl
    · exact Or.inl ⟨by decide +kernel, by decide +kernel⟩
    · exact Or.inl ⟨by decide +kernel, by decide +kernel⟩
    · exact Or.inl ⟨by decide +kernel, by decide +kernel⟩
