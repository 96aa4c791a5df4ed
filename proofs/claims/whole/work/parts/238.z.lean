/-- the palettes' last row stands for no second STUFF: nothing is taken there -/
def pn_Z (M : eM) : Prop := ∀ k, k < 3 → M.1 52 (135 + k) = 0 ∧ M.1 62 (135 + k) = 0
def InvZ (M : eM) : Prop := Inv M ∧ pn_Z M
theorem InvZ_init : InvZ eb_Mall := by
  refine ⟨Inv_init, fun k hk => ?_⟩
  rcases (show k = 0 ∨ k = 1 ∨ k = 2 by omega) with rfl | rfl | rfl
  · exact ⟨by decide +kernel, by decide +kernel⟩
  · exact ⟨by decide +kernel, by decide +kernel⟩
  · exact ⟨by decide +kernel, by decide +kernel⟩
