/-! THE CLASS: land -/
theorem clS.lg_swap (c : Int) : 13 - (13 - c) = c := by omega
theorem cty_o {c : Int} (h : cty c) : cty (13 - c) := by
  rcases h with rfl | rfl
  · exact Or.inr (by decide)
  · exact Or.inl (by decide)
theorem lgM.of {M N : aM} (h : lgM M) (e : ∀ j, N 21 j = M 21 j) : lgM N := fun w w0 w1 => by rw [e]; exact h w w0 w1
