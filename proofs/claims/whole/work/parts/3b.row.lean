/-! the log of the moves -/
theorem row_tab : ∀ i, i < 128 → ∀ j, j < 81 → s_X0_rowOf (nI (81 * i + j)) = some (nI (4 * ((81 * i + j) % 40))) := by decide +kernel
theorem C_row {m : Nat} (h : m < 10368) : s_X0_rowOf (nI m) = some (nI (4 * (m % 40))) := by
  have := row_tab (m / 81) (by omega) (m % 81) (by omega)
  rw [show 81 * (m / 81) + m % 81 = m from by omega] at this
  exact this
