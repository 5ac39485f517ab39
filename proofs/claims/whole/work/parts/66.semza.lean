/-! bits of twelve -/
theorem bc_4k0 : ∀ a, a < 16 → ∀ b, b < 256 → FJ6_bitCount_0f7a4 (nI (256 * a + b)) = some (nI (pc (nI (256 * a + b)))) := by decide +kernel
theorem bc_4k {j : Nat} (h : j < 4096) : FJ6_bitCount_0f7a4 (nI j) = some (nI (pc (nI j))) := by
  have := bc_4k0 (j / 256) (by omega) (j % 256) (by omega)
  rw [show 256 * (j / 256) + j % 256 = j by omega] at this
  exact this
