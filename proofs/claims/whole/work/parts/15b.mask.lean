/-! a fact of five places' bits -/
theorem v_mask : ∀ a, a < 128 → ∀ b, b < 256 → ∀ k, k < 5 → (256 * a + b) &&& (7 * 8 ^ k ^^^ 4294967295) = 256 * a + b - (256 * a + b) / 8 ^ k % 8 * 8 ^ k := by decide +kernel
