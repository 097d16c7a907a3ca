/-! spans of rows -/
theorem span_ok : ∀ n, n < 65 → 1 ≤ n → f_X7_span 0 (nI n) = some (lN (2 ^ n - 1)) := by decide +kernel
