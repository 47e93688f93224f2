theorem pop_or : ∀ a : Nat, a < 256 → ∀ b, b < 256 → a &&& b = 0 → pop8 (a ||| b) = pop8 a + pop8 b := by decide +kernel
