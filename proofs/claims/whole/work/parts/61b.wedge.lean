theorem sgW_anti : ∀ S, S < 64 → ∀ p, p < 6 → ∀ q, q < 6 → (S.testBit p = false ∨ S.testBit q = false ∨ p = q ∨ sgW p S * sgW q (S ^^^ 2 ^ p) = - (sgW q S * sgW p (S ^^^ 2 ^ q))) := by decide +kernel
