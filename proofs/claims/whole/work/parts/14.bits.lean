/-! BITS OF SMALL NUMBERS, case by case -/
theorem sh1 : ∀ v, v < 31 → nI 1 <<< (nI v &&& 31) = nI (2 ^ v) := by decide +kernel
theorem and_bit : ∀ v, v < 8 → ∀ x, x < 256 → nI x &&& nI (2 ^ v) = nI (if x.testBit v then 2 ^ v else 0) := by decide +kernel
theorem or_bit : ∀ v, v < 8 → ∀ x, x < 256 → nI x ||| nI (2 ^ v) = nI (x ||| 2 ^ v) ∧ x ||| 2 ^ v < 256 := by decide +kernel
theorem clr_bit : ∀ v, v < 8 → ∀ x, x < 256 → nI x &&& (nI (2 ^ v) ^^^ nI 4294967295) = nI (if x.testBit v then x - 2 ^ v else x) := by decide +kernel
