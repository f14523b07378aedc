/-! PURE: shares, decided one by one -/
def shV (t n : Nat) : UInt64 := FP.ddiv (FP.i2d (nI t)) (FP.i2d (6 * nI n))
def shOk (t n : Nat) : Bool := zn64 (shV t n) && (fX6_bitsOfShare (shV t n)).isSome
theorem shOk_all : ∀ n, n < 20 → ∀ t, t < 193 → shOk t (n + 1) = true := by decide +kernel
