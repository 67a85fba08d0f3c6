/-! ===== hole densities: every quotient that can be ===== -/
section
def okD (x : UInt64) : Bool := Nat.beq x.toNat 0 || (Nat.ble (1003 * 2 ^ 52) x.toNat && Nat.ble x.toNat (1023 * 2 ^ 52))
def okF (x : UInt32) : Bool := Nat.beq x.toNat 0 || (Nat.ble (107 * 2 ^ 23) x.toNat && Nat.ble x.toNat (127 * 2 ^ 23))
theorem fd_t : ∀ i, i < 4 → ∀ h, h < i + 2 → ∀ p, p < 40 → okD (FP.ddiv (FP.ddiv (FP.i2d (nI h)) (FP.i2d (nI (i + 1)))) (FP.i2d (nI (p + 1)))) = true := by decide +kernel
end
