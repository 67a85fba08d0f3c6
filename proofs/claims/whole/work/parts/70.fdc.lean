/-! ===== hole densities: every quotient that can be ===== -/
section
def okD (x : UInt64) : Bool := Nat.beq x.toNat 0 || (Nat.ble (1003 * 2 ^ 52) x.toNat && Nat.ble x.toNat (1023 * 2 ^ 52))
def okF (x : UInt32) : Bool := Nat.beq x.toNat 0 || (Nat.ble (107 * 2 ^ 23) x.toNat && Nat.ble x.toNat (127 * 2 ^ 23))
theorem fd_okD : ∀ i, i < 40 → ∀ h, h < i + 2 → ∀ p, p < 40 → okD (FP.ddiv (FP.ddiv (FP.i2d (nI h)) (FP.i2d (nI (i + 1)))) (FP.i2d (nI (p + 1)))) = true := by decide +kernel
theorem fd_okF : ∀ i, i < 40 → ∀ h, h < i + 2 → ∀ p, p < 40 → okF (FP.fdiv (FP.fdiv (FP.i2f (nI h)) (FP.i2f (nI (i + 1)))) (FP.i2f (nI (p + 1)))) = true := by decide +kernel
theorem fd_nanD : ∀ i, i < 40 → ∀ h, h < i + 2 → FP.Core.dIsNaN (FP.ddiv (FP.i2d (nI h)) (FP.i2d (nI (i + 1)))) = false := by decide +kernel
theorem fd_nanF : ∀ i, i < 40 → ∀ h, h < i + 2 → FP.Core.fIsNaN (FP.fdiv (FP.i2f (nI h)) (FP.i2f (nI (i + 1)))) = false := by decide +kernel
theorem fd_eID {i h p : Nat} (hi : i < 40) (hh : h ≤ i + 1) (hp : p < 40) : dI (FP.ddiv (FP.ddiv (FP.i2d (nI h)) (FP.i2d (nI (i + 1)))) (FP.i2d (nI (p + 1)))) := by
  have h1 := fd_okD i hi h (by omega) p hp
  generalize FP.ddiv (FP.ddiv (FP.i2d (nI h)) (FP.i2d (nI (i + 1)))) (FP.i2d (nI (p + 1))) = x at *
  unfold okD at h1
  rw [Bool.or_eq_true, Bool.and_eq_true] at h1
  rcases h1 with h1 | ⟨h1, h2⟩
  · have e : x = 0 := UInt64.toNat_inj.mp (Nat.eq_of_beq_eq_true h1)
    rw [e]
    exact ⟨0, by rw [Nat.zero_mul]; exact dU_0, Nat.zero_le _⟩
  · have g1 := Nat.le_of_ble_eq_true h1
    have g2 := Nat.le_of_ble_eq_true h2
    have hU := dU_ofbits (a := x) (by omega)
    have hle : FP.Core.unitsOf FP.Core.b64 x.toNat ≤ 2 ^ 1074 := by
      have h3 := FP.Core.unitsOf_le_iff (f := FP.Core.b64) (m := x.toNat) (k := FP.dconst1.toNat)
      rw [dU_one.bits.2] at h3
      exact h3.mpr g2
    have hge : 2 ^ 52 ≤ FP.Core.unitsOf FP.Core.b64 x.toNat := by
      have h3 := FP.Core.unitsOf_le_iff (f := FP.Core.b64) (m := (4503599627370496 : UInt64).toNat) (k := x.toNat)
      rw [show FP.Core.unitsOf FP.Core.b64 (4503599627370496 : UInt64).toNat = 2 ^ 52 by decide +kernel] at h3
      exact h3.mpr (show 4503599627370496 ≤ x.toNat by omega)
    obtain ⟨E, T, e1, e2, e3, e4⟩ := dU_fields hU hge
    have hE : 1003 ≤ E := by omega
    have e5 : FP.Core.unitsOf FP.Core.b64 x.toNat = (2 ^ 52 + T) * 2 ^ (E - 1 - 900) * 2 ^ 900 := by
      rw [e4, Nat.mul_assoc, ← Nat.pow_add, show E - 1 - 900 + 900 = E - 1 by omega]
    rw [e5] at hU hle
    refine ⟨_, hU, ?_⟩
    rw [show 1074 = 174 + 900 from rfl, Nat.pow_add] at hle
    exact Nat.le_of_mul_le_mul_right hle (Nat.two_pow_pos 900)
theorem fU_one : fU FP.fconst1 (2 ^ 149) := ⟨2 ^ 23, 126, FP.Core.val32_fconst1, by rw [← Nat.pow_add], by decide, by omega⟩
theorem fd_eIF {i h p : Nat} (hi : i < 40) (hh : h ≤ i + 1) (hp : p < 40) : fI (FP.f2d (FP.fdiv (FP.fdiv (FP.i2f (nI h)) (FP.i2f (nI (i + 1)))) (FP.i2f (nI (p + 1))))) ∧ vf_n32 (FP.fdiv (FP.fdiv (FP.i2f (nI h)) (FP.i2f (nI (i + 1)))) (FP.i2f (nI (p + 1)))) := by
  have h1 := fd_okF i hi h (by omega) p hp
  generalize FP.fdiv (FP.fdiv (FP.i2f (nI h)) (FP.i2f (nI (i + 1)))) (FP.i2f (nI (p + 1))) = x at *
  unfold okF at h1
  rw [Bool.or_eq_true, Bool.and_eq_true] at h1
  rcases h1 with h1 | ⟨h1, h2⟩
  · have e : x = 0 := UInt32.toNat_inj.mp (Nat.eq_of_beq_eq_true h1)
    rw [e]
    have hz : fU 0 0 := ⟨0, 0, FP.Core.val32_zero.trans (by rw [b32_qmin]; rfl), rfl, by omega, by omega⟩
    exact ⟨⟨0, 0, rfl, by rw [Nat.zero_mul]; exact hz, Nat.zero_le _⟩, hz.vf⟩
  · have g1 := Nat.le_of_ble_eq_true h1
    have g2 := Nat.le_of_ble_eq_true h2
    have hU := fU_ofbits (a := x) (by omega)
    have hle : FP.Core.unitsOf FP.Core.b32 x.toNat ≤ 2 ^ 149 := by
      have h3 := FP.Core.unitsOf_le_iff (f := FP.Core.b32) (m := x.toNat) (k := FP.fconst1.toNat)
      rw [fU_one.bits.2] at h3
      exact h3.mpr g2
    have hge : 2 ^ 23 ≤ FP.Core.unitsOf FP.Core.b32 x.toNat := by
      have h3 := FP.Core.unitsOf_le_iff (f := FP.Core.b32) (m := (8388608 : UInt32).toNat) (k := x.toNat)
      rw [show FP.Core.unitsOf FP.Core.b32 (8388608 : UInt32).toNat = 2 ^ 23 by decide +kernel] at h3
      exact h3.mpr (show 8388608 ≤ x.toNat by omega)
    obtain ⟨E, T, e1, e2, e3, e4⟩ := fU_fields hU hge
    have hE : 107 ≤ E := by omega
    have e5 : FP.Core.unitsOf FP.Core.b32 x.toNat = (2 ^ 23 + T) * 2 ^ (E - 1 - 60) * 2 ^ 60 := by
      rw [e4, Nat.mul_assoc, ← Nat.pow_add, show E - 1 - 60 + 60 = E - 1 by omega]
    have hvf := hU.vf
    rw [e5] at hU hle
    refine ⟨⟨x, _, rfl, hU, ?_⟩, hvf⟩
    rw [show 149 = 89 + 60 from rfl, Nat.pow_add] at hle
    exact Nat.le_of_mul_le_mul_right hle (Nat.two_pow_pos 60)
end
