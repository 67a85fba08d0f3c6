/-! ===== doubles: a finite number of sign + in units of the least one ===== -/
section
/-- a is c * 2^i units (of 2^-1074) -/
def dU (a : UInt64) (n : Nat) : Prop := ∃ (c i : Nat), FP.Core.val64 a = .fin false c (-1074 + (i : Int)) ∧ n = c * 2 ^ i ∧ c < 2 ^ 53 ∧ i ≤ 2045
/-- a number that a double can be -/
def dR (n : Nat) : Prop := ∃ (c i : Nat), n = c * 2 ^ i ∧ c < 2 ^ 53 ∧ i ≤ 2045
theorem dU.rep {a : UInt64} {n : Nat} (h : dU a n) : dR n := by
  obtain ⟨c, i, h1, h2, h3, h4⟩ := h
  exact ⟨c, i, h2, h3, h4⟩
theorem b64_qmin : FP.Core.b64.qmin = -1074 := FP.Core.qmin_b64
theorem b64_qmax : FP.Core.b64.qmax = 971 := by decide
theorem b64_p : FP.Core.b64.p = 53 := rfl
theorem dU_of {a : UInt64} {c : Nat} {q : Int} (h : FP.Core.val64 a = .fin false c q) : dU a (c * 2 ^ (q + 1074).toNat) := by
  have hf := FP.Core.val64_fits a
  rw [h] at hf
  obtain ⟨f1, f2, f3, -⟩ := hf
  rw [b64_qmin] at f2
  rw [b64_qmax] at f3
  refine ⟨c, (q + 1074).toNat, ?_, rfl, f1, by omega⟩
  rw [h, show -1074 + ((q + 1074).toNat : Int) = q by omega]
theorem dU.ne {a : UInt64} {n : Nat} (h : dU a n) : FP.Core.val64 a ≠ .nan := by
  obtain ⟨c, i, h1, -⟩ := h
  rw [h1]
  exact FP.Core.Datum.noConfusion
theorem dU.zm {a : UInt64} {n : Nat} (h : dU a n) : FP.Core.zmag FP.Core.b64 (FP.Core.val64 a) = n ∧ FP.Core.sgn (FP.Core.val64 a) = false := by
  obtain ⟨c, i, h1, h2, -⟩ := h
  rw [h1, h2]
  refine ⟨?_, rfl⟩
  show c * 2 ^ (-1074 + (i : Int) - FP.Core.b64.qmin).toNat = _
  rw [b64_qmin, show (-1074 + (i : Int) - -1074).toNat = i by omega]
theorem dU.bits {a : UInt64} {n : Nat} (h : dU a n) : a.toNat < 2 ^ 63 ∧ FP.Core.unitsOf FP.Core.b64 a.toNat = n := by
  have h1 := FP.Core.sgn_bits h.ne
  rw [h.zm.2] at h1
  have h2 : a.toNat < 2 ^ 63 := by
    have : ¬ 2 ^ 63 ≤ a.toNat := fun z => by
      rw [decide_eq_true z] at h1
      cases h1
    omega
  have h3 := FP.Core.zmag_bits h.ne
  rw [h.zm.1, Nat.mod_eq_of_lt h2] at h3
  exact ⟨h2, h3.symm⟩
theorem dU.inj {a b : UInt64} {n : Nat} (h : dU a n) (k : dU b n) : a = b := by
  have h1 := h.bits.2.trans k.bits.2.symm
  have h2 := FP.Core.unitsOf_le_iff (f := FP.Core.b64) (m := a.toNat) (k := b.toNat)
  have h3 := FP.Core.unitsOf_le_iff (f := FP.Core.b64) (m := b.toNat) (k := a.toNat)
  exact UInt64.toNat_inj.mp (by omega)
theorem dU.uniq {a : UInt64} {n m : Nat} (h : dU a n) (k : dU a m) : n = m := h.zm.1.symm.trans k.zm.1
theorem vf_of {a : UInt64} (h : FP.Core.val64 a ≠ .nan) : vf_n64 a := by
  unfold vf_n64
  rw [UInt64.le_iff_toNat_le]
  exact Nat.le_trans (Nat.le_of_eq (FP.Core.mask_toNat a)) ((FP.Core.ne_nan a).mp h)
theorem dU.vf {a : UInt64} {n : Nat} (h : dU a n) : vf_n64 a := vf_of h.ne
theorem dU_ratio {x : UInt64} {A B n i j : Nat} (hx : FP.Core.val64 x = FP.Core.roundRatio FP.Core.b64 false A B (-1074 + (i : Int) - (j : Int))) (hB : 0 < B) (hv : A * 2 ^ i = n * B * 2 ^ j) (hr : dR n) : dU x n := by
  obtain ⟨C, K, hn, hC, hK⟩ := hr
  have e : FP.Core.roundRatio FP.Core.b64 false A B (-1074 + (i : Int) - (j : Int)) = FP.Core.roundRatio FP.Core.b64 false C 1 (-1074 + (K : Int)) := by
    refine FP.Core.roundRatio_congr hB (by decide) ?_
    rw [hn] at hv
    rw [Nat.mul_one]
    by_cases hc : j + K ≤ i
    · rw [show (-1074 + (i : Int) - (j : Int) - (-1074 + (K : Int))).toNat = i - (j + K) by omega, show (-1074 + (K : Int) - (-1074 + (i : Int) - (j : Int))).toNat = 0 by omega, Nat.pow_zero, Nat.mul_one]
      refine Nat.eq_of_mul_eq_mul_right (Nat.two_pow_pos (j + K)) ?_
      rw [Nat.mul_assoc, ← Nat.pow_add, show i - (j + K) + (j + K) = i by omega, hv, Nat.pow_add]
      ac_rfl
    · rw [show (-1074 + (i : Int) - (j : Int) - (-1074 + (K : Int))).toNat = 0 by omega, show (-1074 + (K : Int) - (-1074 + (i : Int) - (j : Int))).toNat = j + K - i by omega, Nat.pow_zero, Nat.mul_one]
      refine Nat.eq_of_mul_eq_mul_right (Nat.two_pow_pos i) ?_
      rw [hv, Nat.mul_assoc (C * B), ← Nat.pow_add, show j + K - i + i = j + K by omega, Nat.pow_add]
      ac_rfl
  obtain ⟨c', q', h1, h2⟩ := FP.Core.round_exact FP.Core.good_b64 false (c := C) (q := -1074 + (K : Int)) hC (by rw [b64_qmin]; omega) (by rw [b64_qmax]; omega)
  have h1' : FP.Core.roundRatio FP.Core.b64 false C 1 (-1074 + (K : Int)) = .fin false c' q' := h1
  have h3 := dU_of (hx.trans (e.trans h1'))
  have h2' : c' * 2 ^ (q' - FP.Core.b64.qmin).toNat = C * 2 ^ (-1074 + (K : Int) - FP.Core.b64.qmin).toNat := h2
  rw [b64_qmin, show (-1074 + (K : Int) - -1074).toNat = K by omega, show (q' - -1074) = q' + 1074 by omega] at h2'
  rw [h2', ← hn] at h3
  exact h3
theorem dU_cmp {a b : UInt64} {n m : Nat} (ha : dU a n) (hb : dU b m) : FP.dcmp a b = some (compare (n : Int) (m : Int)) := by
  have h := FP.Core.dcmp_zval ha.ne hb.ne
  unfold FP.Core.zval at h
  rw [ha.zm.1, ha.zm.2, hb.zm.1, hb.zm.2] at h
  exact h
theorem dU_0 : dU 0 0 := ⟨0, 0, FP.Core.val64_zero.trans (by rw [b64_qmin]; rfl), rfl, by omega, by omega⟩
theorem dU_one : dU FP.dconst1 (2 ^ 1074) := ⟨2 ^ 52, 1022, FP.Core.val64_dconst1, by rw [← Nat.pow_add], by decide, by omega⟩
theorem two_val : FP.Core.val64 4611686018427387904 = .fin false (2 ^ 52) (-51) := by decide +kernel
theorem cast_sum (v : Int) (X : Nat) (h : v = (X : Int)) : v.natAbs = X := by omega
theorem dU_add {a b : UInt64} {n m : Nat} (ha : dU a n) (hb : dU b m) (hr : dR (n + m)) : dU (FP.dadd a b) (n + m) := by
  obtain ⟨c, i, a1, a2, a3, a4⟩ := ha
  obtain ⟨d, k, b1, b2, b3, b4⟩ := hb
  have hv : FP.Core.sumUnits false c (-1074 + (i : Int)) false d (-1074 + (k : Int)) (-1074 + ((min i k : Nat) : Int)) = ((c * 2 ^ (i - min i k) + d * 2 ^ (k - min i k) : Nat) : Int) := by
    unfold FP.Core.sumUnits FP.Core.signed FP.Core.inUnits
    rw [show (-1074 + (i : Int) - (-1074 + ((min i k : Nat) : Int))).toNat = i - min i k by omega, show (-1074 + (k : Int) - (-1074 + ((min i k : Nat) : Int))).toNat = k - min i k by omega]
    simp
  have hs : FP.Core.sumSign false false ((c * 2 ^ (i - min i k) + d * 2 ^ (k - min i k) : Nat) : Int) = false := by
    unfold FP.Core.sumSign
    split
    · rfl
    · exact decide_eq_false (by omega)
  have e : FP.Core.val64 (FP.dadd a b) = FP.Core.roundRatio FP.Core.b64 false (c * 2 ^ (i - min i k) + d * 2 ^ (k - min i k)) 1 (-1074 + ((min i k : Nat) : Int) - ((0 : Nat) : Int)) := by
    have h := FP.Core.val64_dadd a b
    rw [a1, b1] at h
    simp only [FP.Core.exactSum] at h
    rw [show min (-1074 + (i : Int)) (-1074 + (k : Int)) = -1074 + ((min i k : Nat) : Int) by omega, hv, hs, cast_sum _ _ rfl] at h
    rw [show (-1074 + ((min i k : Nat) : Int) - ((0 : Nat) : Int)) = -1074 + ((min i k : Nat) : Int) by omega]
    exact h
  refine dU_ratio e (by decide) ?_ hr
  rw [Nat.add_mul, Nat.mul_assoc, ← Nat.pow_add, Nat.mul_assoc, ← Nat.pow_add, show i - min i k + min i k = i by omega, show k - min i k + min i k = k by omega, a2, b2]
  simp
theorem dU_sub {a b : UInt64} {n m : Nat} (ha : dU a n) (hb : dU b m) (hle : m ≤ n) (hr : dR (n - m)) : dU (FP.dsub a b) (n - m) := by
  obtain ⟨c, i, a1, a2, a3, a4⟩ := ha
  obtain ⟨d, k, b1, b2, b3, b4⟩ := hb
  have hle2 : d * 2 ^ (k - min i k) ≤ c * 2 ^ (i - min i k) := by
    refine Nat.le_of_mul_le_mul_right ?_ (Nat.two_pow_pos (min i k))
    rw [Nat.mul_assoc, ← Nat.pow_add, Nat.mul_assoc, ← Nat.pow_add, show i - min i k + min i k = i by omega, show k - min i k + min i k = k by omega]
    omega
  have hv : FP.Core.sumUnits false c (-1074 + (i : Int)) true d (-1074 + (k : Int)) (-1074 + ((min i k : Nat) : Int)) = ((c * 2 ^ (i - min i k) - d * 2 ^ (k - min i k) : Nat) : Int) := by
    unfold FP.Core.sumUnits FP.Core.signed FP.Core.inUnits
    rw [show (-1074 + (i : Int) - (-1074 + ((min i k : Nat) : Int))).toNat = i - min i k by omega, show (-1074 + (k : Int) - (-1074 + ((min i k : Nat) : Int))).toNat = k - min i k by omega]
    generalize c * 2 ^ (i - min i k) = X at *
    generalize d * 2 ^ (k - min i k) = Y at *
    show (X : Int) + -(Y : Int) = _
    omega
  have hs : FP.Core.sumSign false true ((c * 2 ^ (i - min i k) - d * 2 ^ (k - min i k) : Nat) : Int) = false := by
    unfold FP.Core.sumSign
    split
    · rfl
    · exact decide_eq_false (by omega)
  have e : FP.Core.val64 (FP.dsub a b) = FP.Core.roundRatio FP.Core.b64 false (c * 2 ^ (i - min i k) - d * 2 ^ (k - min i k)) 1 (-1074 + ((min i k : Nat) : Int) - ((0 : Nat) : Int)) := by
    have h := FP.Core.val64_dsub a b
    rw [a1, b1] at h
    simp only [FP.Core.negate, FP.Core.exactSum, Bool.not_false] at h
    rw [show min (-1074 + (i : Int)) (-1074 + (k : Int)) = -1074 + ((min i k : Nat) : Int) by omega, hv, hs, cast_sum _ _ rfl] at h
    rw [show (-1074 + ((min i k : Nat) : Int) - ((0 : Nat) : Int)) = -1074 + ((min i k : Nat) : Int) by omega]
    exact h
  refine dU_ratio e (by decide) ?_ hr
  rw [Nat.sub_mul, Nat.mul_assoc, ← Nat.pow_add, Nat.mul_assoc, ← Nat.pow_add, show i - min i k + min i k = i by omega, show k - min i k + min i k = k by omega, a2, b2]
  simp
theorem dU_mul2 {a : UInt64} {n : Nat} (ha : dU a n) (hr : dR (2 * n)) : dU (FP.dmul a 4611686018427387904) (2 * n) := by
  obtain ⟨c, i, a1, a2, a3, a4⟩ := ha
  have h := FP.Core.val64_dmul a 4611686018427387904
  rw [a1, two_val] at h
  have e : FP.Core.val64 (FP.dmul a 4611686018427387904) = FP.Core.roundRatio FP.Core.b64 false (c * 2 ^ 52) 1 (-1074 + (i : Int) - ((51 : Nat) : Int)) := h
  refine dU_ratio e (by decide) ?_ hr
  rw [a2]
  rw [show (2 : Nat) ^ 52 = 2 * 2 ^ 51 from rfl]
  ac_rfl
theorem dU_div2 {a : UInt64} {n : Nat} (ha : dU a (2 * n)) (hr : dR n) : dU (FP.ddiv a 4611686018427387904) n := by
  obtain ⟨c, i, a1, a2, a3, a4⟩ := ha
  have h := FP.Core.val64_ddiv a 4611686018427387904
  rw [a1, two_val] at h
  have e : FP.Core.val64 (FP.ddiv a 4611686018427387904) = FP.Core.roundRatio FP.Core.b64 false c (2 ^ 52) (-1074 + ((i + 51 : Nat) : Int) - ((0 : Nat) : Int)) := by
    rw [h]
    simp only [FP.Core.quotient]
    rw [if_neg (by decide), show (-1074 + (i : Int) - -51) = (-1074 + ((i + 51 : Nat) : Int) - ((0 : Nat) : Int)) by omega]
    rfl
  refine dU_ratio e (by decide) ?_ hr
  rw [Nat.pow_add, ← Nat.mul_assoc, ← a2, show (2 : Nat) ^ 52 = 2 * 2 ^ 51 from rfl, Nat.pow_zero, Nat.mul_one]
  ac_rfl
theorem dU_rem {a b : UInt64} {n m : Nat} (ha : dU a n) (hb : dU b m) (hm : 0 < m) : dU (FP.drem a b) (n % m) := by
  obtain ⟨c, i, a1, a2, a3, a4⟩ := ha
  obtain ⟨d, k, b1, b2, b3, b4⟩ := hb
  have hd : d ≠ 0 := fun z => by rw [b2, z, Nat.zero_mul] at hm; exact absurd hm (Nat.lt_irrefl 0)
  obtain ⟨c', q', h1, h2⟩ := FP.Core.drem_exact a1 b1 hd
  have h3 := dU_of h1
  unfold FP.Core.inUnits at h2
  rw [b64_qmin, show (q' - -1074) = q' + 1074 by omega, show (-1074 + (i : Int) - -1074).toNat = i by omega, show (-1074 + (k : Int) - -1074).toNat = k by omega, ← a2, ← b2] at h2
  rw [h2] at h3
  exact h3
/-- half a number that a double can be, of a number that one is -/
theorem dR_half {n : Nat} (h : dR (2 * n)) : dR n := by
  obtain ⟨c, i, h1, h2, h3⟩ := h
  cases i with
  | zero =>
    rw [Nat.pow_zero, Nat.mul_one] at h1
    exact ⟨n, 0, by simp, by omega, by omega⟩
  | succ i =>
    refine ⟨c, i, ?_, h2, by omega⟩
    rw [Nat.pow_succ] at h1
    have : c * (2 ^ i * 2) = 2 * (c * 2 ^ i) := by ac_rfl
    omega
theorem dR_dbl {n : Nat} (h : dR n) (hn : n ≤ 2 ^ 1074) : dR (2 * n) := by
  obtain ⟨c, i, h1, h2, h3⟩ := h
  by_cases hc : c = 0
  · exact ⟨0, 0, by rw [h1, hc]; simp, by omega, by omega⟩
  · refine ⟨c, i + 1, by rw [h1, Nat.pow_succ]; ac_rfl, h2, ?_⟩
    have : 2 ^ i ≤ n := by rw [h1]; exact Nat.le_mul_of_pos_left _ (by omega)
    have h4 : 2 ^ i ≤ 2 ^ 1074 := Nat.le_trans this hn
    have h5 : i ≤ 1074 := (Nat.pow_le_pow_iff_right (by decide)).mp h4
    omega
/-- the difference of two numbers of which none is twice the other -/
theorem dR_diff {n m : Nat} (hn : dR n) (hm : dR m) (h1 : m ≤ n) (h2 : n < 2 * m) : dR (n - m) := by
  obtain ⟨c, i, a1, a2, a3⟩ := hn
  obtain ⟨d, k, b1, b2, b3⟩ := hm
  by_cases hik : k ≤ i
  · refine ⟨c * 2 ^ (i - k) - d, k, ?_, ?_, b3⟩
    · rw [Nat.sub_mul, Nat.mul_assoc, ← Nat.pow_add, show i - k + k = i by omega, a1, b1]
    · have : c * 2 ^ (i - k) < 2 * d := by
        refine Nat.lt_of_mul_lt_mul_right (a := 2 ^ k) ?_
        rw [Nat.mul_assoc, ← Nat.pow_add, show i - k + k = i by omega, Nat.mul_assoc, ← a1, ← b1]
        exact h2
      omega
  · refine ⟨c - d * 2 ^ (k - i), i, ?_, by omega, a3⟩
    rw [Nat.sub_mul, Nat.mul_assoc, ← Nat.pow_add, show k - i + i = k by omega, a1, b1]
end
