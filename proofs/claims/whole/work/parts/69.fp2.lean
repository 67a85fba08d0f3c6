/-! ===== doubles: comparisons, whole numbers, bits; floats; what a row holds ===== -/
section
theorem cv_gt {a b : UInt64} {n m : Nat} (ha : dU a n) (hb : dU b m) (op : CmpOp) : 0 < Op.cmpValue (FP.dcmp a b) op ↔ m < n := by
  rw [dU_cmp ha hb]
  rcases Nat.lt_trichotomy n m with h | h | h
  · rw [(FP.Core.compare_lt_iff _ _).mpr (by omega)]
    exact ⟨fun z => absurd (show (0 : Int32) < -1 from z) (by decide), fun z => by omega⟩
  · rw [(FP.Core.compare_eq_iff _ _).mpr (by omega)]
    exact ⟨fun z => absurd (show (0 : Int32) < 0 from z) (by decide), fun z => by omega⟩
  · rw [(FP.Core.compare_gt_iff _ _).mpr (by omega)]
    exact ⟨fun _ => h, fun _ => show (0 : Int32) < 1 by decide⟩
theorem cv_ge {a b : UInt64} {n m : Nat} (ha : dU a n) (hb : dU b m) (op : CmpOp) : 0 ≤ Op.cmpValue (FP.dcmp a b) op ↔ m ≤ n := by
  rw [dU_cmp ha hb]
  rcases Nat.lt_trichotomy n m with h | h | h
  · rw [(FP.Core.compare_lt_iff _ _).mpr (by omega)]
    exact ⟨fun z => absurd (show (0 : Int32) ≤ -1 from z) (by decide), fun z => by omega⟩
  · rw [(FP.Core.compare_eq_iff _ _).mpr (by omega)]
    exact ⟨fun _ => by omega, fun _ => show (0 : Int32) ≤ 0 by decide⟩
  · rw [(FP.Core.compare_gt_iff _ _).mpr (by omega)]
    exact ⟨fun _ => by omega, fun _ => show (0 : Int32) ≤ 1 by decide⟩
theorem cv_eq {a b : UInt64} {n m : Nat} (ha : dU a n) (hb : dU b m) (op : CmpOp) : Op.cmpValue (FP.dcmp a b) op = 0 ↔ n = m := by
  rw [dU_cmp ha hb]
  rcases Nat.lt_trichotomy n m with h | h | h
  · rw [(FP.Core.compare_lt_iff _ _).mpr (by omega)]
    exact ⟨fun z => absurd (show (-1 : Int32) = 0 from z) (by decide), fun z => by omega⟩
  · rw [(FP.Core.compare_eq_iff _ _).mpr (by omega)]
    exact ⟨fun _ => h, fun _ => rfl⟩
  · rw [(FP.Core.compare_gt_iff _ _).mpr (by omega)]
    exact ⟨fun z => absurd (show (1 : Int32) = 0 from z) (by decide), fun z => by omega⟩
theorem cv_self {a : UInt64} {n : Nat} (ha : dU a n) (op : CmpOp) : Op.cmpValue (FP.dcmp a a) op = 0 := (cv_eq ha ha op).mpr rfl
/-- halving a number that is no NaN gives none -/
theorem div2_vf {a : UInt64} {n : Nat} (ha : dU a n) : vf_n64 (FP.ddiv a 4611686018427387904) := by
  refine vf_of ((FP.Core.notNaN_iff _).mp (FP.Core.ddiv_out ((FP.Core.notNaN_iff _).mpr ha.ne) ⟨_, _, _, two_val⟩ ?_))
  rintro ⟨s, q, h⟩
  rw [two_val] at h
  injection h with _ h2
  exact absurd h2 (by decide)
theorem d2l_dU {a : UInt64} {T : Nat} (ha : dU a (T * 2 ^ 1074)) (hT : T < 2 ^ 63) : FP.d2l a = lN T := by
  refine FP.Core.d2l_int (a := lN T) ?_
  obtain ⟨c, i, h1, h2, h3, h4⟩ := ha
  show FP.Core.Whole _ (FP.Core.val64 a)
  rw [h1, pk_lT hT]
  show FP.Core.signed false (c * 2 ^ (-1074 + (i : Int)).toNat) = (T : Int) * ((2 ^ (-(-1074 + (i : Int))).toNat : Nat) : Int)
  show ((c * 2 ^ (-1074 + (i : Int)).toNat : Nat) : Int) = _
  rw [← Int.natCast_mul]
  refine congrArg (fun z : Nat => (z : Int)) ?_
  by_cases hi : i ≤ 1074
  · rw [show (-1074 + (i : Int)).toNat = 0 by omega, show (-(-1074 + (i : Int))).toNat = 1074 - i by omega, Nat.pow_zero, Nat.mul_one]
    refine Nat.eq_of_mul_eq_mul_right (Nat.two_pow_pos i) ?_
    rw [Nat.mul_assoc, ← Nat.pow_add, show 1074 - i + i = 1074 by omega, h2]
  · rw [show (-1074 + (i : Int)).toNat = i - 1074 by omega, show (-(-1074 + (i : Int))).toNat = 0 by omega, Nat.pow_zero, Nat.mul_one]
    refine Nat.eq_of_mul_eq_mul_right (Nat.two_pow_pos 1074) ?_
    rw [Nat.mul_assoc, ← Nat.pow_add, show i - 1074 + 1074 = i by omega, h2]
theorem dU_mulP {a b : UInt64} {n T F : Nat} (ha : dU a n) (hb : FP.Core.val64 b = .fin false (2 ^ 52) ((F : Int) - 52)) (hn : n * 2 ^ F = T * 2 ^ 1074) (hT : T < 2 ^ 53) : dU (FP.dmul a b) (T * 2 ^ 1074) := by
  obtain ⟨c, i, a1, a2, a3, a4⟩ := ha
  have h := FP.Core.val64_dmul a b
  rw [a1, hb] at h
  have e : FP.Core.val64 (FP.dmul a b) = FP.Core.roundRatio FP.Core.b64 false (c * 2 ^ 52) 1 (-1074 + ((i + F : Nat) : Int) - ((52 : Nat) : Int)) := by
    have h' : FP.Core.val64 (FP.dmul a b) = FP.Core.roundRatio FP.Core.b64 false (c * 2 ^ 52) 1 (-1074 + (i : Int) + ((F : Int) - 52)) := h
    rw [h', show (-1074 + (i : Int) + ((F : Int) - 52)) = (-1074 + ((i + F : Nat) : Int) - ((52 : Nat) : Int)) by omega]
  refine dU_ratio e (by decide) ?_ ⟨T, 1074, rfl, hT, by omega⟩
  rw [Nat.mul_one, ← hn, a2, Nat.pow_add]
  ac_rfl
theorem l2d_52 : FP.Core.val64 (FP.l2d ((1 : Int64) <<< ((nI 52).toInt64 &&& 63))) = .fin false (2 ^ 52) (((52 : Nat) : Int) - 52) := by decide +kernel
theorem l2d_23 : FP.Core.val64 (FP.l2d ((1 : Int64) <<< ((nI 23).toInt64 &&& 63))) = .fin false (2 ^ 52) (((23 : Nat) : Int) - 52) := by decide +kernel
/-- a double's bits by its fields -/
theorem dU_fields {a : UInt64} {n : Nat} (h : dU a n) (hn : 2 ^ 52 ≤ n) : ∃ E T, 1 ≤ E ∧ T < 2 ^ 52 ∧ a.toNat = E * 2 ^ 52 + T ∧ n = (2 ^ 52 + T) * 2 ^ (E - 1) := by
  obtain ⟨h1, h2⟩ := h.bits
  unfold FP.Core.unitsOf at h2
  rw [FP.Core.tails_b64] at h2
  by_cases hc : a.toNat < 2 ^ 52
  · rw [if_pos hc] at h2
    omega
  · rw [if_neg hc] at h2
    refine ⟨a.toNat / 2 ^ 52, a.toNat % 2 ^ 52, ?_, Nat.mod_lt _ (Nat.two_pow_pos _), ?_, h2.symm⟩
    · exact (Nat.le_div_iff_mul_le (Nat.two_pow_pos 52)).mpr (by omega)
    · have := Nat.div_add_mod a.toNat (2 ^ 52)
      rw [Nat.mul_comm] at this
      exact this.symm
theorem dU_ofbits {a : UInt64} (h : a.toNat < 2047 * 2 ^ 52) : dU a (FP.Core.unitsOf FP.Core.b64 a.toNat) := by
  have hm : FP.Core.mag FP.Core.b64 a.toNat = a.toNat := by
    rw [FP.Core.mag_toNat64]
    exact Nat.mod_eq_of_lt (by omega)
  obtain ⟨c, q, h1, h2⟩ := FP.Core.decode_fin (f := FP.Core.b64) (n := a.toNat) (by rw [hm, FP.Core.infBits_b64]; omega)
  have hS : FP.Core.fieldS FP.Core.b64 a.toNat = false := by
    rw [FP.Core.fieldS_mag FP.Core.b64 (FP.Core.lt_full64 a), FP.Core.half_b64]
    exact decide_eq_false (by omega)
  rw [hS] at h1
  rw [hm] at h2
  have h3 := dU_of (a := a) h1
  have h2' : c * 2 ^ (q - FP.Core.b64.qmin).toNat = FP.Core.unitsOf FP.Core.b64 a.toNat := h2
  rw [b64_qmin, show (q - -1074) = q + 1074 by omega] at h2'
  rw [h2'] at h3
  exact h3
/-! floats -/
def fU (a : UInt32) (n : Nat) : Prop := ∃ (c i : Nat), FP.Core.val32 a = .fin false c (-149 + (i : Int)) ∧ n = c * 2 ^ i ∧ c < 2 ^ 24 ∧ i ≤ 253
theorem b32_qmin : FP.Core.b32.qmin = -149 := FP.Core.qmin_b32
theorem b32_qmax : FP.Core.b32.qmax = 104 := by decide
theorem fU_of {a : UInt32} {c : Nat} {q : Int} (h : FP.Core.val32 a = .fin false c q) : fU a (c * 2 ^ (q + 149).toNat) := by
  have hf := FP.Core.val32_fits a
  rw [h] at hf
  obtain ⟨f1, f2, f3, -⟩ := hf
  rw [b32_qmin] at f2
  rw [b32_qmax] at f3
  refine ⟨c, (q + 149).toNat, ?_, rfl, f1, by omega⟩
  rw [h, show -149 + ((q + 149).toNat : Int) = q by omega]
theorem fU.ne {a : UInt32} {n : Nat} (h : fU a n) : FP.Core.val32 a ≠ .nan := by
  obtain ⟨c, i, h1, -⟩ := h
  rw [h1]
  exact FP.Core.Datum.noConfusion
theorem fU.zm {a : UInt32} {n : Nat} (h : fU a n) : FP.Core.zmag FP.Core.b32 (FP.Core.val32 a) = n ∧ FP.Core.sgn (FP.Core.val32 a) = false := by
  obtain ⟨c, i, h1, h2, -⟩ := h
  rw [h1, h2]
  refine ⟨?_, rfl⟩
  show c * 2 ^ (-149 + (i : Int) - FP.Core.b32.qmin).toNat = _
  rw [b32_qmin, show (-149 + (i : Int) - -149).toNat = i by omega]
theorem fU.bits {a : UInt32} {n : Nat} (h : fU a n) : a.toNat < 2 ^ 31 ∧ FP.Core.unitsOf FP.Core.b32 a.toNat = n := by
  have h1 := FP.Core.sgn_bits32 h.ne
  rw [h.zm.2] at h1
  have h2 : a.toNat < 2 ^ 31 := by
    have : ¬ 2 ^ 31 ≤ a.toNat := fun z => by
      rw [decide_eq_true z] at h1
      cases h1
    omega
  have h3 := FP.Core.zmag_bits32 h.ne
  rw [h.zm.1, Nat.mod_eq_of_lt h2] at h3
  exact ⟨h2, h3.symm⟩
theorem vf32_of {a : UInt32} (h : FP.Core.val32 a ≠ .nan) : vf_n32 a := by
  unfold vf_n32
  rw [UInt32.le_iff_toNat_le]
  exact Nat.le_trans (Nat.le_of_eq (FP.Core.mask_toNat32 a)) ((FP.Core.ne_nan32 a).mp h)
theorem fU.vf {a : UInt32} {n : Nat} (h : fU a n) : vf_n32 a := vf32_of h.ne
theorem f2d_core {a : UInt32} (h : FP.Core.val32 a ≠ .nan) : FP.f2d a = FP.Core.f2d a := by
  unfold FP.f2d
  rw [(FP.Core.notNaN_iff32 a).mpr h]
  rfl
theorem d2f_core {a : UInt64} (h : FP.Core.val64 a ≠ .nan) : FP.d2f a = FP.Core.d2f a := by
  unfold FP.d2f
  rw [(FP.Core.notNaN_iff a).mpr h]
  rfl
/-- a float as a double -/
theorem fU.d {a : UInt32} {n : Nat} (h : fU a n) : dU (FP.f2d a) (n * 2 ^ 925) := by
  have h0 := h.ne
  obtain ⟨c, i, h1, h2, h3, h4⟩ := h
  rw [f2d_core h0]
  have e := FP.Core.val64_f2d a
  rw [h1] at e
  have e' : FP.Core.val64 (FP.Core.f2d a) = FP.Core.roundRatio FP.Core.b64 false c 1 (-1074 + ((i + 925 : Nat) : Int) - ((0 : Nat) : Int)) := by
    rw [show (-1074 + ((i + 925 : Nat) : Int) - ((0 : Nat) : Int)) = -149 + (i : Int) by omega]
    exact e
  refine dU_ratio e' (by decide) ?_ ⟨c, i + 925, ?_, by omega, by omega⟩
  · have h5 : c * 2 ^ (i + 925) = n * 2 ^ 925 := by rw [h2, Nat.pow_add, Nat.mul_assoc]
    rw [Nat.mul_one]
    exact h5.trans (Nat.mul_one _).symm
  · rw [h2, Nat.pow_add, Nat.mul_assoc]
theorem fU.back {a : UInt32} {n : Nat} (h : fU a n) : FP.d2f (FP.f2d a) = a := by
  rw [d2f_core h.d.ne, f2d_core h.ne]
  exact FP.Core.d2f_f2d h.ne
theorem fU_rem {a b : UInt32} {n m : Nat} (ha : fU a n) (hb : fU b m) (hm : 0 < m) : fU (FP.frem a b) (n % m) := by
  obtain ⟨c, i, a1, a2, a3, a4⟩ := ha
  obtain ⟨d, k, b1, b2, b3, b4⟩ := hb
  have hd : d ≠ 0 := fun z => by rw [b2, z, Nat.zero_mul] at hm; exact absurd hm (Nat.lt_irrefl 0)
  obtain ⟨c', q', h1, h2⟩ := FP.Core.frem_exact a1 b1 hd
  have h3 := fU_of h1
  unfold FP.Core.inUnits at h2
  rw [b32_qmin, show (q' - -149) = q' + 149 by omega, show (-149 + (i : Int) - -149).toNat = i by omega, show (-149 + (k : Int) - -149).toNat = k by omega, ← a2, ← b2] at h2
  rw [h2] at h3
  exact h3
/-- the remainder of two floats as doubles is that of the floats -/
theorem drem_f {a b : UInt32} {n m : Nat} (ha : fU a n) (hb : fU b m) (hm : 0 < m) : FP.drem (FP.f2d a) (FP.f2d b) = FP.f2d (FP.frem a b) := by
  have h1 := dU_rem ha.d hb.d (Nat.mul_pos hm (Nat.two_pow_pos 925))
  rw [Nat.mul_mod_mul_right] at h1
  exact h1.inj (fU_rem ha hb hm).d
theorem fU_fields {a : UInt32} {n : Nat} (h : fU a n) (hn : 2 ^ 23 ≤ n) : ∃ E T, 1 ≤ E ∧ T < 2 ^ 23 ∧ a.toNat = E * 2 ^ 23 + T ∧ n = (2 ^ 23 + T) * 2 ^ (E - 1) := by
  obtain ⟨h1, h2⟩ := h.bits
  unfold FP.Core.unitsOf at h2
  rw [FP.Core.tails_b32] at h2
  by_cases hc : a.toNat < 2 ^ 23
  · rw [if_pos hc] at h2
    omega
  · rw [if_neg hc] at h2
    refine ⟨a.toNat / 2 ^ 23, a.toNat % 2 ^ 23, ?_, Nat.mod_lt _ (Nat.two_pow_pos _), ?_, h2.symm⟩
    · exact (Nat.le_div_iff_mul_le (Nat.two_pow_pos 23)).mpr (by omega)
    · have := Nat.div_add_mod a.toNat (2 ^ 23)
      rw [Nat.mul_comm] at this
      exact this.symm
theorem fU_ofbits {a : UInt32} (h : a.toNat < 255 * 2 ^ 23) : fU a (FP.Core.unitsOf FP.Core.b32 a.toNat) := by
  have hm : FP.Core.mag FP.Core.b32 a.toNat = a.toNat := by
    rw [FP.Core.mag_toNat32]
    exact Nat.mod_eq_of_lt (by omega)
  obtain ⟨c, q, h1, h2⟩ := FP.Core.decode_fin (f := FP.Core.b32) (n := a.toNat) (by rw [hm, FP.Core.infBits_b32]; omega)
  have hS : FP.Core.fieldS FP.Core.b32 a.toNat = false := by
    rw [FP.Core.fieldS_mag FP.Core.b32 (FP.Core.lt_full32 a), FP.Core.half_b32]
    exact decide_eq_false (by omega)
  rw [hS] at h1
  rw [hm] at h2
  have h3 := fU_of (a := a) h1
  have h2' : c * 2 ^ (q - FP.Core.b32.qmin).toNat = FP.Core.unitsOf FP.Core.b32 a.toNat := h2
  rw [b32_qmin, show (q - -149) = q + 149 by omega] at h2'
  rw [h2'] at h3
  exact h3
/-! what a row holds -/
def dI (v : UInt64) : Prop := ∃ k, dU v (k * 2 ^ 900) ∧ k ≤ 2 ^ 174
def fI (v : UInt64) : Prop := ∃ w k, v = FP.f2d w ∧ fU w (k * 2 ^ 60) ∧ k ≤ 2 ^ 89
/-- a row's element, by the row's type -/
def eI (ty : Int32) (v : UInt64) : Prop := (ty = 1 ∧ dI v) ∨ (ty = 0 ∧ fI v)
theorem eI_0 {ty : Int32} (h : ty = 0 ∨ ty = 1) : eI ty 0 := by
  rcases h with h | h
  · refine Or.inr ⟨h, 0, 0, by decide +kernel, ?_, Nat.zero_le _⟩
    rw [Nat.zero_mul]
    exact ⟨0, 0, FP.Core.val32_zero.trans (by rw [b32_qmin]; rfl), rfl, by omega, by omega⟩
  · refine Or.inl ⟨h, 0, ?_, Nat.zero_le _⟩
    rw [Nat.zero_mul]
    exact dU_0
theorem eI.d {ty : Int32} {v : UInt64} (h : eI ty v) : ∃ n, dU v n ∧ n ≤ 2 ^ 1074 := by
  rcases h with ⟨-, k, h1, h2⟩ | ⟨-, w, k, h1, h2, h3⟩
  · refine ⟨_, h1, ?_⟩
    rw [show 1074 = 174 + 900 from rfl, Nat.pow_add]
    exact Nat.mul_le_mul_right _ h2
  · refine ⟨_, h1 ▸ h2.d, ?_⟩
    rw [show 1074 = 89 + 60 + 925 from rfl, Nat.pow_add, Nat.pow_add]
    exact Nat.mul_le_mul_right _ (Nat.mul_le_mul_right _ h3)
theorem eI.rem {ty : Int32} {v w : UInt64} {m : Nat} (h : eI ty v) (k : eI ty w) (hm : dU w m) (hm0 : 0 < m) : eI ty (FP.drem v w) := by
  rcases h with ⟨e1, k1, h1, h2⟩ | ⟨e1, w1, k1, h0, h1, h2⟩
  · rcases k with ⟨-, k2, g1, g2⟩ | ⟨e2, -⟩
    · have em := hm.uniq g1
      have hm1 : 0 < k2 * 2 ^ 900 := Nat.lt_of_lt_of_eq hm0 em
      refine Or.inl ⟨e1, k1 % k2, ?_, Nat.le_trans (Nat.mod_le _ _) h2⟩
      rw [← Nat.mul_mod_mul_right]
      exact dU_rem h1 g1 hm1
    · rw [e1] at e2
      exact absurd e2 (by decide)
  · rcases k with ⟨e2, -⟩ | ⟨-, w2, k2, g0, g1, g2⟩
    · rw [e1] at e2
      exact absurd e2 (by decide)
    · subst h0 g0
      have em := hm.uniq g1.d
      have hk : 0 < k2 * 2 ^ 60 := by
        refine Nat.pos_of_ne_zero fun z => ?_
        rw [z, Nat.zero_mul] at em
        omega
      refine Or.inr ⟨e1, FP.frem w1 w2, k1 % k2, drem_f h1 g1 hk, ?_, Nat.le_trans (Nat.mod_le _ _) h2⟩
      rw [← Nat.mul_mod_mul_right]
      exact fU_rem h1 g1 hk
/-- a float's rounding leaves a row's element as it is -/
theorem eI.f {v : UInt64} (h : eI 0 v) : vf_n32 (FP.d2f v) ∧ vf_n64 (FP.f2d (FP.d2f v)) ∧ FP.f2d (FP.d2f v) = v := by
  rcases h with ⟨e, -⟩ | ⟨-, w, k, h0, h1, -⟩
  · exact absurd e (by decide)
  · subst h0
    rw [h1.back]
    exact ⟨h1.vf, h1.d.vf, rfl⟩
end
