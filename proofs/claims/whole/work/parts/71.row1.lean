/-! ===== the class: remainder and bits of a number ===== -/
section
theorem lN_shl (n : Nat) {k : Nat} (hk : k < 64) : lN n <<< ((nI k).toInt64 &&& 63) = lN (n * 2 ^ k) := by
  refine Int64.toBitVec_inj.mp ?_
  rw [Int64.toBitVec_shiftLeft, BitVec.shiftLeft_eq', lb_cnt k hk]
  show (BitVec.ofNat 64 n) <<< k = BitVec.ofNat 64 (n * 2 ^ k)
  apply BitVec.eq_of_toNat_eq
  rw [BitVec.toNat_shiftLeft, BitVec.toNat_ofNat, BitVec.toNat_ofNat, Nat.shiftLeft_eq, Nat.mul_mod, Nat.mod_mod, ← Nat.mul_mod]
theorem sub_mul_mod' {r K m : Nat} (h : K * m ≤ r) : (r - K * m) % m = r % m := by
  obtain ⟨x, hx⟩ : ∃ x, r = x + K * m := ⟨r - K * m, by omega⟩
  rw [hx, Nat.add_sub_cancel, Nat.add_mul_mod_self_right]
theorem x_remainder (d : Nat) {S : aq_S} {v w : UInt64} {n m : Nat} (hv : dU v n) (hw : dU w m) (hm : 0 < m) (hn1 : n ≤ 2 ^ 1074) (hm1 : m ≤ 2 ^ 1074) : aX (d + 1) 123 [.double v, .double w] S (fun o S' => o = .inl (some (.double (FP.drem v w))) ∧ S' = S) := by
  have ph2 : ∀ i r rest step jv, i ≤ 1100 → dU step (m * 2 ^ i) → dU rest r → r < 2 * (m * 2 ^ i) → r % m = n % m → aG d 123 (fun o S' => o = .inl (some (.double (FP.drem v w))) ∧ S' = S) 45 [(0, .double v), (2, .double w), (4, .double rest), (6, .double step), (8, .int jv), (9, .int (nI i))] [] S := by
    intro i
    induction i with
    | zero =>
      intro r rest step jv hi hs hr hlt he
      have tl : ∀ r2 rest2, dU rest2 r2 → r2 < m * 2 ^ 0 → r2 % m = n % m → aG d 123 (fun o S' => o = .inl (some (.double (FP.drem v w))) ∧ S' = S) 65 [(0, .double v), (2, .double w), (4, .double rest2), (6, .double step), (8, .int jv), (9, .int (nI 0))] [] S := by
        intro r2 rest2 h2 hlt2 he2
        refine ar_ld i_X6_remainder_65 rfl rfl ?_
        refine ar_push i_X6_remainder_67 ?_
        refine ar_arc i_X6_remainder_70 rfl (div2_vf hs) ?_
        refine ar_st i_X6_remainder_71 rfl rfl ?_
        refine ar_inc i_X6_remainder_73 rfl rfl ?_
        refine ar_go i_X6_remainder_76 ?_
        refine ar_ld i_X6_remainder_45 rfl rfl ?_
        refine ar_ift i_X6_remainder_47 rfl (by decide) ?_
        refine ar_ld i_X6_remainder_79 rfl rfl ?_
        have e : rest2 = FP.drem v w := by
          rw [Nat.pow_zero, Nat.mul_one] at hlt2
          rw [Nat.mod_eq_of_lt hlt2] at he2
          rw [he2] at h2
          exact h2.inj (dU_rem hv hw hm)
        exact ar_ret i_X6_remainder_81 rfl ⟨by rw [e], rfl⟩
      refine ar_ld i_X6_remainder_45 rfl rfl ?_
      refine ar_iff i_X6_remainder_47 rfl (by decide) ?_
      refine ar_ld i_X6_remainder_50 rfl rfl ?_
      refine ar_ld i_X6_remainder_52 rfl rfl ?_
      refine ar_ar i_X6_remainder_54 rfl ?_
      by_cases hle : m * 2 ^ 0 ≤ r
      · refine ar_iff i_X6_remainder_55 rfl (fun z => absurd ((cv_gt hs hr _).mp z) (by omega)) ?_
        refine ar_ld i_X6_remainder_58 rfl rfl ?_
        refine ar_ld i_X6_remainder_60 rfl rfl ?_
        have hsub := dU_sub hr hs hle (dR_diff hr.rep hs.rep hle hlt)
        refine ar_arc i_X6_remainder_62 rfl (hsub.vf) ?_
        refine ar_st i_X6_remainder_63 rfl rfl ?_
        refine tl _ _ hsub (by omega) ?_
        rw [← he, Nat.pow_zero, Nat.mul_one] at *
        exact (Nat.mod_eq_sub_mod hle).symm
      · refine ar_ift i_X6_remainder_55 rfl ((cv_gt hs hr _).mpr (by omega)) ?_
        exact tl r rest hr (by omega) he
    | succ i ih =>
      intro r rest step jv hi hs hr hlt he
      have hp : m * 2 ^ (i + 1) = 2 * (m * 2 ^ i) := by rw [Nat.pow_succ]; ac_rfl
      rw [hp] at hs hlt
      have hs2 := dU_div2 hs (dR_half hs.rep)
      have tl : ∀ r2 rest2, dU rest2 r2 → r2 < 2 * (m * 2 ^ i) → r2 % m = n % m → aG d 123 (fun o S' => o = .inl (some (.double (FP.drem v w))) ∧ S' = S) 65 [(0, .double v), (2, .double w), (4, .double rest2), (6, .double step), (8, .int jv), (9, .int (nI (i + 1)))] [] S := by
        intro r2 rest2 h2 hlt2 he2
        refine ar_ld i_X6_remainder_65 rfl rfl ?_
        refine ar_push i_X6_remainder_67 ?_
        refine ar_arc i_X6_remainder_70 rfl (hs2.vf) ?_
        refine ar_st i_X6_remainder_71 rfl rfl ?_
        refine ar_inc i_X6_remainder_73 rfl rfl ?_
        refine ar_go i_X6_remainder_76 ?_
        rw [nI_dec]
        exact ih r2 rest2 _ jv (by omega) hs2 h2 hlt2 he2
      refine ar_ld i_X6_remainder_45 rfl rfl ?_
      refine ar_iff i_X6_remainder_47 rfl (nI_pos (by omega)) ?_
      refine ar_ld i_X6_remainder_50 rfl rfl ?_
      refine ar_ld i_X6_remainder_52 rfl rfl ?_
      refine ar_ar i_X6_remainder_54 rfl ?_
      by_cases hle : 2 * (m * 2 ^ i) ≤ r
      · refine ar_iff i_X6_remainder_55 rfl (fun z => absurd ((cv_gt hs hr _).mp z) (by omega)) ?_
        refine ar_ld i_X6_remainder_58 rfl rfl ?_
        refine ar_ld i_X6_remainder_60 rfl rfl ?_
        have hsub := dU_sub hr hs hle (dR_diff hr.rep hs.rep hle hlt)
        refine ar_arc i_X6_remainder_62 rfl (hsub.vf) ?_
        refine ar_st i_X6_remainder_63 rfl rfl ?_
        refine tl _ _ hsub (by omega) ?_
        rw [← he, ← hp, Nat.mul_comm m]
        have hle2 : 2 ^ (i + 1) * m ≤ r := by rw [Nat.mul_comm, hp]; exact hle
        exact sub_mul_mod' hle2
      · refine ar_ift i_X6_remainder_55 rfl ((cv_gt hs hr _).mpr (by omega)) ?_
        exact tl r rest hr (by omega) he
  refine ar_run (Nat.le_of_ble_eq_true rfl) (fun o S1 h => aq_le_of (aq_le_refl S) h) ?_
  refine ar_ld i_X6_remainder_0 rfl rfl ?_
  refine ar_st i_X6_remainder_1 rfl rfl ?_
  refine ar_ld i_X6_remainder_3 rfl rfl ?_
  refine ar_st i_X6_remainder_4 rfl rfl ?_
  refine ar_push i_X6_remainder_6 ?_
  refine ar_st i_X6_remainder_7 rfl rfl ?_
  suffices key : ∀ u j step, j + u = 1100 → dU step (m * 2 ^ j) → (j = 0 ∨ m * 2 ^ j ≤ n) → aG d 123 (fun o S' => o = .inl (some (.double (FP.drem v w))) ∧ S' = S) 9 [(0, .double v), (2, .double w), (4, .double v), (6, .double step), (8, .int (nI j))] [] S from key 1100 0 w (by omega) (by rw [Nat.pow_zero, Nat.mul_one]; exact hw) (Or.inl rfl)
  intro u
  induction u with
  | zero =>
    intro j step hj hs hor
    exfalso
    have h1 : m * 2 ^ j ≤ n := hor.resolve_left (by omega)
    have h2 : 2 ^ j ≤ m * 2 ^ j := Nat.le_mul_of_pos_left _ hm
    have h3 : j ≤ 1074 := (Nat.pow_le_pow_iff_right (by decide : 1 < 2)).mp (Nat.le_trans h2 (Nat.le_trans h1 hn1))
    omega
  | succ u ih =>
    intro j step hj hs hor
    have hle : m * 2 ^ j ≤ 2 ^ 1074 := by
      rcases hor with h | h
      · rw [h, Nat.pow_zero, Nat.mul_one]; exact hm1
      · exact Nat.le_trans h hn1
    have hsum : dU (FP.dadd step step) (m * 2 ^ j + m * 2 ^ j) := dU_add hs hs (by rw [← Nat.two_mul]; exact dR_dbl hs.rep hle)
    refine ar_ld i_X6_remainder_9 rfl rfl ?_
    refine ar_push i_X6_remainder_11 ?_
    refine ar_iff i_X6_remainder_14 rfl (nI_ge (b := 1100) (by omega) (by omega)) ?_
    refine ar_ld i_X6_remainder_17 rfl rfl ?_
    refine ar_ld i_X6_remainder_19 rfl rfl ?_
    refine ar_arc i_X6_remainder_21 rfl (hsum.vf) ?_
    refine ar_ld i_X6_remainder_22 rfl rfl ?_
    refine ar_ar i_X6_remainder_24 rfl ?_
    by_cases hgt : n < m * 2 ^ j + m * 2 ^ j
    · refine ar_ift i_X6_remainder_25 rfl ((cv_gt hsum hv _).mpr hgt) ?_
      refine ar_ld i_X6_remainder_41 rfl rfl ?_
      refine ar_st i_X6_remainder_43 rfl rfl ?_
      exact ph2 j n v step _ (by omega) hs hv (by omega) rfl
    · refine ar_iff i_X6_remainder_25 rfl (fun z => hgt ((cv_gt hsum hv _).mp z)) ?_
      refine ar_ld i_X6_remainder_28 rfl rfl ?_
      refine ar_ld i_X6_remainder_30 rfl rfl ?_
      refine ar_arc i_X6_remainder_32 rfl (hsum.vf) ?_
      refine ar_st i_X6_remainder_33 rfl rfl ?_
      refine ar_inc i_X6_remainder_35 rfl rfl ?_
      refine ar_go i_X6_remainder_38 ?_
      have := ih (j + 1) _ (by omega) (show dU (FP.dadd step step) (m * 2 ^ (j + 1)) by rw [Nat.pow_succ, Nat.mul_two, Nat.mul_add]; exact hsum) (Or.inr (by rw [Nat.pow_succ, Nat.mul_two, Nat.mul_add]; omega))
      rw [← nI_1 j] at this
      exact this
theorem x_bits_0 (d : Nat) {S : aq_S} {v : UInt64} (b F : Int32) (hv : dU v 0) : aX (d + 1) 124 [.double v, .int b, .int F] S (fun o S' => o = .inl (some (.long 0)) ∧ S' = S) := by
  refine ar_run (Nat.le_of_ble_eq_true rfl) (fun o S1 h => aq_le_of (aq_le_refl S) h) ?_
  refine ar_ld i_X6_bits_0 rfl rfl ?_
  refine ar_push i_X6_bits_1 ?_
  refine ar_ar i_X6_bits_2 rfl ?_
  refine ar_iff i_X6_bits_3 rfl (fun z => absurd ((cv_gt hv dU_0 _).mp z) (by omega)) ?_
  refine ar_push i_X6_bits_6 ?_
  exact ar_ret i_X6_bits_7 rfl ⟨rfl, rfl⟩
theorem x_bits (d : Nat) {S : aq_S} {v : UInt64} {n F T y s bias : Nat} (hv : dU v n) (hn : n = (2 ^ F + T) * 2 ^ y) (hT : T < 2 ^ F) (hs : F + y + s = 1074) (hsb : s ≤ bias) (hb : bias ≤ 1023) (hF : F ≤ 52) (hl : FP.Core.val64 (FP.l2d ((1 : Int64) <<< ((nI F).toInt64 &&& 63))) = .fin false (2 ^ 52) ((F : Int) - 52)) (hr : (bias - s) * 2 ^ F + T < 2 ^ 63) : aX (d + 1) 124 [.double v, .int (nI bias), .int (nI F)] S (fun o S' => o = .inl (some (.long (lN ((bias - s) * 2 ^ F + T)))) ∧ S' = S) := by
  have hpF := Nat.two_pow_pos F
  have hpy := Nat.two_pow_pos y
  have hn0 : 0 < n := by rw [hn]; exact Nat.mul_pos (by omega) hpy
  have e1 : n * 2 ^ s = (2 ^ F + T) * 2 ^ (1074 - F) := by rw [hn, Nat.mul_assoc, ← Nat.pow_add, show y + s = 1074 - F by omega]
  have hFF : 2 ^ F * 2 ^ (1074 - F) = 2 ^ 1074 := by rw [← Nat.pow_add, show F + (1074 - F) = 1074 by omega]
  have e2 : n * 2 ^ s = 2 ^ 1074 + T * 2 ^ (1074 - F) := by rw [e1, Nat.add_mul, hFF]
  have e3 : T * 2 ^ (1074 - F) < 2 ^ 1074 := by rw [← hFF]; exact Nat.mul_lt_mul_of_pos_right hT (Nat.two_pow_pos _)
  have hT53 : T < 2 ^ 53 := Nat.lt_of_lt_of_le hT (Nat.pow_le_pow_right (by decide) (by omega))
  refine ar_run (Nat.le_of_ble_eq_true rfl) (fun o S1 h => aq_le_of (aq_le_refl S) h) ?_
  refine ar_ld i_X6_bits_0 rfl rfl ?_
  refine ar_push i_X6_bits_1 ?_
  refine ar_ar i_X6_bits_2 rfl ?_
  refine ar_ift i_X6_bits_3 rfl ((cv_gt hv dU_0 _).mpr hn0) ?_
  refine ar_ld i_X6_bits_8 rfl rfl ?_
  refine ar_st i_X6_bits_9 rfl rfl ?_
  refine ar_ld i_X6_bits_11 rfl rfl ?_
  refine ar_st i_X6_bits_12 rfl rfl ?_
  refine ar_push i_X6_bits_14 ?_
  refine ar_st i_X6_bits_15 rfl rfl ?_
  suffices key : ∀ j t x, t + j = s → dU x (n * 2 ^ t) → aG d 124 (fun o S' => o = .inl (some (.long (lN ((bias - s) * 2 ^ F + T)))) ∧ S' = S) 17 [(0, .double v), (2, .int (nI bias)), (3, .int (nI F)), (4, .double x), (6, .int (nI (bias - t))), (7, .int (nI t))] [] S from key s 0 v (by omega) (by rw [Nat.pow_zero, Nat.mul_one]; exact hv)
  intro j
  induction j with
  | zero =>
    intro t x ht hx
    have et : t = s := by omega
    subst et
    rw [e2] at hx
    refine ar_ld i_X6_bits_17 rfl rfl ?_
    refine ar_push i_X6_bits_19 ?_
    refine ar_iff i_X6_bits_22 rfl (nI_ge (b := 1100) (by omega) (by omega)) ?_
    refine ar_ld i_X6_bits_25 rfl rfl ?_
    refine ar_push i_X6_bits_27 ?_
    refine ar_ar i_X6_bits_28 rfl ?_
    refine ar_ift i_X6_bits_29 rfl ((cv_ge hx dU_one _).mpr (Nat.le_add_right _ _)) ?_
    have hd0 : dU (FP.dsub x FP.dconst1) (T * 2 ^ (1074 - F)) := by
      have := dU_sub hx dU_one (Nat.le_add_right _ _) ⟨T, 1074 - F, Nat.add_sub_cancel_left _ _, hT53, by omega⟩
      rw [Nat.add_sub_cancel_left] at this
      exact this
    refine ar_ld i_X6_bits_49 rfl rfl ?_
    refine ar_push i_X6_bits_51 ?_
    refine ar_arc i_X6_bits_52 rfl (hd0.vf) ?_
    refine ar_push i_X6_bits_53 ?_
    refine ar_ld i_X6_bits_54 rfl rfl ?_
    refine ar_ar i_X6_bits_55 rfl ?_
    refine ar_ar i_X6_bits_56 rfl ?_
    have hd1 := dU_mulP hd0 hl (T := T) (by rw [Nat.mul_assoc, ← Nat.pow_add, show 1074 - F + F = 1074 by omega]) hT53
    refine ar_arc i_X6_bits_57 rfl (hd1.vf) ?_
    refine ar_ar i_X6_bits_58 rfl ?_
    rw [d2l_dU hd1 (by omega)]
    refine ar_st i_X6_bits_59 rfl rfl ?_
    refine ar_ld i_X6_bits_61 rfl rfl ?_
    refine ar_ar i_X6_bits_63 rfl ?_
    refine ar_ld i_X6_bits_64 rfl rfl ?_
    refine ar_ar i_X6_bits_65 rfl ?_
    rw [nI_l (show bias - t < 2 ^ 31 by omega), lN_shl _ (show F < 64 by omega)]
    refine ar_ld i_X6_bits_66 rfl rfl ?_
    refine ar_ar i_X6_bits_68 rfl ?_
    rw [lN_add]
    exact ar_ret i_X6_bits_69 rfl ⟨rfl, rfl⟩
  | succ j ih =>
    intro t x ht hx
    have hlt : n * 2 ^ t < 2 ^ 1074 := by
      have h1 : n * 2 ^ t * 2 ≤ n * 2 ^ s := by
        rw [Nat.mul_assoc, ← Nat.pow_succ]
        exact Nat.mul_le_mul_left _ (Nat.pow_le_pow_right (by decide) (by omega))
      omega
    refine ar_ld i_X6_bits_17 rfl rfl ?_
    refine ar_push i_X6_bits_19 ?_
    refine ar_iff i_X6_bits_22 rfl (nI_ge (b := 1100) (by omega) (by omega)) ?_
    refine ar_ld i_X6_bits_25 rfl rfl ?_
    refine ar_push i_X6_bits_27 ?_
    refine ar_ar i_X6_bits_28 rfl ?_
    refine ar_iff i_X6_bits_29 rfl (fun z => absurd ((cv_ge hx dU_one _).mp z) (Nat.not_le.mpr hlt)) ?_
    have h2 := dU_mul2 hx (dR_dbl hx.rep (Nat.le_of_lt hlt))
    refine ar_ld i_X6_bits_32 rfl rfl ?_
    refine ar_push i_X6_bits_34 ?_
    refine ar_arc i_X6_bits_37 rfl (h2.vf) ?_
    refine ar_st i_X6_bits_38 rfl rfl ?_
    refine ar_inc i_X6_bits_40 rfl rfl ?_
    rw [sb_m1 (show 0 < bias - t by omega)]
    refine ar_inc i_X6_bits_43 rfl rfl ?_
    refine ar_go i_X6_bits_46 ?_
    have := ih (t + 1) _ (by omega) (show dU (FP.dmul x 4611686018427387904) (n * 2 ^ (t + 1)) by rw [Nat.pow_succ, ← Nat.mul_assoc, Nat.mul_comm _ 2]; exact h2)
    rw [← nI_1 t, show bias - (t + 1) = bias - t - 1 by omega] at this
    exact this
theorem u64_lN (x : UInt64) : x.toInt64 = lN x.toNat := by
  refine Int64.toBitVec_inj.mp ?_
  show x.toBitVec = BitVec.ofNat 64 x.toNat
  exact BitVec.eq_of_toNat_eq (by rw [BitVec.toNat_ofNat]; exact (Nat.mod_eq_of_lt x.toBitVec.isLt).symm)
theorem u32_nI (x : UInt32) : x.toInt32 = nI x.toNat := by
  refine Int32.toBitVec_inj.mp ?_
  show x.toBitVec = BitVec.ofNat 32 x.toNat
  exact BitVec.eq_of_toNat_eq (by rw [BitVec.toNat_ofNat]; exact (Nat.mod_eq_of_lt x.toBitVec.isLt).symm)
/-- an element's bits -/
def eB (ty : Int32) (v : UInt64) : Int64 := if ty = 1 then v.toInt64 else (FP.d2f v).toInt32.toInt64
theorem x_bits_d (d : Nat) {S : aq_S} {v : UInt64} (h : eI 1 v) : aX (d + 1) 124 [.double v, .int 1023, .int 52] S (fun o S' => o = .inl (some (.long (eB 1 v))) ∧ S' = S) := by
  rcases h with ⟨-, k, h1, h2⟩ | ⟨e, -⟩
  · by_cases hk : k = 0
    · subst hk
      rw [Nat.zero_mul] at h1
      have e := h1.inj dU_0
      subst e
      exact x_bits_0 d _ _ h1
    · have hge : 2 ^ 52 ≤ k * 2 ^ 900 := by
        refine Nat.le_trans (Nat.pow_le_pow_right (by decide : 0 < 2) (show 52 ≤ 900 by omega)) (Nat.le_mul_of_pos_left _ (by omega))
      obtain ⟨E, T, f1, f2, f3, f4⟩ := dU_fields h1 hge
      have hE : E ≤ 1023 := by
        have h3 := FP.Core.unitsOf_le_iff (f := FP.Core.b64) (m := v.toNat) (k := FP.dconst1.toNat)
        rw [dU_one.bits.2, h1.bits.2] at h3
        have h4 := h3.mp (by rw [show 1074 = 174 + 900 from rfl, Nat.pow_add]; exact Nat.mul_le_mul_right _ h2)
        have h5 : FP.dconst1.toNat = 1023 * 2 ^ 52 := by decide +kernel
        omega
      have := x_bits d (S := S) h1 (F := 52) (T := T) (y := E - 1) (s := 1023 - E) (bias := 1023) f4 f2 (by omega) (by omega) (by omega) (by omega) l2d_52 (by omega)
      rw [show 1023 - (1023 - E) = E by omega, ← f3, ← u64_lN] at this
      exact this
  · exact absurd e (by decide)
theorem x_bits_f (d : Nat) {S : aq_S} {v : UInt64} (h : eI 0 v) : aX (d + 1) 124 [.double v, .int 127, .int 23] S (fun o S' => o = .inl (some (.long (eB 0 v))) ∧ S' = S) := by
  rcases h with ⟨e, -⟩ | ⟨-, w, k, h0, h1, h2⟩
  · exact absurd e (by decide)
  · subst h0
    show aX (d + 1) 124 [.double (FP.f2d w), .int 127, .int 23] S (fun o S' => o = .inl (some (.long (FP.d2f (FP.f2d w)).toInt32.toInt64)) ∧ S' = S)
    rw [h1.back, u32_nI, nI_l h1.bits.1]
    by_cases hk : k = 0
    · subst hk
      rw [Nat.zero_mul] at h1
      have hz := h1.bits.2
      rw [FP.Core.unitsOf_eq_zero] at hz
      rw [hz]
      have h3 := h1.d
      rw [Nat.zero_mul] at h3
      exact x_bits_0 d _ _ h3
    · have hge : 2 ^ 23 ≤ k * 2 ^ 60 := by
        refine Nat.le_trans (Nat.pow_le_pow_right (by decide : 0 < 2) (show 23 ≤ 60 by omega)) (Nat.le_mul_of_pos_left _ (by omega))
      obtain ⟨E, T, f1, f2, f3, f4⟩ := fU_fields h1 hge
      have hE : E ≤ 127 := by
        have h3 := FP.Core.unitsOf_le_iff (f := FP.Core.b32) (m := w.toNat) (k := FP.fconst1.toNat)
        rw [fU_one.bits.2, h1.bits.2] at h3
        have h4 := h3.mp (by rw [show 149 = 89 + 60 from rfl, Nat.pow_add]; exact Nat.mul_le_mul_right _ h2)
        have h5 : FP.fconst1.toNat = 127 * 2 ^ 23 := by decide +kernel
        omega
      have h3 := h1.d
      have e5 : k * 2 ^ 60 * 2 ^ 925 = (2 ^ 23 + T) * 2 ^ (E - 1 + 925) := by rw [f4, Nat.mul_assoc, ← Nat.pow_add]
      have := x_bits d (S := S) h3 (F := 23) (T := T) (y := E - 1 + 925) (s := 127 - E) (bias := 127) e5 f2 (by omega) (by omega) (by omega) (by omega) l2d_23 (by omega)
      rw [show 127 - (127 - E) = E by omega, ← f3] at this
      exact this
end
