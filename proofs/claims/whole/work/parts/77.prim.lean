/-! ===== primitiveCompletions, on both sides ===== -/
section
def iI (x : Int) : Int32 := Int32.ofInt x
theorem iI_nat (n : Nat) : iI (n : Int) = nI n := rfl
theorem iI_neg (x : Int) : - iI x = iI (-x) := (Int32.ofInt_neg x).symm
theorem iI_mul (x y : Int) : iI x * iI y = iI (x * y) := (Int32.ofInt_mul x y).symm
theorem iI_add (x y : Int) : iI x + iI y = iI (x + y) := (Int32.ofInt_add x y).symm
theorem x_moebius (d : Nat) {S : aq_S} {m : Nat} (hm0 : 0 < m) (hm : m ≤ 40) : aX (d + 1) 118 [.int (nI m)] S (fun o S' => o = .inl (some (.int (iI (mu m)))) ∧ S' = S) := by
  refine ar_run (Nat.le_of_ble_eq_true rfl) (fun o S1 h => aq_le_of (aq_le_refl S) h) ?_
  refine ar_ld i_X6_moebius_0 rfl rfl ?_
  refine ar_st i_X6_moebius_1 rfl rfl ?_
  refine ar_push i_X6_moebius_2 ?_
  refine ar_st i_X6_moebius_3 rfl rfl ?_
  refine ar_push i_X6_moebius_4 ?_
  refine ar_st i_X6_moebius_5 rfl rfl ?_
  suffices key : ∀ j p r s, p + j = m + 1 → 2 ≤ p → r ≤ 40 → aG d 118 (fun o S' => o = .inl (some (.int (iI (moF j r s p)))) ∧ S' = S) 6 [(0, .int (nI m)), (1, .int (nI r)), (2, .int (iI s)), (3, .int (nI p))] [] S from key (m - 1) 2 m 1 (by omega) (by omega) hm
  intro j
  induction j with
  | zero =>
    intro p r s hp h2 hr
    refine ar_ld i_X6_moebius_6 rfl rfl ?_
    refine ar_ld i_X6_moebius_7 rfl rfl ?_
    refine ar_ift i_X6_moebius_8 rfl (nI_lt (by omega) (by omega)) ?_
    refine ar_ld i_X6_moebius_38 rfl rfl ?_
    exact ar_ret i_X6_moebius_39 rfl ⟨rfl, rfl⟩
  | succ j ih =>
    intro p r s hp h2 hr
    refine ar_ld i_X6_moebius_6 rfl rfl ?_
    refine ar_ld i_X6_moebius_7 rfl rfl ?_
    refine ar_iff i_X6_moebius_8 rfl (nI_nlt (show p ≤ m by omega) (by omega)) ?_
    refine ar_ld i_X6_moebius_11 rfl rfl ?_
    refine ar_ld i_X6_moebius_12 rfl rfl ?_
    refine ar_arc i_X6_moebius_13 rfl (nI_ne0 (by omega) (by omega)) ?_
    rw [pk_rem (by omega) (by omega) (by omega)]
    by_cases h1 : r % p = 0
    · rw [h1]
      refine ar_iff i_X6_moebius_14 rfl (fun z => z rfl) ?_
      refine ar_ld i_X6_moebius_17 rfl rfl ?_
      refine ar_ld i_X6_moebius_18 rfl rfl ?_
      refine ar_arc i_X6_moebius_19 rfl (nI_ne0 (by omega) (by omega)) ?_
      rw [pk_div (by omega) (by omega) (by omega)]
      have hdv : r / p ≤ r := Nat.div_le_self r p
      refine ar_st i_X6_moebius_20 rfl rfl ?_
      refine ar_ld i_X6_moebius_21 rfl rfl ?_
      refine ar_ld i_X6_moebius_22 rfl rfl ?_
      refine ar_arc i_X6_moebius_23 rfl (nI_ne0 (by omega) (by omega)) ?_
      rw [pk_rem (by omega) (by omega) (by omega)]
      by_cases h3 : r / p % p = 0
      · rw [h3]
        refine ar_iff i_X6_moebius_24 rfl (fun z => z rfl) ?_
        refine ar_push i_X6_moebius_27 ?_
        have e : moF (j + 1) r s p = 0 := (if_pos h1).trans (if_pos h3)
        exact ar_ret i_X6_moebius_28 rfl ⟨by rw [e]; rfl, rfl⟩
      · refine ar_ift i_X6_moebius_24 rfl (nI_ne0 (by omega) (by have := Nat.mod_le (r / p) p; omega)) ?_
        have e : moF (j + 1) r s p = moF j (r / p) (-s) (p + 1) := (if_pos h1).trans (if_neg h3)
        refine ar_ld i_X6_moebius_29 rfl rfl ?_
        refine ar_ar i_X6_moebius_30 rfl ?_
        rw [iI_neg]
        refine ar_st i_X6_moebius_31 rfl rfl ?_
        refine ar_inc i_X6_moebius_32 rfl rfl ?_
        refine ar_go i_X6_moebius_35 ?_
        rw [nI_1, e]
        exact ih (p + 1) (r / p) (-s) (by omega) (by omega) (by omega)
    · refine ar_ift i_X6_moebius_14 rfl (nI_ne0 (by omega) (by have := Nat.mod_le r p; omega)) ?_
      have e : moF (j + 1) r s p = moF j r s (p + 1) := if_neg h1
      refine ar_inc i_X6_moebius_32 rfl rfl ?_
      refine ar_go i_X6_moebius_35 ?_
      rw [nI_1, e]
      exact ih (p + 1) r s (by omega) (by omega) hr
theorem x_periodicCompletions (d : Nat) {S : aq_S} {w n p k : Nat} {f : Nat → Int32} (hw : isW S w n f) (hp0 : 0 < p) (hp : p ≤ 40) : aX (d + 4) 121 [.ref w, .int (nI p), .int (nI k)] S (fun o S' => o = .inl (some (.int (nI (pif (perS n f p) (k ^ chol n p f) 0)))) ∧ S' = S) := by
  refine ar_run (Nat.le_of_ble_eq_true rfl) (fun o S1 h => aq_le_of (aq_le_refl S) h) ?_
  refine ar_ld i_X6_periodicCompletions_0 rfl rfl ?_
  refine ar_ld i_X6_periodicCompletions_1 rfl rfl ?_
  refine ar_push i_X6_periodicCompletions_2 ?_
  refine ar_cr i_X6_periodicCompletions_3 rfl ⟨_, _, _, rfl, hw.obj⟩ (Nat.le_of_ble_eq_true rfl) (w_hasPeriod d hw p hp0 (by omega) 0) ?_
  by_cases hd : perS n f p
  · rw [pif_t hd]
    refine ar_ift i_X6_periodicCompletions_6 rfl (bI_nz.mpr (show perV 0 n f p from hd)) ?_
    refine ar_push i_X6_periodicCompletions_11 ?_
    refine ar_st i_X6_periodicCompletions_12 rfl rfl ?_
    refine ar_push i_X6_periodicCompletions_13 ?_
    refine ar_st i_X6_periodicCompletions_14 rfl rfl ?_
    suffices key : ∀ j i, i + j = p → aG (d + 3) 121 (fun o S' => o = .inl (some (.int (nI (k ^ chol n p f)))) ∧ S' = S) 16 [(0, .ref w), (1, .int (nI p)), (2, .int (nI k)), (3, .int (nI (k ^ cntN (fun s => ∀ i, i < n → i % p = s → f i = -1) i))), (4, .int (nI i))] [] S from key p 0 (by omega)
    intro j
    induction j with
    | zero =>
      intro i hi
      have e : i = p := by omega
      subst e
      refine ar_ld i_X6_periodicCompletions_16 rfl rfl ?_
      refine ar_ld i_X6_periodicCompletions_18 rfl rfl ?_
      refine ar_ift i_X6_periodicCompletions_19 rfl (nI_le (Nat.le_refl _) (by omega)) ?_
      refine ar_ld i_X6_periodicCompletions_42 rfl rfl ?_
      exact ar_ret i_X6_periodicCompletions_43 rfl ⟨rfl, rfl⟩
    | succ j ih =>
      intro i hi
      have := ih (i + 1) (by omega)
      rw [← nI_1 i] at this
      have hip : i < p := by omega
      have eH : (∀ c, i + c * p < n → f (i + c * p) = -1) ↔ (∀ x, x < n → x % p = i → f x = -1) := by
        refine ⟨fun z x hx e => ?_, fun z c hc => z _ hc (by rw [Nat.add_mul_mod_self_right]; exact Nat.mod_eq_of_lt hip)⟩
        have e2 : i + x / p * p = x := by
          have := Nat.mod_add_div x p
          rw [e, Nat.mul_comm] at this
          exact this
        have := z (x / p) (by rw [e2]; exact hx)
        rw [e2] at this
        exact this
      refine ar_ld i_X6_periodicCompletions_16 rfl rfl ?_
      refine ar_ld i_X6_periodicCompletions_18 rfl rfl ?_
      refine ar_iff i_X6_periodicCompletions_19 rfl (nI_ge (by omega) (by omega)) ?_
      refine ar_ld i_X6_periodicCompletions_22 rfl rfl ?_
      refine ar_ld i_X6_periodicCompletions_23 rfl rfl ?_
      refine ar_ld i_X6_periodicCompletions_25 rfl rfl ?_
      refine ar_cr i_X6_periodicCompletions_26 rfl ⟨_, _, _, rfl, hw.obj⟩ (Nat.le_of_ble_eq_true rfl) (w_isHoleAtEach (d + 1) hw i p hp0 (by omega) (by omega)) ?_
      rw [bI_cg eH]
      by_cases hh : ∀ x, x < n → x % p = i → f x = -1
      · refine ar_iff i_X6_periodicCompletions_29 rfl (fun z => bI_nz.mpr hh z) ?_
        refine ar_ld i_X6_periodicCompletions_32 rfl rfl ?_
        refine ar_ld i_X6_periodicCompletions_33 rfl rfl ?_
        refine ar_ar i_X6_periodicCompletions_34 rfl ?_
        rw [pk_mul, ← Nat.pow_succ]
        refine ar_st i_X6_periodicCompletions_35 rfl rfl ?_
        refine ar_inc i_X6_periodicCompletions_36 rfl rfl ?_
        refine ar_go i_X6_periodicCompletions_39 ?_
        rw [cntN_y (p := fun s => ∀ i, i < n → i % p = s → f i = -1) hh] at this
        exact this
      · refine ar_ift i_X6_periodicCompletions_29 rfl (bI_f hh) ?_
        refine ar_inc i_X6_periodicCompletions_36 rfl rfl ?_
        refine ar_go i_X6_periodicCompletions_39 ?_
        rw [cntN_n (p := fun s => ∀ i, i < n → i % p = s → f i = -1) hh] at this
        exact this
  · rw [pif_f hd]
    refine ar_iff i_X6_periodicCompletions_6 rfl (fun z => z (bI_f (show ¬ perV 0 n f p from hd))) ?_
    refine ar_push i_X6_periodicCompletions_9 ?_
    exact ar_ret i_X6_periodicCompletions_10 rfl ⟨rfl, rfl⟩
theorem x_primitiveCompletions_r (d : Nat) {S : aq_S} {k : Nat} {hs : Int32} {a0 : Int32} (h : hT S k hs) (hp : a0 < 0 ∨ nI 4 ≤ a0) : aX (d + 3) 92 [.ref 1, .int a0] S (fun o S' => o = .inr "java/lang/IllegalArgumentException" ∧ S' = aq_thrown S) := by
  refine ar_run (Nat.le_of_ble_eq_true rfl) (fun o S1 h => aq_le_of (aq_le_thr S) h) ?_
  refine ar_ld i_X6_primitiveCompletions_0 rfl rfl ?_
  refine ar_ld i_X6_primitiveCompletions_1 rfl rfl ?_
  exact av_cx i_X6_primitiveCompletions_2 rfl ⟨_, _, _, rfl, (h.1)⟩ (Nat.le_of_ble_eq_true rfl) (x_wordIn_no d h hp) (fun S1 h => ⟨rfl, h⟩)
theorem x_primitiveCompletions_h (d : Nat) {S : aq_S} {k r : Nat} {hs : Int32} {N : Nat → Nat} {G : Nat → Nat → Int32} (h : hT S k hs) (hw : hWs S 2 N G) (hr : r < 4) (hh : 7 < wholes (G r) (N r)) : aX (d + 3) 92 [.ref 1, .int (nI r)] S (fun o S' => o = .inr "java/lang/IllegalStateException" ∧ S' = aq_thrown S) := by
  have hwr := hw r hr
  have hn := hwr.le
  have hl := wholes_le (G r) (N r)
  refine ar_run (Nat.le_of_ble_eq_true rfl) (fun o S1 h => aq_le_of (aq_le_thr S) h) ?_
  refine ar_ld i_X6_primitiveCompletions_0 rfl rfl ?_
  refine ar_ld i_X6_primitiveCompletions_1 rfl rfl ?_
  refine ar_cr i_X6_primitiveCompletions_2 rfl ⟨_, _, _, rfl, (h.1)⟩ (Nat.le_of_ble_eq_true rfl) (x_wordIn d h hr) ?_
  refine ar_st i_X6_primitiveCompletions_5 rfl rfl ?_
  refine ar_ld i_X6_primitiveCompletions_6 rfl rfl ?_
  refine ar_cr i_X6_primitiveCompletions_7 rfl ⟨_, _, _, rfl, hwr.obj⟩ (Nat.le_of_ble_eq_true rfl) (w_holeCount d hwr) ?_
  refine ar_push i_X6_primitiveCompletions_10 ?_
  refine ar_iff i_X6_primitiveCompletions_12 rfl (nI_ge (a := 7) hh (by omega)) ?_
  exact ar_thr i_X6_primitiveCompletions_15 (Nat.le_of_ble_eq_true rfl) ⟨rfl, rfl⟩
theorem x_primitiveCompletions (d : Nat) {S : aq_S} {k r : Nat} {hs : Int32} {N : Nat → Nat} {G : Nat → Nat → Int32} (h : hT S k hs) (hw : hWs S 2 N G) (hk0 : 0 < k) (hk : k ≤ 3) (hr : r < 4) (hh : wholes (G r) (N r) ≤ 7) (hY : fY k (N r) (G r)) : aX (d + 5) 92 [.ref 1, .int (nI r)] S (fun o S' => o = .inl (some (.int (nI (pcnt k (N r) (G r))))) ∧ S' = S) := by
  have hwr := hw r hr
  have hn := hwr.le
  refine ar_run (Nat.le_of_ble_eq_true rfl) (fun o S1 h => aq_le_of (aq_le_refl S) h) ?_
  refine ar_ld i_X6_primitiveCompletions_0 rfl rfl ?_
  refine ar_ld i_X6_primitiveCompletions_1 rfl rfl ?_
  refine ar_cr i_X6_primitiveCompletions_2 rfl ⟨_, _, _, rfl, (h.1)⟩ (Nat.le_of_ble_eq_true rfl) (x_wordIn (d + 2) h hr) ?_
  refine ar_st i_X6_primitiveCompletions_5 rfl rfl ?_
  refine ar_ld i_X6_primitiveCompletions_6 rfl rfl ?_
  refine ar_cr i_X6_primitiveCompletions_7 rfl ⟨_, _, _, rfl, hwr.obj⟩ (Nat.le_of_ble_eq_true rfl) (w_holeCount (d + 2) hwr) ?_
  refine ar_push i_X6_primitiveCompletions_10 ?_
  refine ar_ift i_X6_primitiveCompletions_12 rfl (nI_le (b := 7) hh (by omega)) ?_
  refine ar_ld i_X6_primitiveCompletions_25 rfl rfl ?_
  refine ar_cr i_X6_primitiveCompletions_26 rfl ⟨_, _, _, rfl, hwr.obj⟩ (Nat.le_of_ble_eq_true rfl) (w_size (d + 3) hwr) ?_
  refine ar_st i_X6_primitiveCompletions_29 rfl rfl ?_
  refine ar_push i_X6_primitiveCompletions_30 ?_
  refine ar_st i_X6_primitiveCompletions_31 rfl rfl ?_
  refine ar_push i_X6_primitiveCompletions_33 ?_
  refine ar_st i_X6_primitiveCompletions_34 rfl rfl ?_
  rw [← iI_nat (pcnt k (N r) (G r)), ← prim_cnt hk0 hk hn hY]
  suffices key : ∀ j i, i + j = N r → aG (d + 4) 92 (fun o S' => o = .inl (some (.int (iI (totI (N r) (fun d => ((pif (perS (N r) (G r) d) (k ^ chol (N r) d (G r)) 0 : Nat) : Int)) (N r))))) ∧ S' = S) 36 [(0, .ref 1), (1, .int (nI r)), (2, .ref (6 + 2 * r)), (3, .int (nI (N r))), (4, .int (iI (totI (N r) (fun d => ((pif (perS (N r) (G r) d) (k ^ chol (N r) d (G r)) 0 : Nat) : Int)) i))), (5, .int (nI (i + 1)))] [] S from key (N r) 0 (by omega)
  intro j
  induction j with
  | zero =>
    intro i hi
    have e : i = N r := by omega
    refine ar_ld i_X6_primitiveCompletions_36 rfl rfl ?_
    refine ar_ld i_X6_primitiveCompletions_38 rfl rfl ?_
    refine ar_ift i_X6_primitiveCompletions_39 rfl (nI_lt (by omega) (by omega)) ?_
    refine ar_ld i_X6_primitiveCompletions_81 rfl rfl ?_
    exact ar_ret i_X6_primitiveCompletions_83 rfl ⟨by rw [e], rfl⟩
  | succ j ih =>
    intro i hi
    have := ih (i + 1) (by omega)
    rw [← nI_1 (i + 1)] at this
    refine ar_ld i_X6_primitiveCompletions_36 rfl rfl ?_
    refine ar_ld i_X6_primitiveCompletions_38 rfl rfl ?_
    refine ar_iff i_X6_primitiveCompletions_39 rfl (nI_nlt (show i + 1 ≤ N r by omega) (by omega)) ?_
    refine ar_ld i_X6_primitiveCompletions_42 rfl rfl ?_
    refine ar_ld i_X6_primitiveCompletions_43 rfl rfl ?_
    refine ar_arc i_X6_primitiveCompletions_45 rfl (nI_ne0 (by omega) (by omega)) ?_
    rw [pk_rem (by omega) (by omega) (by omega)]
    by_cases hm : N r % (i + 1) = 0
    · rw [hm]
      refine ar_iff i_X6_primitiveCompletions_46 rfl (fun z => z rfl) ?_
      refine ar_ld i_X6_primitiveCompletions_49 rfl rfl ?_
      refine ar_ld i_X6_primitiveCompletions_51 rfl rfl ?_
      refine ar_ld i_X6_primitiveCompletions_52 rfl rfl ?_
      refine ar_arc i_X6_primitiveCompletions_54 rfl (nI_ne0 (by omega) (by omega)) ?_
      rw [pk_div (by omega) (by omega) (by omega)]
      have hq0 : 0 < N r / (i + 1) := Nat.div_pos (by omega) (by omega)
      have hq : N r / (i + 1) ≤ N r := Nat.div_le_self _ _
      refine ar_cr i_X6_primitiveCompletions_55 rfl trivial (Nat.le_of_ble_eq_true rfl) (x_moebius (d + 3) hq0 (by omega)) ?_
      refine ar_ld i_X6_primitiveCompletions_58 rfl rfl ?_
      refine ar_ld i_X6_primitiveCompletions_59 rfl rfl ?_
      refine ar_ld i_X6_primitiveCompletions_61 rfl rfl ?_
      refine ar_gf i_X6_primitiveCompletions_62 (h.1) rfl ?_
      refine ar_gf i_X6_primitiveCompletions_65 (h.2.1) rfl ?_
      refine ar_cr i_X6_primitiveCompletions_68 rfl trivial (Nat.le_of_ble_eq_true rfl) (x_periodicCompletions d hwr (show 0 < i + 1 by omega) (by omega)) ?_
      refine ar_ar i_X6_primitiveCompletions_71 rfl ?_
      refine ar_ar i_X6_primitiveCompletions_72 rfl ?_
      rw [← iI_nat (pif _ _ _), iI_mul, iI_add]
      refine ar_st i_X6_primitiveCompletions_73 rfl rfl ?_
      refine ar_inc i_X6_primitiveCompletions_75 rfl rfl ?_
      refine ar_go i_X6_primitiveCompletions_78 ?_
      have e : totI (N r) (fun d => ((pif (perS (N r) (G r) d) (k ^ chol (N r) d (G r)) 0 : Nat) : Int)) (i + 1) = totI (N r) (fun d => ((pif (perS (N r) (G r) d) (k ^ chol (N r) d (G r)) 0 : Nat) : Int)) i + mu (N r / (i + 1)) * ((pif (perS (N r) (G r) (i + 1)) (k ^ chol (N r) (i + 1) (G r)) 0 : Nat) : Int) := by
        show _ + (if N r % (i + 1) = 0 then _ else 0) = _
        rw [if_pos hm]
      rw [e] at this
      exact this
    · refine ar_ift i_X6_primitiveCompletions_46 rfl (nI_ne0 (by omega) (by have := Nat.mod_le (N r) (i + 1); omega)) ?_
      refine ar_inc i_X6_primitiveCompletions_75 rfl rfl ?_
      refine ar_go i_X6_primitiveCompletions_78 ?_
      have e : totI (N r) (fun d => ((pif (perS (N r) (G r) d) (k ^ chol (N r) d (G r)) 0 : Nat) : Int)) (i + 1) = totI (N r) (fun d => ((pif (perS (N r) (G r) d) (k ^ chol (N r) d (G r)) 0 : Nat) : Int)) i := by
        show _ + (if N r % (i + 1) = 0 then _ else 0) = _
        rw [if_neg hm, Int.add_zero]
      rw [e] at this
      exact this
theorem m_primitiveCompletions_r (d : Nat) {S : aq_S} {th k il err rd tl pc lo cur hs sv : Int32} {a0 : Int32} (h : mO S th k il err rd tl pc lo cur hs sv) (hp : a0 < 0 ∨ nI 4 ≤ a0) : aX (d + 2) 173 [.ref 52, .int a0] S (fun o S' => o = .inl (some (.int 0)) ∧ mO S' (1) k il err rd tl pc lo cur hs sv ∧ aq_fr S S' (fun q => q = 52)) := by
  refine ar_run (Nat.le_of_ble_eq_true rfl) (fun o S1 h => h.2.2.le) ?_
  refine ar_ld i_X7_primitiveCompletions_0 rfl rfl ?_
  refine ar_cr i_X7_primitiveCompletions_1 rfl trivial (Nat.le_of_ble_eq_true rfl) (m_isReg_no d hp) ?_
  refine ar_iff i_X7_primitiveCompletions_4 rfl (by decide) ?_
  refine ar_ld i_X7_primitiveCompletions_7 rfl rfl ?_
  refine ar_push i_X7_primitiveCompletions_8 ?_
  refine av_cr i_X7_primitiveCompletions_9 rfl ⟨_, _, _, rfl, (h)⟩ (Nat.le_of_ble_eq_true rfl) (m_fails d h 1) (fun S1 q1 => ?_)
  exact ar_ret i_X7_primitiveCompletions_12 rfl ⟨rfl, q1⟩
theorem m_primitiveCompletions_h (d : Nat) {S : aq_S} {r : Nat} {th k il err rd tl pc lo cur hs sv : Int32} {N : Nat → Nat} {G : Nat → Nat → Int32} (h : mO S th k il err rd tl pc lo cur hs sv) (hw : mW S N G) (hr : r < 4) (hh : 7 < wholes (G r) (N r)) : aX (d + 3) 173 [.ref 52, .int (nI r)] S (fun o S' => o = .inl (some (.int 0)) ∧ mO S' (2) k il err rd tl pc lo cur hs sv ∧ aq_fr S S' (fun q => q = 52)) := by
  have hN : N r ≤ 40 := by
    obtain ⟨fl, fw, w1, w2, w3, w4⟩ := hw
    exact (w3 r hr).2
  have hl := wholes_le (G r) (N r)
  refine ar_run (Nat.le_of_ble_eq_true rfl) (fun o S1 h => h.2.2.le) ?_
  refine ar_ld i_X7_primitiveCompletions_0 rfl rfl ?_
  refine ar_cr i_X7_primitiveCompletions_1 rfl trivial (Nat.le_of_ble_eq_true rfl) (m_isReg (d + 1) hr) ?_
  refine ar_ift i_X7_primitiveCompletions_4 rfl (by decide) ?_
  refine ar_ld i_X7_primitiveCompletions_13 rfl rfl ?_
  refine ar_ld i_X7_primitiveCompletions_14 rfl rfl ?_
  refine ar_cr i_X7_primitiveCompletions_15 rfl ⟨_, _, _, rfl, (h)⟩ (Nat.le_of_ble_eq_true rfl) (m_holesOf d h hw hr) ?_
  refine ar_push i_X7_primitiveCompletions_18 ?_
  refine ar_iff i_X7_primitiveCompletions_20 rfl (nI_ge (a := 7) hh (by omega)) ?_
  refine ar_ld i_X7_primitiveCompletions_23 rfl rfl ?_
  refine ar_push i_X7_primitiveCompletions_24 ?_
  refine av_cr i_X7_primitiveCompletions_25 rfl ⟨_, _, _, rfl, (h)⟩ (Nat.le_of_ble_eq_true rfl) (m_fails (d + 1) h 2) (fun S1 q1 => ?_)
  exact ar_ret i_X7_primitiveCompletions_28 rfl ⟨rfl, q1⟩
theorem m_primitiveCompletions (d : Nat) {S : aq_S} {r kk : Nat} {th il err rd tl pc lo cur hs sv : Int32} {N : Nat → Nat} {G : Nat → Nat → Int32} (h : mO S th (nI kk) il err rd tl pc lo cur hs sv) (hw : mW S N G) (hp : mP S) (hk0 : 0 < kk) (hk : kk ≤ 3) (hr : r < 4) (hh : wholes (G r) (N r) ≤ 7) : aX (d + 4) 173 [.ref 52, .int (nI r)] S (fun o S' => o = .inl (some (.int (nI (pcnt kk (N r) (G r))))) ∧ (mO S' 0 (nI kk) il err rd tl pc lo cur hs sv ∧ mP S') ∧ aq_fr S S' (fun q => q = 52 ∨ q = 55)) := by
  have hw0 := hw
  obtain ⟨fp, w5⟩ := hp
  obtain ⟨fl, fw, w1, w2, w3, w4⟩ := hw
  have hN := (w3 r hr).2
  have hl := wholes_le (G r) (N r)
  have hM : kk ^ wholes (G r) (N r) ≤ 3 ^ 7 := Nat.le_trans (Nat.pow_le_pow_left hk _) (Nat.pow_le_pow_right (by decide) hh)
  refine ar_run (Nat.le_of_ble_eq_true rfl) (fun o S1 h => h.2.2.le) ?_
  refine ar_ld i_X7_primitiveCompletions_0 rfl rfl ?_
  refine ar_cr i_X7_primitiveCompletions_1 rfl trivial (Nat.le_of_ble_eq_true rfl) (m_isReg (d + 2) hr) ?_
  refine ar_ift i_X7_primitiveCompletions_4 rfl (by decide) ?_
  refine ar_ld i_X7_primitiveCompletions_13 rfl rfl ?_
  refine ar_ld i_X7_primitiveCompletions_14 rfl rfl ?_
  refine ar_cr i_X7_primitiveCompletions_15 rfl ⟨_, _, _, rfl, (h)⟩ (Nat.le_of_ble_eq_true rfl) (m_holesOf (d + 1) h hw0 hr) ?_
  refine ar_push i_X7_primitiveCompletions_18 ?_
  refine ar_ift i_X7_primitiveCompletions_20 rfl (nI_le (b := 7) hh (by omega)) ?_
  refine ar_ld i_X7_primitiveCompletions_29 rfl rfl ?_
  refine ar_push i_X7_primitiveCompletions_30 ?_
  refine av_pf i_X7_primitiveCompletions_31 (h) (Nat.le_of_ble_eq_true rfl) (rfl) rfl (fun S1 g1 k1 => ?_)
  have o1 : mO S1 0 (nI kk) il err rd tl pc lo cur hs sv := g1
  have u1 := w1.fr k1 (by omega)
  have hw1 := hw0.fr k1 (by omega) (by omega)
  refine ar_push i_X7_primitiveCompletions_34 ?_
  refine ar_st i_X7_primitiveCompletions_35 rfl rfl ?_
  refine ar_ld i_X7_primitiveCompletions_36 rfl rfl ?_
  refine ar_gf i_X7_primitiveCompletions_37 (o1) rfl ?_
  refine ar_ld i_X7_primitiveCompletions_40 rfl rfl ?_
  refine av_ldi i_X7_primitiveCompletions_41 (u1) (by omega) (by omega) ?_
  rw [(w3 r hr).1]
  by_cases hn0 : N r = 0
  · refine ar_iff i_X7_primitiveCompletions_42 rfl (fun z => z (congrArg nI hn0)) ?_
    refine ar_push i_X7_primitiveCompletions_45 ?_
    refine ar_go i_X7_primitiveCompletions_46 ?_
    refine ar_st i_X7_primitiveCompletions_54 rfl rfl ?_
    refine ar_push i_X7_primitiveCompletions_55 ?_
    refine ar_st i_X7_primitiveCompletions_56 rfl rfl ?_
    refine ar_ld i_X7_primitiveCompletions_58 rfl rfl ?_
    refine ar_ld i_X7_primitiveCompletions_60 rfl rfl ?_
    refine ar_ar i_X7_primitiveCompletions_61 rfl ?_
    refine ar_ift i_X7_primitiveCompletions_62 rfl (by decide) ?_
    refine ar_ld i_X7_primitiveCompletions_107 rfl rfl ?_
    exact ar_ret i_X7_primitiveCompletions_108 rfl ⟨by rw [show pcnt kk (N r) (G r) = 0 from if_pos hn0]; rfl, ⟨o1, fp, w5.fr k1 (by omega)⟩, k1.mono (fun q z => Or.inl z)⟩
  · refine ar_ift i_X7_primitiveCompletions_42 rfl (nI_ne0 (by omega) (by omega)) ?_
    refine ar_ld i_X7_primitiveCompletions_49 rfl rfl ?_
    refine ar_ld i_X7_primitiveCompletions_50 rfl rfl ?_
    refine ar_cr i_X7_primitiveCompletions_51 rfl ⟨_, _, _, rfl, o1⟩ (Nat.le_of_ble_eq_true rfl) (m_completionsOf d o1 hw1 hk hr) ?_
    refine ar_st i_X7_primitiveCompletions_54 rfl rfl ?_
    refine ar_push i_X7_primitiveCompletions_55 ?_
    refine ar_st i_X7_primitiveCompletions_56 rfl rfl ?_
    have e : pcnt kk (N r) (G r) = cntN (fun num => wreps (N r) (wdig kk (G r) (N r) num) = 1) (kk ^ wholes (G r) (N r)) := if_neg hn0
    rw [e]
    suffices key : ∀ j num (S1 : aq_S) (F : Nat → Int32), num + j = kk ^ wholes (G r) (N r) → mO S1 0 (nI kk) il err rd tl pc lo cur hs sv → mW S1 N G → ia S1 53 4 fl → ia S1 55 40 F → aq_fr S S1 (fun q => q = 52 ∨ q = 55) → aG (d + 3) 173 (fun o S' => o = .inl (some (.int (nI (cntN (fun num => wreps (N r) (wdig kk (G r) (N r) num) = 1) (kk ^ wholes (G r) (N r)))))) ∧ (mO S' 0 (nI kk) il err rd tl pc lo cur hs sv ∧ mP S') ∧ aq_fr S S' (fun q => q = 52 ∨ q = 55)) 58 [(0, .ref 52), (1, .int (nI r)), (2, .int (nI (cntN (fun num => wreps (N r) (wdig kk (G r) (N r) num) = 1) num))), (3, .long (lN (kk ^ wholes (G r) (N r)))), (5, .long (lN num))] [] S1 from key _ 0 S1 fp (Nat.zero_add _) o1 hw1 u1 (w5.fr k1 (by omega)) (k1.mono (fun q z => Or.inl z))
    clear k1 g1 o1 u1 hw1 S1
    intro j
    induction j with
    | zero =>
      intro num S1 F hj o1 hw1 u1 u5 hfr
      have e : num = kk ^ wholes (G r) (N r) := hj
      refine ar_ld i_X7_primitiveCompletions_58 rfl rfl ?_
      refine ar_ld i_X7_primitiveCompletions_60 rfl rfl ?_
      refine ar_ar i_X7_primitiveCompletions_61 rfl ?_
      refine ar_ift i_X7_primitiveCompletions_62 rfl (by rw [e]; exact (show (0 : Int32) ≤ lg_cmp _ _ from by rw [(lg_cmp_eq _ _).mpr rfl]; decide)) ?_
      refine ar_ld i_X7_primitiveCompletions_107 rfl rfl ?_
      exact ar_ret i_X7_primitiveCompletions_108 rfl ⟨by rw [e], ⟨o1, F, u5⟩, hfr⟩
    | succ j ih =>
      intro num S1 F hj o1 hw1 u1 u5 hfr
      have hlt : num < kk ^ wholes (G r) (N r) := by omega
      have hc : ¬ (0 : Int32) ≤ lg_cmp (lN num) (lN (kk ^ wholes (G r) (N r))) := fun z => absurd ((lg_cmp_lt _ _).mpr ((pk_lLT (by omega) (by omega)).mpr hlt)) (Int32.not_lt.mpr z)
      refine ar_ld i_X7_primitiveCompletions_58 rfl rfl ?_
      refine ar_ld i_X7_primitiveCompletions_60 rfl rfl ?_
      refine ar_ar i_X7_primitiveCompletions_61 rfl ?_
      refine ar_iff i_X7_primitiveCompletions_62 rfl (hc) ?_
      refine ar_ld i_X7_primitiveCompletions_65 rfl rfl ?_
      refine ar_ld i_X7_primitiveCompletions_66 rfl rfl ?_
      refine ar_ld i_X7_primitiveCompletions_67 rfl rfl ?_
      refine av_cv i_X7_primitiveCompletions_69 rfl ⟨_, _, _, rfl, o1⟩ (Nat.le_of_ble_eq_true rfl) (m_completes (d + 1) o1 hw1 u5 hk0 hk hr (show num < 2 ^ 63 by omega)) (fun S2 q2 => ?_)
      obtain ⟨⟨F2, q5, q6⟩, q7⟩ := q2
      have o2 := o1.fr q7 (by omega)
      have u2 := u1.fr q7 (by omega)
      refine ar_ld i_X7_primitiveCompletions_72 rfl rfl ?_
      refine ar_ld i_X7_primitiveCompletions_73 rfl rfl ?_
      refine ar_gf i_X7_primitiveCompletions_74 (o2) rfl ?_
      refine ar_push i_X7_primitiveCompletions_77 ?_
      refine ar_ld i_X7_primitiveCompletions_78 rfl rfl ?_
      refine ar_gf i_X7_primitiveCompletions_79 (o2) rfl ?_
      refine ar_ld i_X7_primitiveCompletions_82 rfl rfl ?_
      refine av_ldi i_X7_primitiveCompletions_83 (u2) (by omega) (by omega) ?_
      rw [(w3 r hr).1]
      refine ar_cr i_X7_primitiveCompletions_84 rfl trivial (Nat.le_of_ble_eq_true rfl) (m_exponentOf d q5 (fr := 0) (n := N r) (f := wdig kk (G r) (N r) num) (by omega) (by omega) (fun i hi => by rw [Nat.zero_add]; exact q6 i hi) hn0 hN) ?_
      refine ar_push i_X7_primitiveCompletions_87 ?_
      have hwl := wreps_le (f := wdig kk (G r) (N r) num) hN
      have := ih (num + 1) S2 F2 (by omega) o2 (hw1.fr q7 (by omega) (by omega)) u2 q5 (hfr.tr (q7.mono (fun q z => Or.inr z)))
      by_cases h1 : wreps (N r) (wdig kk (G r) (N r) num) = 1
      · refine ar_iff i_X7_primitiveCompletions_88 rfl (fun z => z (congrArg nI h1)) ?_
        refine ar_push i_X7_primitiveCompletions_91 ?_
        refine ar_go i_X7_primitiveCompletions_92 ?_
        refine ar_ar i_X7_primitiveCompletions_96 rfl ?_
        rw [nI_1]
        refine ar_st i_X7_primitiveCompletions_97 rfl rfl ?_
        refine ar_ld i_X7_primitiveCompletions_98 rfl rfl ?_
        refine ar_push i_X7_primitiveCompletions_100 ?_
        refine ar_ar i_X7_primitiveCompletions_101 rfl ?_
        rw [lN_1]
        refine ar_st i_X7_primitiveCompletions_102 rfl rfl ?_
        refine ar_go i_X7_primitiveCompletions_104 ?_
        rw [cntN_y (p := fun num => wreps (N r) (wdig kk (G r) (N r) num) = 1) h1] at this
        exact this
      · refine ar_ift i_X7_primitiveCompletions_88 rfl (fun z => h1 (nI_inj (b := 1) (by omega) (by omega) z)) ?_
        refine ar_push i_X7_primitiveCompletions_95 ?_
        refine ar_ar i_X7_primitiveCompletions_96 rfl ?_
        rw [Int32.add_zero]
        refine ar_st i_X7_primitiveCompletions_97 rfl rfl ?_
        refine ar_ld i_X7_primitiveCompletions_98 rfl rfl ?_
        refine ar_push i_X7_primitiveCompletions_100 ?_
        refine ar_ar i_X7_primitiveCompletions_101 rfl ?_
        rw [lN_1]
        refine ar_st i_X7_primitiveCompletions_102 rfl rfl ?_
        refine ar_go i_X7_primitiveCompletions_104 ?_
        rw [cntN_n (p := fun num => wreps (N r) (wdig kk (G r) (N r) num) = 1) h1] at this
        exact this
end
