/-! ===== HoleWords: completions, occurrences ===== -/
section
theorem pw_ok {k c : Nat} (hk : k ≤ 3) (hc : c < 40) (h : ¬ (k = 3 ∧ c = 39)) : k ^ c * k ≤ 9223372036854775807 := by
  rw [← Nat.pow_succ]
  by_cases e : k = 3
  · subst e
    exact Nat.le_trans (Nat.pow_le_pow_right (by omega) (show c + 1 ≤ 39 by omega)) (by decide +kernel)
  · exact Nat.le_trans (Nat.pow_le_pow_left (show k ≤ 2 by omega) _) (Nat.le_trans (Nat.pow_le_pow_right (by omega) (show c + 1 ≤ 40 by omega)) (by decide +kernel))
theorem pw_lt {k c : Nat} (hk : k ≤ 3) (hc : c ≤ 40) (h : ¬ (k = 3 ∧ c = 40)) : k ^ c < 2 ^ 63 := by
  by_cases e : k = 3
  · subst e
    exact Nat.lt_of_le_of_lt (Nat.pow_le_pow_right (by omega) (show c ≤ 39 by omega)) (by decide +kernel)
  · exact Nat.lt_of_le_of_lt (Nat.pow_le_pow_left (show k ≤ 2 by omega) _) (Nat.lt_of_le_of_lt (Nat.pow_le_pow_right (by omega) hc) (by decide +kernel))
theorem lN_nn {n : Nat} (h : n < 2 ^ 63) : ¬ lN n = -1 := fun e => by
  have := congrArg Int64.toInt e
  rw [pk_lT h] at this
  have h2 : (-1 : Int64).toInt = -1 := by decide +kernel
  omega
/-- too many completions for a long -/
def cBig (k h : Nat) : Prop := k = 3 ∧ h = 40
noncomputable def cCnt (k h : Nat) : Int64 := pif (cBig k h) (-1) (lN (k ^ h))
theorem x_completionsOf (d : Nat) {S : aq_S} {w n k : Nat} {f : Nat → Int32} (hw : isW S w n f) (hk0 : 0 < k) (hk : k ≤ 3) : aX (d + 3) 119 [.ref w, .int (nI k)] S (fun o S' => o = .inl (some (.long (cCnt k (wholes f n)))) ∧ S' = S) := by
  have hn := hw.le
  have hh := wholes_le f n
  refine ar_run (Nat.le_of_ble_eq_true rfl) (fun o S1 h => aq_le_of (aq_le_refl S) h) ?_
  refine ar_push i_X6_completionsOf_0 ?_
  refine ar_st i_X6_completionsOf_1 rfl rfl ?_
  refine ar_ld i_X6_completionsOf_2 rfl rfl ?_
  refine ar_cr i_X6_completionsOf_3 rfl ⟨_, _, _, rfl, hw.obj⟩ (Nat.le_of_ble_eq_true rfl) (w_holeCount d hw) ?_
  refine ar_st i_X6_completionsOf_6 rfl rfl ?_
  suffices key : ∀ j c, c + j = wholes f n → ¬ (k = 3 ∧ c = 40) → aG (d + 2) 119 (fun o S' => o = .inl (some (.long (cCnt k (wholes f n)))) ∧ S' = S) 8 [(0, .ref w), (1, .int (nI k)), (2, .long (lN (k ^ c))), (4, .int (nI j))] [] S from key (wholes f n) 0 (by omega) (by omega)
  intro j
  induction j with
  | zero =>
    intro c hc hb
    refine ar_ld i_X6_completionsOf_8 rfl rfl ?_
    refine ar_ift i_X6_completionsOf_10 rfl (nI_le (a := 0) (b := 0) (by omega) (by omega)) ?_
    refine ar_ld i_X6_completionsOf_44 rfl rfl ?_
    exact ar_ret i_X6_completionsOf_45 rfl ⟨by rw [show wholes f n = c by omega]; unfold cCnt; rw [pif_f (P := cBig k c) hb], rfl⟩
  | succ j ih =>
    intro c hc hb
    have fin : ¬ (k = 3 ∧ c = 39) → aG (d + 2) 119 (fun o S' => o = .inl (some (.long (cCnt k (wholes f n)))) ∧ S' = S) 33 [(0, .ref w), (1, .int (nI k)), (2, .long (lN (k ^ c))), (4, .int (nI (j + 1)))] [] S := by
      intro hb2
      refine ar_ld i_X6_completionsOf_33 rfl rfl ?_
      refine ar_ld i_X6_completionsOf_34 rfl rfl ?_
      refine ar_ar i_X6_completionsOf_35 rfl ?_
      rw [nI_l (by omega)]
      refine ar_ar i_X6_completionsOf_36 rfl ?_
      rw [lN_mul, ← Nat.pow_succ]
      refine ar_st i_X6_completionsOf_37 rfl rfl ?_
      refine ar_inc i_X6_completionsOf_38 rfl rfl ?_
      refine ar_go i_X6_completionsOf_41 ?_
      rw [nI_dec]
      exact ih (c + 1) (by omega) (by omega)
    refine ar_ld i_X6_completionsOf_8 rfl rfl ?_
    refine ar_iff i_X6_completionsOf_10 rfl (nI_nle (by omega) (by omega)) ?_
    refine ar_ld i_X6_completionsOf_13 rfl rfl ?_
    refine ar_push i_X6_completionsOf_14 ?_
    by_cases hk1 : k = 1
    · subst hk1
      refine ar_ift i_X6_completionsOf_15 rfl (nI_le (a := 1) (b := 1) (by omega) (by omega)) ?_
      exact fin (by omega)
    · refine ar_iff i_X6_completionsOf_15 rfl (nI_ge (a := 1) (by omega) (by omega)) ?_
      refine ar_ld i_X6_completionsOf_18 rfl rfl ?_
      refine ar_push i_X6_completionsOf_19 ?_
      refine ar_ld i_X6_completionsOf_22 rfl rfl ?_
      refine ar_ar i_X6_completionsOf_23 rfl ?_
      rw [nI_l (by omega)]
      refine ar_arc i_X6_completionsOf_24 rfl (fun z => by rw [show (0 : Int64) = lN 0 from rfl, pk_lEQ (by omega) (by omega)] at z; omega) ?_
      rw [show (9223372036854775807 : Int64) = lN 9223372036854775807 from rfl, pk_lDiv (by omega) hk0 (by omega)]
      refine ar_ar i_X6_completionsOf_25 rfl ?_
      have hdl : 9223372036854775807 / k < 2 ^ 63 := Nat.lt_of_le_of_lt (Nat.div_le_self _ _) (by omega)
      by_cases hb2 : k = 3 ∧ c = 39
      · obtain ⟨e1, e2⟩ := hb2
        subst e1 e2
        refine ar_iff i_X6_completionsOf_26 rfl (fun z => absurd ((lg_cmp_le _ _).mp z) (by decide +kernel)) ?_
        refine ar_push i_X6_completionsOf_29 ?_
        exact ar_ret i_X6_completionsOf_32 rfl ⟨by rw [show wholes f n = 40 by omega]; unfold cCnt; rw [pif_t (P := cBig 3 40) ⟨rfl, rfl⟩], rfl⟩
      · refine ar_ift i_X6_completionsOf_26 rfl ((lg_cmp_le _ _).mpr ((pk_lLE (pw_lt hk (by omega) hb) hdl).mpr ((Nat.le_div_iff_mul_le hk0).mpr (pw_ok hk (by omega) hb2)))) ?_
        exact fin hb2
theorem x_completionCount_r (d : Nat) {S : aq_S} {k : Nat} {hs : Int32} {a0 : Int32} (h : hT S k hs) (hp : a0 < 0 ∨ nI 4 ≤ a0) : aX (d + 3) 90 [.ref 1, .int a0] S (fun o S' => o = .inr "java/lang/IllegalArgumentException" ∧ S' = aq_thrown S) := by
  refine ar_run (Nat.le_of_ble_eq_true rfl) (fun o S1 h => aq_le_of (aq_le_thr S) h) ?_
  refine ar_ld i_X6_completionCount_0 rfl rfl ?_
  refine ar_ld i_X6_completionCount_1 rfl rfl ?_
  exact av_cx i_X6_completionCount_2 rfl ⟨_, _, _, rfl, (h.1)⟩ (Nat.le_of_ble_eq_true rfl) (x_wordIn_no d h hp) (fun S1 h => ⟨rfl, h⟩)
theorem x_completionCount_b (d : Nat) {S : aq_S} {k r : Nat} {hs : Int32} {N : Nat → Nat} {G : Nat → Nat → Int32} (h : hT S k hs) (hw : hWs S 2 N G) (hk0 : 0 < k) (hk : k ≤ 3) (hr : r < 4) (hb : cBig k (wholes (G r) (N r))) : aX (d + 4) 90 [.ref 1, .int (nI r)] S (fun o S' => o = .inr "java/lang/ArithmeticException" ∧ S' = aq_thrown S) := by
  have hwr := hw r hr
  refine ar_run (Nat.le_of_ble_eq_true rfl) (fun o S1 h => aq_le_of (aq_le_thr S) h) ?_
  refine ar_ld i_X6_completionCount_0 rfl rfl ?_
  refine ar_ld i_X6_completionCount_1 rfl rfl ?_
  refine ar_cr i_X6_completionCount_2 rfl ⟨_, _, _, rfl, (h.1)⟩ (Nat.le_of_ble_eq_true rfl) (x_wordIn (d + 1) h hr) ?_
  refine ar_ld i_X6_completionCount_5 rfl rfl ?_
  refine ar_gf i_X6_completionCount_6 (h.1) rfl ?_
  refine ar_gf i_X6_completionCount_9 (h.2.1) rfl ?_
  refine ar_cr i_X6_completionCount_12 rfl trivial (Nat.le_of_ble_eq_true rfl) (x_completionsOf d hwr hk0 hk) ?_
  refine ar_st i_X6_completionCount_15 rfl rfl ?_
  refine ar_ld i_X6_completionCount_16 rfl rfl ?_
  refine ar_push i_X6_completionCount_17 ?_
  refine ar_ar i_X6_completionCount_20 rfl ?_
  unfold cCnt
  rw [pif_t hb]
  refine ar_iff i_X6_completionCount_21 rfl (fun z => z ((lg_cmp_eq _ _).mpr rfl)) ?_
  exact ar_thr i_X6_completionCount_24 (Nat.le_of_ble_eq_true rfl) ⟨rfl, rfl⟩
theorem x_completionCount (d : Nat) {S : aq_S} {k r : Nat} {hs : Int32} {N : Nat → Nat} {G : Nat → Nat → Int32} (h : hT S k hs) (hw : hWs S 2 N G) (hk0 : 0 < k) (hk : k ≤ 3) (hr : r < 4) (hb : ¬ cBig k (wholes (G r) (N r))) : aX (d + 4) 90 [.ref 1, .int (nI r)] S (fun o S' => o = .inl (some (.long (lN (k ^ wholes (G r) (N r))))) ∧ S' = S) := by
  have hwr := hw r hr
  have hn := hwr.le
  have hh := wholes_le (G r) (N r)
  refine ar_run (Nat.le_of_ble_eq_true rfl) (fun o S1 h => aq_le_of (aq_le_refl S) h) ?_
  refine ar_ld i_X6_completionCount_0 rfl rfl ?_
  refine ar_ld i_X6_completionCount_1 rfl rfl ?_
  refine ar_cr i_X6_completionCount_2 rfl ⟨_, _, _, rfl, (h.1)⟩ (Nat.le_of_ble_eq_true rfl) (x_wordIn (d + 1) h hr) ?_
  refine ar_ld i_X6_completionCount_5 rfl rfl ?_
  refine ar_gf i_X6_completionCount_6 (h.1) rfl ?_
  refine ar_gf i_X6_completionCount_9 (h.2.1) rfl ?_
  refine ar_cr i_X6_completionCount_12 rfl trivial (Nat.le_of_ble_eq_true rfl) (x_completionsOf d hwr hk0 hk) ?_
  refine ar_st i_X6_completionCount_15 rfl rfl ?_
  refine ar_ld i_X6_completionCount_16 rfl rfl ?_
  refine ar_push i_X6_completionCount_17 ?_
  refine ar_ar i_X6_completionCount_20 rfl ?_
  unfold cCnt
  rw [pif_f hb]
  refine ar_ift i_X6_completionCount_21 rfl (fun z => lN_nn (pw_lt hk (by omega) hb) ((lg_cmp_eq _ _).mp z)) ?_
  refine ar_ld i_X6_completionCount_34 rfl rfl ?_
  exact ar_ret i_X6_completionCount_35 rfl ⟨rfl, rfl⟩
theorem wholes_mono (f : Nat → Int32) {a b : Nat} (h : a ≤ b) : wholes f a ≤ wholes f b := by
  induction b with
  | zero => rw [show a = 0 by omega]; exact Nat.le_refl _
  | succ b ih =>
    by_cases e : a = b + 1
    · rw [e]; exact Nat.le_refl _
    · refine Nat.le_trans (ih (by omega)) ?_
      show wholes f b ≤ wholes f b + _
      exact Nat.le_add_right _ _
/-- the symbol at i of the completion with that number -/
def wdig (k : Nat) (f : Nat → Int32) (n num i : Nat) : Int32 := if f i = -1 then nI (num / k ^ (wholes f n - wholes f (i + 1)) % k) else f i
theorem x_fillHoles (d : Nat) {S : aq_S} {w n k num : Nat} {f : Nat → Int32} (hw : isW S w n f) (hk0 : 0 < k) (hk : k ≤ 3) (hnum : num < 2 ^ 63) : aX (d + 2) 120 [.ref w, .long (lN num), .int (nI k)] S (fun o S' => o = .inl none ∧ isW S' w n (wdig k f n num) ∧ aq_fr S S' (fun q => q = w + 1)) := by
  have hn := hw.le
  refine ar_run (Nat.le_of_ble_eq_true rfl) (fun o S1 h => h.2.2.le) ?_
  refine ar_ld i_X6_fillHoles_0 rfl rfl ?_
  refine ar_st i_X6_fillHoles_1 rfl rfl ?_
  refine ar_ld i_X6_fillHoles_3 rfl rfl ?_
  refine ar_cr i_X6_fillHoles_4 rfl ⟨_, _, _, rfl, hw.obj⟩ (Nat.le_of_ble_eq_true rfl) (w_size d hw) ?_
  suffices key : ∀ i (S1 : aq_S) (F : Nat → Int32), i ≤ n → isW S1 w n F → (∀ x, i ≤ x → x < n → F x = wdig k f n num x) → (∀ x, x < i → F x = f x) → aq_fr S S1 (fun q => q = w + 1) → aG (d + 1) 120 (fun o S' => o = .inl none ∧ isW S' w n (wdig k f n num) ∧ aq_fr S S' (fun q => q = w + 1)) 11 [(0, .ref w), (1, .long (lN num)), (3, .int (nI k)), (4, .long (lN (num / k ^ (wholes f n - wholes f i)))), (6, .int (nI i - 1))] [] S1 by
    have := key n S f (Nat.le_refl n) hw (fun x h1 h2 => by omega) (fun x _ => rfl) aq_fr.rf
    rw [Nat.sub_self, Nat.pow_zero, Nat.div_one] at this
    refine ar_push i_X6_fillHoles_7 ?_
    refine ar_ar i_X6_fillHoles_8 rfl ?_
    refine ar_st i_X6_fillHoles_9 rfl rfl ?_
    exact this
  intro i
  induction i with
  | zero =>
    intro S1 F hi hF hag hre hfr
    refine ar_ld i_X6_fillHoles_11 rfl rfl ?_
    refine ar_ift i_X6_fillHoles_13 rfl (by decide +kernel) ?_
    exact ar_retv i_X6_fillHoles_55 ⟨rfl, hF.cg (fun x hx => hag x (by omega) hx), hfr⟩
  | succ i ih =>
    intro S1 F hi hF hag hre hfr
    rw [nI_pred]
    refine ar_ld i_X6_fillHoles_11 rfl rfl ?_
    refine ar_iff i_X6_fillHoles_13 rfl (nI_pos (by omega)) ?_
    refine ar_ld i_X6_fillHoles_16 rfl rfl ?_
    refine ar_ld i_X6_fillHoles_17 rfl rfl ?_
    refine ar_cr i_X6_fillHoles_19 rfl ⟨_, _, _, rfl, hF.obj⟩ (Nat.le_of_ble_eq_true rfl) (w_atj d hF i (by omega)) ?_
    rw [hre i (by omega)]
    refine ar_push i_X6_fillHoles_22 ?_
    have hd1 : num / k ^ (wholes f n - wholes f (i + 1)) < 2 ^ 63 := Nat.lt_of_le_of_lt (Nat.div_le_self _ _) hnum
    refine ar_if i_X6_fillHoles_23 rfl (fun c23 => ?_) (fun c23 => ?_)
    · refine ar_inc i_X6_fillHoles_49 rfl rfl ?_
      refine ar_go i_X6_fillHoles_52 ?_
      have := ih S1 F (by omega) hF (fun x hx hxn => by
        by_cases e : x = i
        · rw [e, hre i (by omega)]; exact (if_neg c23).symm
        · exact hag x (by omega) hxn) (fun x hx => hre x (by omega)) hfr
      rw [wholes_n c23]
      rw [Int32.sub_eq_add_neg] at this
      exact this
    · have c24 : f i = -1 := Classical.byContradiction c23
      have hmono := wholes_mono f (show i + 1 ≤ n from hi)
      rw [wholes_y c24] at hmono
      refine ar_ld i_X6_fillHoles_26 rfl rfl ?_
      refine ar_iff i_X6_fillHoles_27 rfl (nI_nle hk0 (by omega)) ?_
      refine ar_ld i_X6_fillHoles_30 rfl rfl ?_
      refine ar_ld i_X6_fillHoles_31 rfl rfl ?_
      refine ar_ld i_X6_fillHoles_33 rfl rfl ?_
      refine ar_ld i_X6_fillHoles_35 rfl rfl ?_
      refine ar_ar i_X6_fillHoles_36 rfl ?_
      rw [nI_l (by omega)]
      refine ar_arc i_X6_fillHoles_37 rfl (fun z => by rw [show (0 : Int64) = lN 0 from rfl, pk_lEQ (by omega) (by omega)] at z; omega) ?_
      rw [pk_lRem hd1 hk0 (by omega)]
      refine ar_ar i_X6_fillHoles_38 rfl ?_
      rw [lN_i]
      refine av_cv i_X6_fillHoles_39 rfl ⟨_, _, _, rfl, hF.obj⟩ (Nat.le_of_ble_eq_true rfl) (w_put d hF i (by omega) (nI (num / k ^ (wholes f n - wholes f (i + 1)) % k))) (fun S2 h2 => ?_)
      refine ar_ld i_X6_fillHoles_42 rfl rfl ?_
      refine ar_ld i_X6_fillHoles_44 rfl rfl ?_
      refine ar_ar i_X6_fillHoles_45 rfl ?_
      rw [nI_l (by omega)]
      refine ar_arc i_X6_fillHoles_46 rfl (fun z => by rw [show (0 : Int64) = lN 0 from rfl, pk_lEQ (by omega) (by omega)] at z; omega) ?_
      rw [pk_lDiv hd1 hk0 (by omega), Nat.div_div_eq_div_mul, ← Nat.pow_succ]
      refine ar_st i_X6_fillHoles_47 rfl rfl ?_
      refine ar_inc i_X6_fillHoles_49 rfl rfl ?_
      refine ar_go i_X6_fillHoles_52 ?_
      have := ih S2 (upd F i (nI (num / k ^ (wholes f n - wholes f (i + 1)) % k))) (by omega) h2.1 (fun x hx hxn => by
        by_cases e : x = i
        · rw [e, upd_eq]; exact (if_pos c24).symm
        · rw [upd_ne e]; exact hag x (by omega) hxn) (fun x hx => by rw [upd_ne (by omega)]; exact hre x (by omega)) (hfr.tr h2.2)
      rw [show (wholes f n - wholes f (i + 1)).succ = wholes f n - wholes f i by rw [wholes_y c24]; omega]
      rw [Int32.sub_eq_add_neg] at this
      exact this
theorem x_complete_r (d : Nat) {S : aq_S} {k : Nat} {hs : Int32} {a0 : Int32} {a1 : Int64} {a2 : Int32} (h : hT S k hs) (hp : a0 < 0 ∨ nI 4 ≤ a0) : aX (d + 3) 91 [.ref 1, .int a0, .long a1, .int a2] S (fun o S' => o = .inr "java/lang/IllegalArgumentException" ∧ S' = aq_thrown S) := by
  refine ar_run (Nat.le_of_ble_eq_true rfl) (fun o S1 h => aq_le_of (aq_le_thr S) h) ?_
  refine ar_ld i_X6_complete_0 rfl rfl ?_
  refine ar_ld i_X6_complete_1 rfl rfl ?_
  exact av_cx i_X6_complete_2 rfl ⟨_, _, _, rfl, (h.1)⟩ (Nat.le_of_ble_eq_true rfl) (x_wordIn_no d h hp) (fun S1 h => ⟨rfl, h⟩)
theorem x_complete_r2 (d : Nat) {S : aq_S} {k : Nat} {hs : Int32} {r0 : Nat} {a1 : Int64} {a2 : Int32} (h : hT S k hs) (h0 : r0 < 4) (hp : a2 < 0 ∨ nI 4 ≤ a2) : aX (d + 3) 91 [.ref 1, .int (nI r0), .long a1, .int a2] S (fun o S' => o = .inr "java/lang/IllegalArgumentException" ∧ S' = aq_thrown S) := by
  refine ar_run (Nat.le_of_ble_eq_true rfl) (fun o S1 h => aq_le_of (aq_le_thr S) h) ?_
  refine ar_ld i_X6_complete_0 rfl rfl ?_
  refine ar_ld i_X6_complete_1 rfl rfl ?_
  refine ar_cr i_X6_complete_2 rfl ⟨_, _, _, rfl, (h.1)⟩ (Nat.le_of_ble_eq_true rfl) (x_wordIn d h h0) ?_
  refine ar_st i_X6_complete_5 rfl rfl ?_
  refine ar_ld i_X6_complete_7 rfl rfl ?_
  refine ar_ld i_X6_complete_8 rfl rfl ?_
  exact av_cx i_X6_complete_10 rfl ⟨_, _, _, rfl, (h.1)⟩ (Nat.le_of_ble_eq_true rfl) (x_wordIn_no d h hp) (fun S1 h => ⟨rfl, h⟩)
theorem x_complete_b (d : Nat) {S : aq_S} {k r t : Nat} {hs : Int32} {a : Int64} {N : Nat → Nat} {G : Nat → Nat → Int32} (h : hT S k hs) (hw : hWs S 2 N G) (hk0 : 0 < k) (hk : k ≤ 3) (hr : r < 4) (ht : t < 4) (hb : cBig k (wholes (G r) (N r))) : aX (d + 4) 91 [.ref 1, .int (nI r), .long a, .int (nI t)] S (fun o S' => o = .inr "java/lang/ArithmeticException" ∧ S' = aq_thrown S) := by
  have hwr := hw r hr
  refine ar_run (Nat.le_of_ble_eq_true rfl) (fun o S1 h => aq_le_of (aq_le_thr S) h) ?_
  refine ar_ld i_X6_complete_0 rfl rfl ?_
  refine ar_ld i_X6_complete_1 rfl rfl ?_
  refine ar_cr i_X6_complete_2 rfl ⟨_, _, _, rfl, (h.1)⟩ (Nat.le_of_ble_eq_true rfl) (x_wordIn (d + 1) h hr) ?_
  refine ar_st i_X6_complete_5 rfl rfl ?_
  refine ar_ld i_X6_complete_7 rfl rfl ?_
  refine ar_ld i_X6_complete_8 rfl rfl ?_
  refine ar_cr i_X6_complete_10 rfl ⟨_, _, _, rfl, (h.1)⟩ (Nat.le_of_ble_eq_true rfl) (x_wordIn (d + 1) h ht) ?_
  refine ar_st i_X6_complete_13 rfl rfl ?_
  refine ar_ld i_X6_complete_15 rfl rfl ?_
  refine ar_ld i_X6_complete_17 rfl rfl ?_
  refine ar_gf i_X6_complete_18 (h.1) rfl ?_
  refine ar_gf i_X6_complete_21 (h.2.1) rfl ?_
  refine ar_cr i_X6_complete_24 rfl trivial (Nat.le_of_ble_eq_true rfl) (x_completionsOf d hwr hk0 hk) ?_
  refine ar_st i_X6_complete_27 rfl rfl ?_
  refine ar_ld i_X6_complete_29 rfl rfl ?_
  refine ar_push i_X6_complete_31 ?_
  refine ar_ar i_X6_complete_34 rfl ?_
  unfold cCnt
  rw [pif_t hb]
  refine ar_iff i_X6_complete_35 rfl (fun z => z ((lg_cmp_eq _ _).mpr rfl)) ?_
  exact ar_thr i_X6_complete_38 (Nat.le_of_ble_eq_true rfl) ⟨rfl, rfl⟩
theorem x_complete_n (d : Nat) {S : aq_S} {k r t : Nat} {hs : Int32} {a : Int64} {N : Nat → Nat} {G : Nat → Nat → Int32} (h : hT S k hs) (hw : hWs S 2 N G) (hk0 : 0 < k) (hk : k ≤ 3) (hr : r < 4) (ht : t < 4) (hb : ¬ cBig k (wholes (G r) (N r))) (ha : a < 0 ∨ lN (k ^ wholes (G r) (N r)) ≤ a) : aX (d + 4) 91 [.ref 1, .int (nI r), .long a, .int (nI t)] S (fun o S' => o = .inr "java/util/NoSuchElementException" ∧ S' = aq_thrown S) := by
  have hwr := hw r hr
  have hn := hwr.le
  have hh := wholes_le (G r) (N r)
  refine ar_run (Nat.le_of_ble_eq_true rfl) (fun o S1 h => aq_le_of (aq_le_thr S) h) ?_
  refine ar_ld i_X6_complete_0 rfl rfl ?_
  refine ar_ld i_X6_complete_1 rfl rfl ?_
  refine ar_cr i_X6_complete_2 rfl ⟨_, _, _, rfl, (h.1)⟩ (Nat.le_of_ble_eq_true rfl) (x_wordIn (d + 1) h hr) ?_
  refine ar_st i_X6_complete_5 rfl rfl ?_
  refine ar_ld i_X6_complete_7 rfl rfl ?_
  refine ar_ld i_X6_complete_8 rfl rfl ?_
  refine ar_cr i_X6_complete_10 rfl ⟨_, _, _, rfl, (h.1)⟩ (Nat.le_of_ble_eq_true rfl) (x_wordIn (d + 1) h ht) ?_
  refine ar_st i_X6_complete_13 rfl rfl ?_
  refine ar_ld i_X6_complete_15 rfl rfl ?_
  refine ar_ld i_X6_complete_17 rfl rfl ?_
  refine ar_gf i_X6_complete_18 (h.1) rfl ?_
  refine ar_gf i_X6_complete_21 (h.2.1) rfl ?_
  refine ar_cr i_X6_complete_24 rfl trivial (Nat.le_of_ble_eq_true rfl) (x_completionsOf d hwr hk0 hk) ?_
  refine ar_st i_X6_complete_27 rfl rfl ?_
  refine ar_ld i_X6_complete_29 rfl rfl ?_
  refine ar_push i_X6_complete_31 ?_
  refine ar_ar i_X6_complete_34 rfl ?_
  unfold cCnt
  rw [pif_f hb]
  refine ar_ift i_X6_complete_35 rfl (fun z => lN_nn (pw_lt hk (by omega) hb) ((lg_cmp_eq _ _).mp z)) ?_
  refine ar_ld i_X6_complete_48 rfl rfl ?_
  refine ar_push i_X6_complete_49 ?_
  refine ar_ar i_X6_complete_50 rfl ?_
  refine ar_if i_X6_complete_51 rfl (fun c51 => ?_) (fun c51 => ?_)
  · exact ar_thr i_X6_complete_61 (Nat.le_of_ble_eq_true rfl) ⟨rfl, rfl⟩
  · refine ar_ld i_X6_complete_54 rfl rfl ?_
    refine ar_ld i_X6_complete_55 rfl rfl ?_
    refine ar_ar i_X6_complete_57 rfl ?_
    refine ar_iff i_X6_complete_58 rfl (fun z => absurd ((lg_cmp_lt _ _).mp z) (Int64.not_lt.mpr (ha.resolve_left (fun u => c51 ((lg_cmp_lt _ _).mpr u))))) ?_
    exact ar_thr i_X6_complete_61 (Nat.le_of_ble_eq_true rfl) ⟨rfl, rfl⟩
theorem x_complete (d : Nat) {S : aq_S} {k r t num : Nat} {hs : Int32} {N : Nat → Nat} {G : Nat → Nat → Int32} (h : hT S k hs) (hw : hWs S 2 N G) (hk0 : 0 < k) (hk : k ≤ 3) (hr : r < 4) (ht : t < 4) (hb : ¬ cBig k (wholes (G r) (N r))) (ha : num < k ^ wholes (G r) (N r)) : aX (d + 4) 91 [.ref 1, .int (nI r), .long (lN num), .int (nI t)] S (fun o S' => o = .inl (some (.int (nI (N r)))) ∧ isW S' (6 + 2 * t) (N r) (wdig k (G r) (N r) num) ∧ aq_fr S S' (fun c => c = 6 + 2 * t ∨ c = 6 + 2 * t + 1)) := by
  have hwr := hw r hr
  have hwt := hw t ht
  have hn := hwr.le
  have hh := wholes_le (G r) (N r)
  have hpw := pw_lt hk (show wholes (G r) (N r) ≤ 40 by omega) hb
  have hnum : num < 2 ^ 63 := by omega
  refine ar_run (Nat.le_of_ble_eq_true rfl) (fun o S1 h => h.2.2.le) ?_
  refine ar_ld i_X6_complete_0 rfl rfl ?_
  refine ar_ld i_X6_complete_1 rfl rfl ?_
  refine ar_cr i_X6_complete_2 rfl ⟨_, _, _, rfl, (h.1)⟩ (Nat.le_of_ble_eq_true rfl) (x_wordIn (d + 1) h hr) ?_
  refine ar_st i_X6_complete_5 rfl rfl ?_
  refine ar_ld i_X6_complete_7 rfl rfl ?_
  refine ar_ld i_X6_complete_8 rfl rfl ?_
  refine ar_cr i_X6_complete_10 rfl ⟨_, _, _, rfl, (h.1)⟩ (Nat.le_of_ble_eq_true rfl) (x_wordIn (d + 1) h ht) ?_
  refine ar_st i_X6_complete_13 rfl rfl ?_
  refine ar_ld i_X6_complete_15 rfl rfl ?_
  refine ar_ld i_X6_complete_17 rfl rfl ?_
  refine ar_gf i_X6_complete_18 (h.1) rfl ?_
  refine ar_gf i_X6_complete_21 (h.2.1) rfl ?_
  refine ar_cr i_X6_complete_24 rfl trivial (Nat.le_of_ble_eq_true rfl) (x_completionsOf d hwr hk0 hk) ?_
  refine ar_st i_X6_complete_27 rfl rfl ?_
  refine ar_ld i_X6_complete_29 rfl rfl ?_
  refine ar_push i_X6_complete_31 ?_
  refine ar_ar i_X6_complete_34 rfl ?_
  unfold cCnt
  rw [pif_f hb]
  refine ar_ift i_X6_complete_35 rfl (fun z => lN_nn hpw ((lg_cmp_eq _ _).mp z)) ?_
  refine ar_ld i_X6_complete_48 rfl rfl ?_
  refine ar_push i_X6_complete_49 ?_
  refine ar_ar i_X6_complete_50 rfl ?_
  refine ar_iff i_X6_complete_51 rfl (fun z => by have := (lg_cmp_lt _ _).mp z; rw [show (0 : Int64) = lN 0 from rfl, pk_lLT hnum (by omega)] at this; omega) ?_
  refine ar_ld i_X6_complete_54 rfl rfl ?_
  refine ar_ld i_X6_complete_55 rfl rfl ?_
  refine ar_ar i_X6_complete_57 rfl ?_
  refine ar_ift i_X6_complete_58 rfl ((lg_cmp_lt _ _).mpr ((pk_lLT hnum hpw).mpr ha)) ?_
  refine ar_ld i_X6_complete_71 rfl rfl ?_
  refine ar_ld i_X6_complete_73 rfl rfl ?_
  refine av_cv i_X6_complete_75 rfl ⟨_, _, _, rfl, hwt.obj⟩ (Nat.le_of_ble_eq_true rfl) (w_copyFrom (d + 1) hwt hwr) (fun S1 h1 => ?_)
  have hT1 := h.fr h1.2 (by omega)
  refine ar_ld i_X6_complete_78 rfl rfl ?_
  refine ar_ld i_X6_complete_80 rfl rfl ?_
  refine ar_ld i_X6_complete_81 rfl rfl ?_
  refine ar_gf i_X6_complete_82 (hT1.1) rfl ?_
  refine ar_gf i_X6_complete_85 (hT1.2.1) rfl ?_
  refine av_cv i_X6_complete_88 rfl trivial (Nat.le_of_ble_eq_true rfl) (x_fillHoles (d + 1) h1.1 hk0 hk hnum) (fun S2 h2 => ?_)
  refine ar_ld i_X6_complete_91 rfl rfl ?_
  refine ar_cr i_X6_complete_93 rfl ⟨_, _, _, rfl, h2.1.obj⟩ (Nat.le_of_ble_eq_true rfl) (w_size (d + 2) h2.1) ?_
  exact ar_ret i_X6_complete_96 rfl ⟨rfl, h2.1, h1.2.tr (h2.2.mono (fun c z => Or.inr z))⟩
theorem x_occurrences_r (d : Nat) {S : aq_S} {k : Nat} {hs : Int32} {a0 : Int32} {a1 : Int32} (h : hT S k hs) (hp : a0 < 0 ∨ nI 4 ≤ a0) : aX (d + 3) 94 [.ref 1, .int a0, .int a1] S (fun o S' => o = .inr "java/lang/IllegalArgumentException" ∧ S' = aq_thrown S) := by
  refine ar_run (Nat.le_of_ble_eq_true rfl) (fun o S1 h => aq_le_of (aq_le_thr S) h) ?_
  refine ar_ld i_X6_occurrences_0 rfl rfl ?_
  refine ar_ld i_X6_occurrences_1 rfl rfl ?_
  exact av_cx i_X6_occurrences_2 rfl ⟨_, _, _, rfl, (h.1)⟩ (Nat.le_of_ble_eq_true rfl) (x_wordIn_no d h hp) (fun S1 h => ⟨rfl, h⟩)
theorem x_occurrences_r2 (d : Nat) {S : aq_S} {k : Nat} {hs : Int32} {r0 : Nat} {a1 : Int32} (h : hT S k hs) (h0 : r0 < 4) (hp : a1 < 0 ∨ nI 4 ≤ a1) : aX (d + 3) 94 [.ref 1, .int (nI r0), .int a1] S (fun o S' => o = .inr "java/lang/IllegalArgumentException" ∧ S' = aq_thrown S) := by
  refine ar_run (Nat.le_of_ble_eq_true rfl) (fun o S1 h => aq_le_of (aq_le_thr S) h) ?_
  refine ar_ld i_X6_occurrences_0 rfl rfl ?_
  refine ar_ld i_X6_occurrences_1 rfl rfl ?_
  refine ar_cr i_X6_occurrences_2 rfl ⟨_, _, _, rfl, (h.1)⟩ (Nat.le_of_ble_eq_true rfl) (x_wordIn d h h0) ?_
  refine ar_st i_X6_occurrences_5 rfl rfl ?_
  refine ar_ld i_X6_occurrences_6 rfl rfl ?_
  refine ar_ld i_X6_occurrences_7 rfl rfl ?_
  exact av_cx i_X6_occurrences_8 rfl ⟨_, _, _, rfl, (h.1)⟩ (Nat.le_of_ble_eq_true rfl) (x_wordIn_no d h hp) (fun S1 h => ⟨rfl, h⟩)
/-- at how many of the first places g fits f -/
noncomputable def wocc (f : Nat → Int32) (m : Nat) (g : Nat → Int32) : Nat → Nat
  | 0 => 0
  | j + 1 => wocc f m g j + pif (wfit f j m g) 1 0
theorem x_occurrences (d : Nat) {S : aq_S} {k p r : Nat} {hs : Int32} {N : Nat → Nat} {G : Nat → Nat → Int32} (h : hT S k hs) (hw : hWs S 2 N G) (hp : p < 4) (hr : r < 4) : aX (d + 3) 94 [.ref 1, .int (nI p), .int (nI r)] S (fun o S' => o = .inl (some (.int (nI (if N p ≤ N r then wocc (G r) (N p) (G p) (N r - N p + 1) else 0)))) ∧ S' = S) := by
  have hwr := hw r hr
  have hwp := hw p hp
  have h1 := hwr.le
  have h2 := hwp.le
  refine ar_run (Nat.le_of_ble_eq_true rfl) (fun o S1 h => aq_le_of (aq_le_refl S) h) ?_
  refine ar_ld i_X6_occurrences_0 rfl rfl ?_
  refine ar_ld i_X6_occurrences_1 rfl rfl ?_
  refine ar_cr i_X6_occurrences_2 rfl ⟨_, _, _, rfl, (h.1)⟩ (Nat.le_of_ble_eq_true rfl) (x_wordIn d h hp) ?_
  refine ar_st i_X6_occurrences_5 rfl rfl ?_
  refine ar_ld i_X6_occurrences_6 rfl rfl ?_
  refine ar_ld i_X6_occurrences_7 rfl rfl ?_
  refine ar_cr i_X6_occurrences_8 rfl ⟨_, _, _, rfl, (h.1)⟩ (Nat.le_of_ble_eq_true rfl) (x_wordIn d h hr) ?_
  refine ar_st i_X6_occurrences_11 rfl rfl ?_
  refine ar_push i_X6_occurrences_13 ?_
  refine ar_st i_X6_occurrences_14 rfl rfl ?_
  refine ar_push i_X6_occurrences_16 ?_
  refine ar_st i_X6_occurrences_17 rfl rfl ?_
  by_cases hle : N p ≤ N r
  · rw [if_pos hle]
    suffices key : ∀ j i, i + j = N r - N p + 1 → aG (d + 2) 94 (fun o S' => o = .inl (some (.int (nI (wocc (G r) (N p) (G p) (N r - N p + 1))))) ∧ S' = S) 19 [(0, .ref 1), (1, .int (nI p)), (2, .int (nI r)), (3, .ref (6 + 2 * p)), (4, .ref (6 + 2 * r)), (5, .int (nI (wocc (G r) (N p) (G p) i))), (6, .int (nI i))] [] S from key (N r - N p + 1) 0 (by omega)
    intro j
    induction j with
    | zero =>
      intro i hi
      refine ar_ld i_X6_occurrences_19 rfl rfl ?_
      refine ar_ld i_X6_occurrences_21 rfl rfl ?_
      refine ar_cr i_X6_occurrences_23 rfl ⟨_, _, _, rfl, hwr.obj⟩ (Nat.le_of_ble_eq_true rfl) (w_size (d + 1) hwr) ?_
      refine ar_ld i_X6_occurrences_26 rfl rfl ?_
      refine ar_cr i_X6_occurrences_27 rfl ⟨_, _, _, rfl, hwp.obj⟩ (Nat.le_of_ble_eq_true rfl) (w_size (d + 1) hwp) ?_
      refine ar_ar i_X6_occurrences_30 rfl ?_
      rw [pk_sub hle]
      refine ar_ift i_X6_occurrences_31 rfl (nI_lt (by omega) (by omega)) ?_
      refine ar_ld i_X6_occurrences_54 rfl rfl ?_
      exact ar_ret i_X6_occurrences_56 rfl ⟨by rw [show i = N r - N p + 1 by omega], rfl⟩
    | succ j ih =>
      intro i hi
      have := ih (i + 1) (by omega)
      rw [← nI_1] at this
      refine ar_ld i_X6_occurrences_19 rfl rfl ?_
      refine ar_ld i_X6_occurrences_21 rfl rfl ?_
      refine ar_cr i_X6_occurrences_23 rfl ⟨_, _, _, rfl, hwr.obj⟩ (Nat.le_of_ble_eq_true rfl) (w_size (d + 1) hwr) ?_
      refine ar_ld i_X6_occurrences_26 rfl rfl ?_
      refine ar_cr i_X6_occurrences_27 rfl ⟨_, _, _, rfl, hwp.obj⟩ (Nat.le_of_ble_eq_true rfl) (w_size (d + 1) hwp) ?_
      refine ar_ar i_X6_occurrences_30 rfl ?_
      rw [pk_sub hle]
      refine ar_iff i_X6_occurrences_31 rfl (nI_nlt (by omega) (by omega)) ?_
      refine ar_ld i_X6_occurrences_34 rfl rfl ?_
      refine ar_ld i_X6_occurrences_36 rfl rfl ?_
      refine ar_ld i_X6_occurrences_38 rfl rfl ?_
      refine ar_cr i_X6_occurrences_39 rfl ⟨_, _, _, rfl, hwr.obj⟩ (Nat.le_of_ble_eq_true rfl) (w_agreesAt d hwr hwp i (by omega)) ?_
      by_cases hf : wfit (G r) i (N p) (G p)
      · refine ar_iff i_X6_occurrences_42 rfl (fun z => bI_nz.mpr hf z) ?_
        refine ar_inc i_X6_occurrences_45 rfl rfl ?_
        refine ar_inc i_X6_occurrences_48 rfl rfl ?_
        refine ar_go i_X6_occurrences_51 ?_
        rw [show wocc (G r) (N p) (G p) (i + 1) = wocc (G r) (N p) (G p) i + 1 by show _ + pif _ 1 0 = _; rw [pif_t hf], ← nI_1] at this
        exact this
      · refine ar_ift i_X6_occurrences_42 rfl (bI_f hf) ?_
        refine ar_inc i_X6_occurrences_48 rfl rfl ?_
        refine ar_go i_X6_occurrences_51 ?_
        rw [show wocc (G r) (N p) (G p) (i + 1) = wocc (G r) (N p) (G p) i by show _ + pif _ 1 0 = _; rw [pif_f hf]; rfl] at this
        exact this
  · rw [if_neg hle]
    refine ar_ld i_X6_occurrences_19 rfl rfl ?_
    refine ar_ld i_X6_occurrences_21 rfl rfl ?_
    refine ar_cr i_X6_occurrences_23 rfl ⟨_, _, _, rfl, hwr.obj⟩ (Nat.le_of_ble_eq_true rfl) (w_size (d + 1) hwr) ?_
    refine ar_ld i_X6_occurrences_26 rfl rfl ?_
    refine ar_cr i_X6_occurrences_27 rfl ⟨_, _, _, rfl, hwp.obj⟩ (Nat.le_of_ble_eq_true rfl) (w_size (d + 1) hwp) ?_
    refine ar_ar i_X6_occurrences_30 rfl ?_
    refine ar_ift i_X6_occurrences_31 rfl (by rw [Int32.lt_iff_toInt_lt, pk_sub_toInt (by omega) (by omega)]; show _ < (0 : Int); omega) ?_
    refine ar_ld i_X6_occurrences_54 rfl rfl ?_
    exact ar_ret i_X6_occurrences_56 rfl ⟨rfl, rfl⟩
end
