/-! ===== HoleWords: periods, completions, occurrences ===== -/
section
theorem x_isPeriod_r (d : Nat) {S : aq_S} {k : Nat} {hs : Int32} {a0 : Int32} {a1 : Int32} {a2 : Int32} (h : hT S k hs) (hp : a0 < 0 ∨ nI 4 ≤ a0) : aX (d + 3) 84 [.ref 1, .int a0, .int a1, .int a2] S (fun o S' => o = .inr "java/lang/IllegalArgumentException" ∧ S' = aq_thrown S) := by
  refine ar_run (Nat.le_of_ble_eq_true rfl) (fun o S1 h => aq_le_of (aq_le_thr S) h) ?_
  refine ar_ld i_X6_isPeriod_0 rfl rfl ?_
  refine ar_ld i_X6_isPeriod_1 rfl rfl ?_
  exact av_cx i_X6_isPeriod_2 rfl ⟨_, _, _, rfl, (h.1)⟩ (Nat.le_of_ble_eq_true rfl) (x_wordIn_no d h hp) (fun S1 h => ⟨rfl, h⟩)
theorem x_isPeriod_p (d : Nat) {S : aq_S} {k r : Nat} {hs p v : Int32} {N : Nat → Nat} {G : Nat → Nat → Int32} (h : hT S k hs) (hw : hWs S 2 N G) (hr : r < 4) (hp : p < 1 ∨ nI (N r + 1) ≤ p) : aX (d + 4) 84 [.ref 1, .int (nI r), .int p, .int v] S (fun o S' => o = .inr "java/lang/IllegalArgumentException" ∧ S' = aq_thrown S) := by
  have hwr := hw r hr
  have h1 := hwr.le
  refine ar_run (Nat.le_of_ble_eq_true rfl) (fun o S1 h => aq_le_of (aq_le_thr S) h) ?_
  refine ar_ld i_X6_isPeriod_0 rfl rfl ?_
  refine ar_ld i_X6_isPeriod_1 rfl rfl ?_
  refine ar_cr i_X6_isPeriod_2 rfl ⟨_, _, _, rfl, (h.1)⟩ (Nat.le_of_ble_eq_true rfl) (x_wordIn (d + 1) h hr) ?_
  refine ar_st i_X6_isPeriod_5 rfl rfl ?_
  refine ar_ld i_X6_isPeriod_7 rfl rfl ?_
  refine ar_push i_X6_isPeriod_8 ?_
  refine ar_if i_X6_isPeriod_9 rfl (fun c9 => ?_) (fun c9 => ?_)
  · exact ar_thr i_X6_isPeriod_21 (Nat.le_of_ble_eq_true rfl) ⟨rfl, rfl⟩
  · refine ar_ld i_X6_isPeriod_12 rfl rfl ?_
    refine ar_ld i_X6_isPeriod_13 rfl rfl ?_
    refine ar_cr i_X6_isPeriod_15 rfl ⟨_, _, _, rfl, hwr.obj⟩ (Nat.le_of_ble_eq_true rfl) (w_size (d + 2) hwr) ?_
    refine ar_iff i_X6_isPeriod_18 rfl (fun z => absurd (Int32.le_trans (hp.resolve_left c9) z) (nI_ge (by omega) (by omega))) ?_
    exact ar_thr i_X6_isPeriod_21 (Nat.le_of_ble_eq_true rfl) ⟨rfl, rfl⟩
theorem x_isPeriod (d : Nat) {S : aq_S} {k r p : Nat} {hs v : Int32} {N : Nat → Nat} {G : Nat → Nat → Int32} (h : hT S k hs) (hw : hWs S 2 N G) (hr : r < 4) (hp0 : 0 < p) (hp : p ≤ N r) : aX (d + 4) 84 [.ref 1, .int (nI r), .int (nI p), .int v] S (fun o S' => o = .inl (some (.int (bI (perV v (N r) (G r) p)))) ∧ S' = S) := by
  have hwr := hw r hr
  have h1 := hwr.le
  refine ar_run (Nat.le_of_ble_eq_true rfl) (fun o S1 h => aq_le_of (aq_le_refl S) h) ?_
  refine ar_ld i_X6_isPeriod_0 rfl rfl ?_
  refine ar_ld i_X6_isPeriod_1 rfl rfl ?_
  refine ar_cr i_X6_isPeriod_2 rfl ⟨_, _, _, rfl, (h.1)⟩ (Nat.le_of_ble_eq_true rfl) (x_wordIn (d + 1) h hr) ?_
  refine ar_st i_X6_isPeriod_5 rfl rfl ?_
  refine ar_ld i_X6_isPeriod_7 rfl rfl ?_
  refine ar_push i_X6_isPeriod_8 ?_
  refine ar_iff i_X6_isPeriod_9 rfl (nI_nlt (b := 1) hp0 (by omega)) ?_
  refine ar_ld i_X6_isPeriod_12 rfl rfl ?_
  refine ar_ld i_X6_isPeriod_13 rfl rfl ?_
  refine ar_cr i_X6_isPeriod_15 rfl ⟨_, _, _, rfl, hwr.obj⟩ (Nat.le_of_ble_eq_true rfl) (w_size (d + 2) hwr) ?_
  refine ar_ift i_X6_isPeriod_18 rfl (nI_le hp (by omega)) ?_
  refine ar_ld i_X6_isPeriod_31 rfl rfl ?_
  refine ar_ld i_X6_isPeriod_33 rfl rfl ?_
  refine ar_ld i_X6_isPeriod_34 rfl rfl ?_
  refine ar_cr i_X6_isPeriod_35 rfl ⟨_, _, _, rfl, hwr.obj⟩ (Nat.le_of_ble_eq_true rfl) (w_hasPeriod d hwr p hp0 (by omega) v) ?_
  exact ar_ret i_X6_isPeriod_38 ((bI_01 _)) ⟨rfl, rfl⟩
theorem x_smallestPeriod_r (d : Nat) {S : aq_S} {k : Nat} {hs : Int32} {a0 : Int32} {a1 : Int32} (h : hT S k hs) (hp : a0 < 0 ∨ nI 4 ≤ a0) : aX (d + 3) 85 [.ref 1, .int a0, .int a1] S (fun o S' => o = .inr "java/lang/IllegalArgumentException" ∧ S' = aq_thrown S) := by
  refine ar_run (Nat.le_of_ble_eq_true rfl) (fun o S1 h => aq_le_of (aq_le_thr S) h) ?_
  refine ar_ld i_X6_smallestPeriod_0 rfl rfl ?_
  refine ar_ld i_X6_smallestPeriod_1 rfl rfl ?_
  exact av_cx i_X6_smallestPeriod_2 rfl ⟨_, _, _, rfl, (h.1)⟩ (Nat.le_of_ble_eq_true rfl) (x_wordIn_no d h hp) (fun S1 h => ⟨rfl, h⟩)
theorem x_smallestPeriod_e (d : Nat) {S : aq_S} {k r : Nat} {hs v : Int32} {N : Nat → Nat} {G : Nat → Nat → Int32} (h : hT S k hs) (hw : hWs S 2 N G) (hr : r < 4) (hn : N r = 0) : aX (d + 5) 85 [.ref 1, .int (nI r), .int v] S (fun o S' => o = .inr "java/util/NoSuchElementException" ∧ S' = aq_thrown S) := by
  have hwr := hw r hr
  refine ar_run (Nat.le_of_ble_eq_true rfl) (fun o S1 h => aq_le_of (aq_le_thr S) h) ?_
  refine ar_ld i_X6_smallestPeriod_0 rfl rfl ?_
  refine ar_ld i_X6_smallestPeriod_1 rfl rfl ?_
  refine ar_cr i_X6_smallestPeriod_2 rfl ⟨_, _, _, rfl, (h.1)⟩ (Nat.le_of_ble_eq_true rfl) (x_wordIn (d + 2) h hr) ?_
  refine ar_st i_X6_smallestPeriod_5 rfl rfl ?_
  refine ar_ld i_X6_smallestPeriod_6 rfl rfl ?_
  refine ar_cr i_X6_smallestPeriod_7 rfl ⟨_, _, _, rfl, hwr.obj⟩ (Nat.le_of_ble_eq_true rfl) (w_size (d + 3) hwr) ?_
  rw [hn]
  refine ar_iff i_X6_smallestPeriod_10 rfl (fun z => z rfl) ?_
  exact ar_thr i_X6_smallestPeriod_13 (Nat.le_of_ble_eq_true rfl) ⟨rfl, rfl⟩
theorem x_smallestPeriod (d : Nat) {S : aq_S} {k r : Nat} {hs v : Int32} {N : Nat → Nat} {G : Nat → Nat → Int32} (h : hT S k hs) (hw : hWs S 2 N G) (hr : r < 4) (hn : ¬ N r = 0) : aX (d + 5) 85 [.ref 1, .int (nI r), .int v] S (fun o S' => o = .inl (some (.int (nI (fper v (N r) (G r))))) ∧ S' = S) := by
  have hwr := hw r hr
  have h1 := hwr.le
  refine ar_run (Nat.le_of_ble_eq_true rfl) (fun o S1 h => aq_le_of (aq_le_refl S) h) ?_
  refine ar_ld i_X6_smallestPeriod_0 rfl rfl ?_
  refine ar_ld i_X6_smallestPeriod_1 rfl rfl ?_
  refine ar_cr i_X6_smallestPeriod_2 rfl ⟨_, _, _, rfl, (h.1)⟩ (Nat.le_of_ble_eq_true rfl) (x_wordIn (d + 2) h hr) ?_
  refine ar_st i_X6_smallestPeriod_5 rfl rfl ?_
  refine ar_ld i_X6_smallestPeriod_6 rfl rfl ?_
  refine ar_cr i_X6_smallestPeriod_7 rfl ⟨_, _, _, rfl, hwr.obj⟩ (Nat.le_of_ble_eq_true rfl) (w_size (d + 3) hwr) ?_
  refine ar_ift i_X6_smallestPeriod_10 rfl (nI_ne0 (by omega) (by omega)) ?_
  refine ar_ld i_X6_smallestPeriod_23 rfl rfl ?_
  refine ar_ld i_X6_smallestPeriod_24 rfl rfl ?_
  refine ar_cr i_X6_smallestPeriod_25 rfl ⟨_, _, _, rfl, hwr.obj⟩ (Nat.le_of_ble_eq_true rfl) (w_firstPeriod d hwr v) ?_
  exact ar_ret i_X6_smallestPeriod_28 rfl ⟨rfl, rfl⟩
theorem fper_le (v : Int32) (n : Nat) (f : Nat → Int32) : fper v n f ≤ n := by
  unfold fper
  split
  · omega
  · have := leastP_le (P := perV v n f) (n - 1) 1
    omega
theorem x_longestBorder_r (d : Nat) {S : aq_S} {k : Nat} {hs : Int32} {a0 : Int32} (h : hT S k hs) (hp : a0 < 0 ∨ nI 4 ≤ a0) : aX (d + 3) 87 [.ref 1, .int a0] S (fun o S' => o = .inr "java/lang/IllegalArgumentException" ∧ S' = aq_thrown S) := by
  refine ar_run (Nat.le_of_ble_eq_true rfl) (fun o S1 h => aq_le_of (aq_le_thr S) h) ?_
  refine ar_ld i_X6_longestBorder_0 rfl rfl ?_
  refine ar_ld i_X6_longestBorder_1 rfl rfl ?_
  exact av_cx i_X6_longestBorder_2 rfl ⟨_, _, _, rfl, (h.1)⟩ (Nat.le_of_ble_eq_true rfl) (x_wordIn_no d h hp) (fun S1 h => ⟨rfl, h⟩)
theorem x_longestBorder (d : Nat) {S : aq_S} {k r : Nat} {hs : Int32} {N : Nat → Nat} {G : Nat → Nat → Int32} (h : hT S k hs) (hw : hWs S 2 N G) (hr : r < 4) : aX (d + 5) 87 [.ref 1, .int (nI r)] S (fun o S' => o = .inl (some (.int (nI (N r - fper 1 (N r) (G r))))) ∧ S' = S) := by
  have hwr := hw r hr
  refine ar_run (Nat.le_of_ble_eq_true rfl) (fun o S1 h => aq_le_of (aq_le_refl S) h) ?_
  refine ar_ld i_X6_longestBorder_0 rfl rfl ?_
  refine ar_ld i_X6_longestBorder_1 rfl rfl ?_
  refine ar_cr i_X6_longestBorder_2 rfl ⟨_, _, _, rfl, (h.1)⟩ (Nat.le_of_ble_eq_true rfl) (x_wordIn (d + 2) h hr) ?_
  refine ar_st i_X6_longestBorder_5 rfl rfl ?_
  refine ar_ld i_X6_longestBorder_6 rfl rfl ?_
  refine ar_cr i_X6_longestBorder_7 rfl ⟨_, _, _, rfl, hwr.obj⟩ (Nat.le_of_ble_eq_true rfl) (w_size (d + 3) hwr) ?_
  refine ar_ld i_X6_longestBorder_10 rfl rfl ?_
  refine ar_push i_X6_longestBorder_11 ?_
  refine ar_cr i_X6_longestBorder_12 rfl ⟨_, _, _, rfl, hwr.obj⟩ (Nat.le_of_ble_eq_true rfl) (w_firstPeriod d hwr 1) ?_
  refine ar_ar i_X6_longestBorder_15 rfl ?_
  rw [pk_sub (fper_le _ _ _)]
  exact ar_ret i_X6_longestBorder_16 rfl ⟨rfl, rfl⟩
theorem x_isPrimitive_r (d : Nat) {S : aq_S} {k : Nat} {hs : Int32} {a0 : Int32} (h : hT S k hs) (hp : a0 < 0 ∨ nI 4 ≤ a0) : aX (d + 3) 88 [.ref 1, .int a0] S (fun o S' => o = .inr "java/lang/IllegalArgumentException" ∧ S' = aq_thrown S) := by
  refine ar_run (Nat.le_of_ble_eq_true rfl) (fun o S1 h => aq_le_of (aq_le_thr S) h) ?_
  refine ar_ld i_X6_isPrimitive_0 rfl rfl ?_
  refine ar_ld i_X6_isPrimitive_1 rfl rfl ?_
  exact av_cx i_X6_isPrimitive_2 rfl ⟨_, _, _, rfl, (h.1)⟩ (Nat.le_of_ble_eq_true rfl) (x_wordIn_no d h hp) (fun S1 h => ⟨rfl, h⟩)
theorem wreps_le {n : Nat} {f : Nat → Int32} (h : n ≤ 40) : wreps n f ≤ 40 := by
  unfold wreps
  split
  · omega
  · exact Nat.le_trans (Nat.div_le_self _ _) h
theorem x_isPrimitive (d : Nat) {S : aq_S} {k r : Nat} {hs : Int32} {N : Nat → Nat} {G : Nat → Nat → Int32} (h : hT S k hs) (hw : hWs S 2 N G) (hr : r < 4) : aX (d + 5) 88 [.ref 1, .int (nI r)] S (fun o S' => o = .inl (some (.int (bI (0 < N r ∧ wreps (N r) (G r) = 1)))) ∧ S' = S) := by
  have hwr := hw r hr
  have h1 := hwr.le
  have h2 := wreps_le (f := G r) h1
  refine ar_run (Nat.le_of_ble_eq_true rfl) (fun o S1 h => aq_le_of (aq_le_refl S) h) ?_
  refine ar_ld i_X6_isPrimitive_0 rfl rfl ?_
  refine ar_ld i_X6_isPrimitive_1 rfl rfl ?_
  refine ar_cr i_X6_isPrimitive_2 rfl ⟨_, _, _, rfl, (h.1)⟩ (Nat.le_of_ble_eq_true rfl) (x_wordIn (d + 2) h hr) ?_
  refine ar_st i_X6_isPrimitive_5 rfl rfl ?_
  refine ar_ld i_X6_isPrimitive_6 rfl rfl ?_
  refine ar_cr i_X6_isPrimitive_7 rfl ⟨_, _, _, rfl, hwr.obj⟩ (Nat.le_of_ble_eq_true rfl) (w_size (d + 3) hwr) ?_
  by_cases hn : 0 < N r
  · refine ar_iff i_X6_isPrimitive_10 rfl (nI_nle hn (by omega)) ?_
    refine ar_ld i_X6_isPrimitive_13 rfl rfl ?_
    refine ar_cr i_X6_isPrimitive_14 rfl ⟨_, _, _, rfl, hwr.obj⟩ (Nat.le_of_ble_eq_true rfl) (w_repetitions d hwr) ?_
    refine ar_push i_X6_isPrimitive_17 ?_
    by_cases he : wreps (N r) (G r) = 1
    · refine ar_iff i_X6_isPrimitive_18 rfl (fun z => z (by rw [he]; rfl)) ?_
      refine ar_push i_X6_isPrimitive_21 ?_
      refine ar_go i_X6_isPrimitive_22 ?_
      exact ar_ret i_X6_isPrimitive_26 ((Or.inr rfl)) ⟨bR_t ⟨hn, he⟩, rfl⟩
    · refine ar_ift i_X6_isPrimitive_18 rfl (fun z => he (nI_inj (b := 1) (by omega) (by omega) z)) ?_
      refine ar_push i_X6_isPrimitive_25 ?_
      exact ar_ret i_X6_isPrimitive_26 ((Or.inl rfl)) ⟨bR_f (fun z => he z.2), rfl⟩
  · have h0 : N r = 0 := by omega
    rw [h0]
    refine ar_ift i_X6_isPrimitive_10 rfl (nI_le (a := 0) (b := 0) (by omega) (by omega)) ?_
    refine ar_push i_X6_isPrimitive_25 ?_
    exact ar_ret i_X6_isPrimitive_26 ((Or.inl rfl)) ⟨bR_f (fun z => absurd z.1 (by omega)), rfl⟩
theorem x_exponent_r (d : Nat) {S : aq_S} {k : Nat} {hs : Int32} {a0 : Int32} (h : hT S k hs) (hp : a0 < 0 ∨ nI 4 ≤ a0) : aX (d + 3) 89 [.ref 1, .int a0] S (fun o S' => o = .inr "java/lang/IllegalArgumentException" ∧ S' = aq_thrown S) := by
  refine ar_run (Nat.le_of_ble_eq_true rfl) (fun o S1 h => aq_le_of (aq_le_thr S) h) ?_
  refine ar_ld i_X6_exponent_0 rfl rfl ?_
  refine ar_ld i_X6_exponent_1 rfl rfl ?_
  exact av_cx i_X6_exponent_2 rfl ⟨_, _, _, rfl, (h.1)⟩ (Nat.le_of_ble_eq_true rfl) (x_wordIn_no d h hp) (fun S1 h => ⟨rfl, h⟩)
theorem x_exponent_e (d : Nat) {S : aq_S} {k r : Nat} {hs : Int32} {N : Nat → Nat} {G : Nat → Nat → Int32} (h : hT S k hs) (hw : hWs S 2 N G) (hr : r < 4) (hn : N r = 0) : aX (d + 5) 89 [.ref 1, .int (nI r)] S (fun o S' => o = .inr "java/util/NoSuchElementException" ∧ S' = aq_thrown S) := by
  have hwr := hw r hr
  refine ar_run (Nat.le_of_ble_eq_true rfl) (fun o S1 h => aq_le_of (aq_le_thr S) h) ?_
  refine ar_ld i_X6_exponent_0 rfl rfl ?_
  refine ar_ld i_X6_exponent_1 rfl rfl ?_
  refine ar_cr i_X6_exponent_2 rfl ⟨_, _, _, rfl, (h.1)⟩ (Nat.le_of_ble_eq_true rfl) (x_wordIn (d + 2) h hr) ?_
  refine ar_st i_X6_exponent_5 rfl rfl ?_
  refine ar_ld i_X6_exponent_6 rfl rfl ?_
  refine ar_cr i_X6_exponent_7 rfl ⟨_, _, _, rfl, hwr.obj⟩ (Nat.le_of_ble_eq_true rfl) (w_size (d + 3) hwr) ?_
  rw [hn]
  refine ar_iff i_X6_exponent_10 rfl (fun z => z rfl) ?_
  exact ar_thr i_X6_exponent_13 (Nat.le_of_ble_eq_true rfl) ⟨rfl, rfl⟩
theorem x_exponent (d : Nat) {S : aq_S} {k r : Nat} {hs : Int32} {N : Nat → Nat} {G : Nat → Nat → Int32} (h : hT S k hs) (hw : hWs S 2 N G) (hr : r < 4) (hn : ¬ N r = 0) : aX (d + 5) 89 [.ref 1, .int (nI r)] S (fun o S' => o = .inl (some (.int (nI (wreps (N r) (G r))))) ∧ S' = S) := by
  have hwr := hw r hr
  have h1 := hwr.le
  refine ar_run (Nat.le_of_ble_eq_true rfl) (fun o S1 h => aq_le_of (aq_le_refl S) h) ?_
  refine ar_ld i_X6_exponent_0 rfl rfl ?_
  refine ar_ld i_X6_exponent_1 rfl rfl ?_
  refine ar_cr i_X6_exponent_2 rfl ⟨_, _, _, rfl, (h.1)⟩ (Nat.le_of_ble_eq_true rfl) (x_wordIn (d + 2) h hr) ?_
  refine ar_st i_X6_exponent_5 rfl rfl ?_
  refine ar_ld i_X6_exponent_6 rfl rfl ?_
  refine ar_cr i_X6_exponent_7 rfl ⟨_, _, _, rfl, hwr.obj⟩ (Nat.le_of_ble_eq_true rfl) (w_size (d + 3) hwr) ?_
  refine ar_ift i_X6_exponent_10 rfl (nI_ne0 (by omega) (by omega)) ?_
  refine ar_ld i_X6_exponent_23 rfl rfl ?_
  refine ar_cr i_X6_exponent_24 rfl ⟨_, _, _, rfl, hwr.obj⟩ (Nat.le_of_ble_eq_true rfl) (w_repetitions d hwr) ?_
  exact ar_ret i_X6_exponent_27 rfl ⟨rfl, rfl⟩
theorem nI_dec (j : Nat) : nI (j + 1) + (-1) = nI j := by
  rw [← nI_pred j, Int32.sub_eq_add_neg]
theorem x_commonDivisor (d : Nat) {S : aq_S} (p q : Nat) (hp0 : 0 < p) (hp : p ≤ 1000) (hq0 : 0 < q) (hq : q ≤ 1000) : aX (d + 1) 117 [.int (nI p), .int (nI q)] S (fun o S' => o = .inl (some (.int (nI (Nat.gcd p q)))) ∧ S' = S) := by
  refine ar_run (Nat.le_of_ble_eq_true rfl) (fun o S1 h => aq_le_of (aq_le_refl S) h) ?_
  refine ar_ld i_X6_commonDivisor_0 rfl rfl ?_
  refine ar_ld i_X6_commonDivisor_1 rfl rfl ?_
  refine ar_ar i_X6_commonDivisor_2 rfl ?_
  have hg0 : 0 < Nat.gcd p q := Nat.gcd_pos_of_pos_left q hp0
  suffices key : ∀ j, j ≤ p → j ≤ q → Nat.gcd p q ≤ j → aG d 117 (fun o S' => o = .inl (some (.int (nI (Nat.gcd p q)))) ∧ S' = S) 6 [(0, .int (nI p)), (1, .int (nI q)), (2, .int (nI j))] [] S by
    have e : (if nI q < nI p then nI q else nI p) = nI (min p q) := by
      by_cases hlt : q < p
      · rw [if_pos (nI_lt hlt (by omega)), Nat.min_eq_right (by omega)]
      · rw [if_neg (nI_nlt (by omega) (by omega)), Nat.min_eq_left (by omega)]
    refine ar_st i_X6_commonDivisor_5 rfl rfl ?_
    rw [e]
    exact key (min p q) (Nat.min_le_left p q) (Nat.min_le_right p q) (Nat.le_min.mpr ⟨Nat.gcd_le_left q hp0, Nat.gcd_le_right p hq0⟩)
  intro j
  induction j with
  | zero =>
    intro h1 h2 h3
    omega
  | succ j ih =>
    intro h1 h2 h3
    by_cases hj : j = 0
    · subst hj
      refine ar_ld i_X6_commonDivisor_6 rfl rfl ?_
      refine ar_push i_X6_commonDivisor_7 ?_
      refine ar_ift i_X6_commonDivisor_8 rfl (nI_le (a := 1) (b := 1) (by omega) (by omega)) ?_
      refine ar_push i_X6_commonDivisor_31 ?_
      exact ar_ret i_X6_commonDivisor_32 rfl ⟨by rw [show Nat.gcd p q = 1 by omega]; rfl, rfl⟩
    · have nx : (¬ p % (j + 1) = 0 ∨ ¬ q % (j + 1) = 0) → aG d 117 (fun o S' => o = .inl (some (.int (nI (Nat.gcd p q)))) ∧ S' = S) 25 [(0, .int (nI p)), (1, .int (nI q)), (2, .int (nI (j + 1)))] [] S := by
        intro hh
        refine ar_inc i_X6_commonDivisor_25 rfl rfl ?_
        refine ar_go i_X6_commonDivisor_28 ?_
        rw [nI_dec]
        refine ih (by omega) (by omega) ?_
        have : ¬ Nat.gcd p q = j + 1 := fun e => by
          have a1 := Nat.mod_eq_zero_of_dvd (Nat.gcd_dvd_left p q)
          have a2 := Nat.mod_eq_zero_of_dvd (Nat.gcd_dvd_right p q)
          rw [e] at a1 a2
          exact hh.elim (fun z => z a1) (fun z => z a2)
        omega
      refine ar_ld i_X6_commonDivisor_6 rfl rfl ?_
      refine ar_push i_X6_commonDivisor_7 ?_
      refine ar_iff i_X6_commonDivisor_8 rfl (nI_ge (a := 1) (by omega) (by omega)) ?_
      refine ar_ld i_X6_commonDivisor_11 rfl rfl ?_
      refine ar_ld i_X6_commonDivisor_12 rfl rfl ?_
      refine ar_arc i_X6_commonDivisor_13 rfl (nI_ne0 (by omega) (by omega)) ?_
      rw [pk_rem (by omega) (by omega) (by omega)]
      by_cases hpj : p % (j + 1) = 0
      · rw [hpj]
        refine ar_iff i_X6_commonDivisor_14 rfl (fun z => z rfl) ?_
        refine ar_ld i_X6_commonDivisor_17 rfl rfl ?_
        refine ar_ld i_X6_commonDivisor_18 rfl rfl ?_
        refine ar_arc i_X6_commonDivisor_19 rfl (nI_ne0 (by omega) (by omega)) ?_
        rw [pk_rem (by omega) (by omega) (by omega)]
        by_cases hqj : q % (j + 1) = 0
        · rw [hqj]
          refine ar_iff i_X6_commonDivisor_20 rfl (fun z => z rfl) ?_
          refine ar_ld i_X6_commonDivisor_23 rfl rfl ?_
          have e : Nat.gcd p q = j + 1 := Nat.le_antisymm h3 (Nat.le_of_dvd hg0 (Nat.dvd_gcd (Nat.dvd_of_mod_eq_zero hpj) (Nat.dvd_of_mod_eq_zero hqj)))
          exact ar_ret i_X6_commonDivisor_24 rfl ⟨by rw [e], rfl⟩
        · refine ar_ift i_X6_commonDivisor_20 rfl (nI_ne0 (by omega) (by have := Nat.mod_lt q (show j + 1 > 0 by omega); omega)) ?_
          exact nx (Or.inr hqj)
      · refine ar_ift i_X6_commonDivisor_14 rfl (nI_ne0 (by omega) (by have := Nat.mod_lt p (show j + 1 > 0 by omega); omega)) ?_
        exact nx (Or.inl hpj)
theorem x_periodBound_no (d : Nat) {S : aq_S} {p q v : Int32} (h : ¬ (((1 : Int32) ≤ p ∧ p ≤ 1000) ∧ ((1 : Int32) ≤ q ∧ q ≤ 1000) ∧ (0 ≤ v ∧ v ≤ 1))) : aX (d + 2) 86 [.ref 1, .int p, .int q, .int v] S (fun o S' => o = .inr "java/lang/IllegalArgumentException" ∧ S' = aq_thrown S) := by
  refine ar_run (Nat.le_of_ble_eq_true rfl) (fun o S1 h => aq_le_of (aq_le_thr S) h) ?_
  refine ar_ld i_X6_periodBound_0 rfl rfl ?_
  refine ar_push i_X6_periodBound_1 ?_
  refine ar_if i_X6_periodBound_2 rfl (fun c2 => ?_) (fun c2 => ?_)
  · exact ar_thr i_X6_periodBound_33 (Nat.le_of_ble_eq_true rfl) ⟨rfl, rfl⟩
  · refine ar_ld i_X6_periodBound_5 rfl rfl ?_
    refine ar_push i_X6_periodBound_6 ?_
    refine ar_if i_X6_periodBound_9 rfl (fun c9 => ?_) (fun c9 => ?_)
    · exact ar_thr i_X6_periodBound_33 (Nat.le_of_ble_eq_true rfl) ⟨rfl, rfl⟩
    · refine ar_ld i_X6_periodBound_12 rfl rfl ?_
      refine ar_push i_X6_periodBound_13 ?_
      refine ar_if i_X6_periodBound_14 rfl (fun c14 => ?_) (fun c14 => ?_)
      · exact ar_thr i_X6_periodBound_33 (Nat.le_of_ble_eq_true rfl) ⟨rfl, rfl⟩
      · refine ar_ld i_X6_periodBound_17 rfl rfl ?_
        refine ar_push i_X6_periodBound_18 ?_
        refine ar_if i_X6_periodBound_21 rfl (fun c21 => ?_) (fun c21 => ?_)
        · exact ar_thr i_X6_periodBound_33 (Nat.le_of_ble_eq_true rfl) ⟨rfl, rfl⟩
        · refine ar_ld i_X6_periodBound_24 rfl rfl ?_
          refine ar_if i_X6_periodBound_25 rfl (fun c25 => ?_) (fun c25 => ?_)
          · exact ar_thr i_X6_periodBound_33 (Nat.le_of_ble_eq_true rfl) ⟨rfl, rfl⟩
          · refine ar_ld i_X6_periodBound_28 rfl rfl ?_
            refine ar_push i_X6_periodBound_29 ?_
            refine ar_iff i_X6_periodBound_30 rfl (fun z => h ⟨⟨Int32.not_lt.mp c2, Int32.not_lt.mp c9⟩, ⟨Int32.not_lt.mp c14, Int32.not_lt.mp c21⟩, Int32.not_lt.mp c25, z⟩) ?_
            exact ar_thr i_X6_periodBound_33 (Nat.le_of_ble_eq_true rfl) ⟨rfl, rfl⟩
theorem x_periodBound (d : Nat) {S : aq_S} (p q v : Nat) (hp0 : 0 < p) (hp : p ≤ 1000) (hq0 : 0 < q) (hq : q ≤ 1000) (hv : v ≤ 1) : aX (d + 2) 86 [.ref 1, .int (nI p), .int (nI q), .int (nI v)] S (fun o S' => o = .inl (some (.int (nI (p + q - if v = 0 then Nat.gcd p q else 0)))) ∧ S' = S) := by
  have hg := Nat.gcd_le_left q hp0
  refine ar_run (Nat.le_of_ble_eq_true rfl) (fun o S1 h => aq_le_of (aq_le_refl S) h) ?_
  refine ar_ld i_X6_periodBound_0 rfl rfl ?_
  refine ar_push i_X6_periodBound_1 ?_
  refine ar_iff i_X6_periodBound_2 rfl (nI_nlt (b := 1) hp0 (by omega)) ?_
  refine ar_ld i_X6_periodBound_5 rfl rfl ?_
  refine ar_push i_X6_periodBound_6 ?_
  refine ar_iff i_X6_periodBound_9 rfl (nI_nlt (a := 1000) hp (by omega)) ?_
  refine ar_ld i_X6_periodBound_12 rfl rfl ?_
  refine ar_push i_X6_periodBound_13 ?_
  refine ar_iff i_X6_periodBound_14 rfl (nI_nlt (b := 1) hq0 (by omega)) ?_
  refine ar_ld i_X6_periodBound_17 rfl rfl ?_
  refine ar_push i_X6_periodBound_18 ?_
  refine ar_iff i_X6_periodBound_21 rfl (nI_nlt (a := 1000) hq (by omega)) ?_
  refine ar_ld i_X6_periodBound_24 rfl rfl ?_
  refine ar_iff i_X6_periodBound_25 rfl (nI_pos (by omega)) ?_
  refine ar_ld i_X6_periodBound_28 rfl rfl ?_
  refine ar_push i_X6_periodBound_29 ?_
  refine ar_ift i_X6_periodBound_30 rfl (nI_le (b := 1) hv (by omega)) ?_
  refine ar_ld i_X6_periodBound_43 rfl rfl ?_
  refine ar_push i_X6_periodBound_44 ?_
  by_cases e : v = 0
  · refine ar_ift i_X6_periodBound_45 rfl (fun z => absurd (nI_inj (b := 1) (by omega) (by omega) z) (by omega)) ?_
    refine ar_ld i_X6_periodBound_54 rfl rfl ?_
    refine ar_ld i_X6_periodBound_55 rfl rfl ?_
    refine ar_ar i_X6_periodBound_56 rfl ?_
    rw [nI_add]
    refine ar_ld i_X6_periodBound_57 rfl rfl ?_
    refine ar_ld i_X6_periodBound_58 rfl rfl ?_
    refine ar_cr i_X6_periodBound_59 rfl trivial (Nat.le_of_ble_eq_true rfl) (x_commonDivisor d p q hp0 hp hq0 hq) ?_
    refine ar_ar i_X6_periodBound_62 rfl ?_
    rw [pk_sub (by omega), if_pos e]
    exact ar_ret i_X6_periodBound_63 rfl ⟨rfl, rfl⟩
  · have e1 : v = 1 := by omega
    subst e1
    refine ar_iff i_X6_periodBound_45 rfl (fun z => z rfl) ?_
    refine ar_ld i_X6_periodBound_48 rfl rfl ?_
    refine ar_ld i_X6_periodBound_49 rfl rfl ?_
    refine ar_ar i_X6_periodBound_50 rfl ?_
    rw [nI_add, if_neg e]
    refine ar_go i_X6_periodBound_51 ?_
    exact ar_ret i_X6_periodBound_63 rfl ⟨rfl, rfl⟩
end
