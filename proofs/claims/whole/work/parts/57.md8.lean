/-! ===== the reference: completions, factors ===== -/
section
theorem m_isBeyond (d : Nat) {S : aq_S} {r n : Nat} {th il err rd tl pc lo cur hs sv : Int32} {N : Nat → Nat} {G : Nat → Nat → Int32} (h : mO S th (nI n) il err rd tl pc lo cur hs sv) (hw : mW S N G) (hn : n ≤ 3) (hr : r < 4) : aX (d + 3) 168 [.ref 52, .int (nI r)] S (fun o S' => o = .inl (some (.int (bI (cBig n (wholes (G r) (N r)))))) ∧ S' = S) := by
  have hw0 := hw
  obtain ⟨fl, fw, w1, w2, w3, w4⟩ := hw
  have hN := (w3 r hr).2
  have hh := wholes_le (G r) (N r)
  refine ar_run (Nat.le_of_ble_eq_true rfl) (fun o S1 h => aq_le_of (aq_le_refl S) h) ?_
  refine ar_ld i_X7_isBeyond_0 rfl rfl ?_
  refine ar_gf i_X7_isBeyond_1 (h) rfl ?_
  refine ar_push i_X7_isBeyond_4 ?_
  by_cases e3 : n = 3
  · subst e3
    refine ar_iff i_X7_isBeyond_5 rfl (fun z => z rfl) ?_
    refine ar_ld i_X7_isBeyond_8 rfl rfl ?_
    refine ar_ld i_X7_isBeyond_9 rfl rfl ?_
    refine ar_cr i_X7_isBeyond_10 rfl ⟨_, _, _, rfl, (h)⟩ (Nat.le_of_ble_eq_true rfl) (m_holesOf d h hw0 hr) ?_
    refine ar_push i_X7_isBeyond_13 ?_
    by_cases e40 : wholes (G r) (N r) = 40
    · rw [e40]
      refine ar_iff i_X7_isBeyond_15 rfl (fun z => z rfl) ?_
      refine ar_push i_X7_isBeyond_18 ?_
      refine ar_go i_X7_isBeyond_19 ?_
      exact ar_ret i_X7_isBeyond_23 ((Or.inr rfl)) ⟨bR_t ⟨rfl, rfl⟩, rfl⟩
    · refine ar_ift i_X7_isBeyond_15 rfl (fun z => e40 (nI_inj (b := 40) (by omega) (by omega) z)) ?_
      refine ar_push i_X7_isBeyond_22 ?_
      exact ar_ret i_X7_isBeyond_23 ((Or.inl rfl)) ⟨bR_f (fun z => e40 z.2), rfl⟩
  · refine ar_ift i_X7_isBeyond_5 rfl (fun z => e3 (nI_inj (b := 3) (by omega) (by omega) z)) ?_
    refine ar_push i_X7_isBeyond_22 ?_
    exact ar_ret i_X7_isBeyond_23 ((Or.inl rfl)) ⟨bR_f (fun z => e3 z.1), rfl⟩
theorem m_completionsOf (d : Nat) {S : aq_S} {r n : Nat} {th il err rd tl pc lo cur hs sv : Int32} {N : Nat → Nat} {G : Nat → Nat → Int32} (h : mO S th (nI n) il err rd tl pc lo cur hs sv) (hw : mW S N G) (hn : n ≤ 3) (hr : r < 4) : aX (d + 3) 169 [.ref 52, .int (nI r)] S (fun o S' => o = .inl (some (.long (lN (n ^ wholes (G r) (N r))))) ∧ S' = S) := by
  have hw0 := hw
  obtain ⟨fl, fw, w1, w2, w3, w4⟩ := hw
  have hN := (w3 r hr).2
  have hh := wholes_le (G r) (N r)
  refine ar_run (Nat.le_of_ble_eq_true rfl) (fun o S1 h => aq_le_of (aq_le_refl S) h) ?_
  refine ar_push i_X7_completionsOf_0 ?_
  refine ar_st i_X7_completionsOf_1 rfl rfl ?_
  refine ar_ld i_X7_completionsOf_2 rfl rfl ?_
  refine ar_ld i_X7_completionsOf_3 rfl rfl ?_
  refine ar_cr i_X7_completionsOf_4 rfl ⟨_, _, _, rfl, (h)⟩ (Nat.le_of_ble_eq_true rfl) (m_holesOf d h hw0 hr) ?_
  refine ar_st i_X7_completionsOf_7 rfl rfl ?_
  suffices key : ∀ j c, c + j = wholes (G r) (N r) → aG (d + 2) 169 (fun o S' => o = .inl (some (.long (lN (n ^ wholes (G r) (N r))))) ∧ S' = S) 9 [(0, .ref 52), (1, .int (nI r)), (2, .long (lN (n ^ c))), (4, .int (nI j))] [] S from key (wholes (G r) (N r)) 0 (by omega)
  intro j
  induction j with
  | zero =>
    intro c hc
    refine ar_ld i_X7_completionsOf_9 rfl rfl ?_
    refine ar_ift i_X7_completionsOf_11 rfl (nI_le (a := 0) (b := 0) (by omega) (by omega)) ?_
    refine ar_ld i_X7_completionsOf_28 rfl rfl ?_
    exact ar_ret i_X7_completionsOf_29 rfl ⟨by rw [show c = wholes (G r) (N r) by omega], rfl⟩
  | succ j ih =>
    intro c hc
    refine ar_ld i_X7_completionsOf_9 rfl rfl ?_
    refine ar_iff i_X7_completionsOf_11 rfl (nI_nle (by omega) (by omega)) ?_
    refine ar_ld i_X7_completionsOf_14 rfl rfl ?_
    refine ar_ld i_X7_completionsOf_15 rfl rfl ?_
    refine ar_gf i_X7_completionsOf_16 (h) rfl ?_
    refine ar_ar i_X7_completionsOf_19 rfl ?_
    rw [nI_l (by omega)]
    refine ar_ar i_X7_completionsOf_20 rfl ?_
    rw [lN_mul, ← Nat.pow_succ]
    refine ar_st i_X7_completionsOf_21 rfl rfl ?_
    refine ar_inc i_X7_completionsOf_22 rfl rfl ?_
    refine ar_go i_X7_completionsOf_25 ?_
    rw [nI_dec]
    exact ih (c + 1) (by omega)
theorem m_completionCount_r (d : Nat) {S : aq_S} {p : Int32} {th k il err rd tl pc lo cur hs sv : Int32} (h : mO S th k il err rd tl pc lo cur hs sv) (hp : p < 0 ∨ nI 4 ≤ p) : aX (d + 2) 170 [.ref 52, .int p] S (fun o S' => o = .inl (some (.long 0)) ∧ mO S' (1) k il err rd tl pc lo cur hs sv ∧ aq_fr S S' (fun q => q = 52)) := by
  refine ar_run (Nat.le_of_ble_eq_true rfl) (fun o S1 h => h.2.2.le) ?_
  refine ar_ld i_X7_completionCount_0 rfl rfl ?_
  refine ar_cr i_X7_completionCount_1 rfl trivial (Nat.le_of_ble_eq_true rfl) (m_isReg_no d hp) ?_
  refine ar_iff i_X7_completionCount_4 rfl (by decide) ?_
  refine ar_ld i_X7_completionCount_7 rfl rfl ?_
  refine ar_push i_X7_completionCount_8 ?_
  refine av_cr i_X7_completionCount_9 rfl ⟨_, _, _, rfl, (h)⟩ (Nat.le_of_ble_eq_true rfl) (m_fails d h 1) (fun S1 q1 => ?_)
  refine ar_ar i_X7_completionCount_12 rfl ?_
  exact ar_ret i_X7_completionCount_13 rfl ⟨rfl, q1⟩
theorem m_completionCount_b (d : Nat) {S : aq_S} {r n : Nat} {th il err rd tl pc lo cur hs sv : Int32} {N : Nat → Nat} {G : Nat → Nat → Int32} (h : mO S th (nI n) il err rd tl pc lo cur hs sv) (hw : mW S N G) (hn : n ≤ 3) (hr : r < 4) (hb : cBig n (wholes (G r) (N r))) : aX (d + 4) 170 [.ref 52, .int (nI r)] S (fun o S' => o = .inl (some (.long 0)) ∧ mO S' 2 (nI n) il err rd tl pc lo cur hs sv ∧ aq_fr S S' (fun q => q = 52)) := by
  refine ar_run (Nat.le_of_ble_eq_true rfl) (fun o S1 h => h.2.2.le) ?_
  refine ar_ld i_X7_completionCount_0 rfl rfl ?_
  refine ar_cr i_X7_completionCount_1 rfl trivial (Nat.le_of_ble_eq_true rfl) (m_isReg (d + 2) hr) ?_
  refine ar_ift i_X7_completionCount_4 rfl (by decide) ?_
  refine ar_ld i_X7_completionCount_14 rfl rfl ?_
  refine ar_ld i_X7_completionCount_15 rfl rfl ?_
  refine ar_cr i_X7_completionCount_16 rfl ⟨_, _, _, rfl, (h)⟩ (Nat.le_of_ble_eq_true rfl) (m_isBeyond d h hw hn hr) ?_
  refine ar_iff i_X7_completionCount_19 rfl (fun z => bI_nz.mpr hb z) ?_
  refine ar_ld i_X7_completionCount_22 rfl rfl ?_
  refine ar_push i_X7_completionCount_23 ?_
  refine av_cr i_X7_completionCount_24 rfl ⟨_, _, _, rfl, (h)⟩ (Nat.le_of_ble_eq_true rfl) (m_fails (d + 2) h 2) (fun S1 q1 => ?_)
  refine ar_ar i_X7_completionCount_27 rfl ?_
  exact ar_ret i_X7_completionCount_28 rfl ⟨rfl, q1⟩
theorem m_completionCount (d : Nat) {S : aq_S} {r n : Nat} {th il err rd tl pc lo cur hs sv : Int32} {N : Nat → Nat} {G : Nat → Nat → Int32} (h : mO S th (nI n) il err rd tl pc lo cur hs sv) (hw : mW S N G) (hn : n ≤ 3) (hr : r < 4) (hb : ¬ cBig n (wholes (G r) (N r))) : aX (d + 4) 170 [.ref 52, .int (nI r)] S (fun o S' => o = .inl (some (.long (lN (n ^ wholes (G r) (N r))))) ∧ mO S' 0 (nI n) il err rd tl pc lo cur hs sv ∧ aq_fr S S' (fun q => q = 52)) := by
  refine ar_run (Nat.le_of_ble_eq_true rfl) (fun o S1 h => h.2.2.le) ?_
  refine ar_ld i_X7_completionCount_0 rfl rfl ?_
  refine ar_cr i_X7_completionCount_1 rfl trivial (Nat.le_of_ble_eq_true rfl) (m_isReg (d + 2) hr) ?_
  refine ar_ift i_X7_completionCount_4 rfl (by decide) ?_
  refine ar_ld i_X7_completionCount_14 rfl rfl ?_
  refine ar_ld i_X7_completionCount_15 rfl rfl ?_
  refine ar_cr i_X7_completionCount_16 rfl ⟨_, _, _, rfl, (h)⟩ (Nat.le_of_ble_eq_true rfl) (m_isBeyond d h hw hn hr) ?_
  refine ar_ift i_X7_completionCount_19 rfl (bI_f hb) ?_
  refine ar_ld i_X7_completionCount_29 rfl rfl ?_
  refine ar_push i_X7_completionCount_30 ?_
  refine av_pf i_X7_completionCount_31 (h) (Nat.le_of_ble_eq_true rfl) (rfl) rfl (fun S1 g1 k1 => ?_)
  have h1 : mO S1 0 (nI n) il err rd tl pc lo cur hs sv := g1
  refine ar_ld i_X7_completionCount_34 rfl rfl ?_
  refine ar_ld i_X7_completionCount_35 rfl rfl ?_
  refine ar_cr i_X7_completionCount_36 rfl ⟨_, _, _, rfl, h1⟩ (Nat.le_of_ble_eq_true rfl) (m_completionsOf d h1 (hw.fr k1 (by omega) (by omega)) hn hr) ?_
  exact ar_ret i_X7_completionCount_39 rfl ⟨rfl, h1, k1⟩
theorem m_isFactor (d : Nat) {S : aq_S} {a M from' n : Nat} {fp F : Nat → Int32} {th k il err rd tl pc lo cur hs sv : Int32} (h : mO S th k il err rd tl pc lo cur hs sv) (w5 : ia S 55 40 fp) (hF : ia S a M F) (hn : n ≤ 40) (hM : from' + n ≤ M) (hM2 : M ≤ 1000) : aX (d + 2) 176 [.ref 52, .ref a, .int (nI from'), .int (nI n)] S (fun o S' => o = .inl (some (.int (bI (∀ i, i < n → ¬ wdf (fp i) (F (from' + i)))))) ∧ S' = S) := by
  refine ar_run (Nat.le_of_ble_eq_true rfl) (fun o S1 h => aq_le_of (aq_le_refl S) h) ?_
  refine ar_push i_X7_isFactor_0 ?_
  refine ar_st i_X7_isFactor_1 rfl rfl ?_
  suffices key : ∀ j i, i + j = n → (∀ x, x < i → ¬ wdf (fp x) (F (from' + x))) → aG (d + 1) 176 (fun o S' => o = .inl (some (.int (bI (∀ i, i < n → ¬ wdf (fp i) (F (from' + i)))))) ∧ S' = S) 3 [(0, .ref 52), (1, .ref a), (2, .int (nI from')), (3, .int (nI n)), (4, .int (nI i))] [] S from key n 0 (by omega) (fun x hx => absurd hx (Nat.not_lt_zero x))
  intro j
  induction j with
  | zero =>
    intro i hi hag
    refine ar_ld i_X7_isFactor_3 rfl rfl ?_
    refine ar_ld i_X7_isFactor_5 rfl rfl ?_
    refine ar_ift i_X7_isFactor_6 rfl (nI_le (by omega) (by omega)) ?_
    refine ar_push i_X7_isFactor_36 ?_
    exact ar_ret i_X7_isFactor_37 ((Or.inr rfl)) ⟨bR_t (fun x hx => hag x (by omega)), rfl⟩
  | succ j ih =>
    intro i hi hag
    refine ar_ld i_X7_isFactor_3 rfl rfl ?_
    refine ar_ld i_X7_isFactor_5 rfl rfl ?_
    refine ar_iff i_X7_isFactor_6 rfl (nI_ge (by omega) (by omega)) ?_
    refine ar_ld i_X7_isFactor_9 rfl rfl ?_
    refine ar_gf i_X7_isFactor_10 (h) rfl ?_
    refine ar_ld i_X7_isFactor_13 rfl rfl ?_
    refine av_ldi i_X7_isFactor_15 (w5) (by omega) (by omega) ?_
    refine ar_ld i_X7_isFactor_16 rfl rfl ?_
    refine ar_ld i_X7_isFactor_17 rfl rfl ?_
    refine ar_ld i_X7_isFactor_18 rfl rfl ?_
    refine ar_ar i_X7_isFactor_20 rfl ?_
    rw [nI_add]
    refine av_ldi i_X7_isFactor_21 (hF) (by omega) (by omega) ?_
    refine ar_cr i_X7_isFactor_22 rfl trivial (Nat.le_of_ble_eq_true rfl) (m_differ d (fp i) (F (from' + i))) ?_
    by_cases hd : wdf (fp i) (F (from' + i))
    · refine ar_iff i_X7_isFactor_25 rfl (fun z => bI_nz.mpr hd z) ?_
      refine ar_push i_X7_isFactor_28 ?_
      exact ar_ret i_X7_isFactor_29 ((Or.inl rfl)) ⟨bR_f (fun z => z i (by omega) hd), rfl⟩
    · refine ar_ift i_X7_isFactor_25 rfl (bI_f hd) ?_
      refine ar_inc i_X7_isFactor_30 rfl rfl ?_
      refine ar_go i_X7_isFactor_33 ?_
      have := ih (i + 1) (by omega) (fun x hx => by
        by_cases e : x = i
        · rw [e]; exact hd
        · exact hag x (by omega))
      rw [← nI_1 i] at this
      exact this
end
