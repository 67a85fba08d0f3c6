/-! ===== the reference: symbol, setSymbol, setLetters, feed, errorPosition, reverse, rotate, holes ===== -/
section
theorem i2l_le {a b : Nat} (ha : a < 2 ^ 31) (x : Int32) : lN a ≤ x.toInt64 ↔ nI a ≤ x := by
  rw [← nI_l ha, Int64.le_iff_toInt_le, Int32.toInt_toInt64, Int32.toInt_toInt64, ← Int32.le_iff_toInt_le]
theorem i2l_ge {a : Nat} (ha : a < 2 ^ 31) (x : Int32) : x.toInt64 ≤ lN a ↔ x ≤ nI a := by
  rw [← nI_l ha, Int64.le_iff_toInt_le, Int32.toInt_toInt64, Int32.toInt_toInt64, ← Int32.le_iff_toInt_le]
theorem le_succ_iff {x : Int32} {a : Nat} (ha : a + 1 < 2 ^ 31) : x ≤ nI a ↔ ¬ nI (a + 1) ≤ x := by
  rw [Int32.le_iff_toInt_le, Int32.le_iff_toInt_le, nI_toInt ha, nI_toInt (by omega)]
  omega
theorem m_notAt_r (d : Nat) {S : aq_S} {p i : Int32} (hp : p < 0 ∨ nI 4 ≤ p) : aX (d + 2) 142 [.ref 52, .int p, .int i] S (fun o S' => o = .inl (some (.int 1)) ∧ S' = S) := by
  refine ar_run (Nat.le_of_ble_eq_true rfl) (fun o S1 h => aq_le_of (aq_le_refl S) h) ?_
  refine ar_ld i_X7_notAt_0 rfl rfl ?_
  refine ar_cr i_X7_notAt_1 rfl trivial (Nat.le_of_ble_eq_true rfl) (m_isReg_no d hp) ?_
  refine ar_iff i_X7_notAt_4 rfl (by decide) ?_
  refine ar_push i_X7_notAt_7 ?_
  refine ar_go i_X7_notAt_8 ?_
  exact ar_ret i_X7_notAt_34 rfl ⟨rfl, rfl⟩
theorem m_notAt (d : Nat) {S : aq_S} {r n : Nat} {i : Int32} {th k il err rd tl pc lo cur hs sv : Int32} {fl : Nat → Int32} (h : mO S th k il err rd tl pc lo cur hs sv) (w1 : ia S 53 4 fl) (hr : r < 4) (hl : fl r = nI n) (hn : n ≤ 40) : aX (d + 2) 142 [.ref 52, .int (nI r), .int i] S (fun o S' => o = .inl (some (.int (pif (i < 0 ∨ nI n ≤ i) 2 0))) ∧ S' = S) := by
  refine ar_run (Nat.le_of_ble_eq_true rfl) (fun o S1 h => aq_le_of (aq_le_refl S) h) ?_
  refine ar_ld i_X7_notAt_0 rfl rfl ?_
  refine ar_cr i_X7_notAt_1 rfl trivial (Nat.le_of_ble_eq_true rfl) (m_isReg d hr) ?_
  refine ar_ift i_X7_notAt_4 rfl (by decide) ?_
  refine ar_ld i_X7_notAt_11 rfl rfl ?_
  refine ar_ar i_X7_notAt_12 rfl ?_
  refine ar_push i_X7_notAt_13 ?_
  refine ar_ld i_X7_notAt_14 rfl rfl ?_
  refine ar_gf i_X7_notAt_15 (h) rfl ?_
  refine ar_ld i_X7_notAt_18 rfl rfl ?_
  refine av_ldi i_X7_notAt_19 (w1) (by omega) (by omega) ?_
  rw [hl]
  refine ar_push i_X7_notAt_20 ?_
  refine ar_ar i_X7_notAt_21 rfl ?_
  refine ar_ar i_X7_notAt_22 rfl ?_
  refine ar_cr i_X7_notAt_23 rfl trivial (Nat.le_of_ble_eq_true rfl) (m_isBetween d) ?_
  have e : ((0 : Int64) ≤ i.toInt64 ∧ i.toInt64 ≤ (nI n - 1).toInt64) ↔ ¬ (i < 0 ∨ nI n ≤ i) := by
    rw [Int64.le_iff_toInt_le, Int64.le_iff_toInt_le, Int32.toInt_toInt64, Int32.toInt_toInt64, Int32.lt_iff_toInt_lt, Int32.le_iff_toInt_le, nI_toInt (by omega), show nI n - 1 = nI n - nI 1 from rfl, pk_sub_toInt (by omega) (by omega)]
    have a : (0 : Int64).toInt = 0 := by decide
    have b : (0 : Int32).toInt = 0 := by decide
    omega
  by_cases hi : i < 0 ∨ nI n ≤ i
  · rw [pif_t hi]
    refine ar_iff i_X7_notAt_26 rfl (fun z => z (bI_f (fun u => e.mp u hi))) ?_
    refine ar_push i_X7_notAt_29 ?_
    refine ar_go i_X7_notAt_30 ?_
    exact ar_ret i_X7_notAt_34 rfl ⟨rfl, rfl⟩
  · rw [pif_f hi]
    refine ar_ift i_X7_notAt_26 rfl (bI_nz.mpr (e.mpr hi)) ?_
    refine ar_push i_X7_notAt_33 ?_
    exact ar_ret i_X7_notAt_34 rfl ⟨rfl, rfl⟩
theorem m_symbol_r (d : Nat) {S : aq_S} {p i : Int32} {th k il err rd tl pc lo cur hs sv : Int32} (h : mO S th k il err rd tl pc lo cur hs sv) (hp : p < 0 ∨ nI 4 ≤ p) : aX (d + 3) 143 [.ref 52, .int p, .int i] S (fun o S' => o = .inl (some (.int 0)) ∧ mO S' (1) k il err rd tl pc lo cur hs sv ∧ aq_fr S S' (fun q => q = 52)) := by
  refine ar_run (Nat.le_of_ble_eq_true rfl) (fun o S1 h => h.2.2.le) ?_
  refine ar_ld i_X7_symbol_0 rfl rfl ?_
  refine ar_ld i_X7_symbol_1 rfl rfl ?_
  refine ar_ld i_X7_symbol_2 rfl rfl ?_
  refine ar_ld i_X7_symbol_3 rfl rfl ?_
  refine ar_cr i_X7_symbol_4 rfl ⟨_, _, _, rfl, (h)⟩ (Nat.le_of_ble_eq_true rfl) (m_notAt_r d hp) ?_
  refine av_pf i_X7_symbol_7 (h) (Nat.le_of_ble_eq_true rfl) (rfl) rfl (fun S1 g1 k1 => ?_)
  have h1 : mO S1 (1) k il err rd tl pc lo cur hs sv := g1
  refine ar_ld i_X7_symbol_10 rfl rfl ?_
  refine ar_gf i_X7_symbol_11 (h1) rfl ?_
  refine ar_iff i_X7_symbol_14 rfl (by decide) ?_
  refine ar_push i_X7_symbol_17 ?_
  refine ar_go i_X7_symbol_18 ?_
  exact ar_ret i_X7_symbol_27 rfl ⟨rfl, h1, k1⟩
theorem m_symbol_i (d : Nat) {S : aq_S} {r : Nat} {i : Int32} {th k il err rd tl pc lo cur hs sv : Int32} {N : Nat → Nat} {G : Nat → Nat → Int32} (h : mO S th k il err rd tl pc lo cur hs sv) (hw : mW S N G) (hr : r < 4) (hi : i < 0 ∨ nI (N r) ≤ i) : aX (d + 3) 143 [.ref 52, .int (nI r), .int i] S (fun o S' => o = .inl (some (.int 0)) ∧ mO S' (2) k il err rd tl pc lo cur hs sv ∧ aq_fr S S' (fun q => q = 52)) := by
  obtain ⟨fl, fw, w1, w2, w3, w4⟩ := hw
  refine ar_run (Nat.le_of_ble_eq_true rfl) (fun o S1 h => h.2.2.le) ?_
  refine ar_ld i_X7_symbol_0 rfl rfl ?_
  refine ar_ld i_X7_symbol_1 rfl rfl ?_
  refine ar_ld i_X7_symbol_2 rfl rfl ?_
  refine ar_ld i_X7_symbol_3 rfl rfl ?_
  refine ar_cr i_X7_symbol_4 rfl ⟨_, _, _, rfl, (h)⟩ (Nat.le_of_ble_eq_true rfl) (m_notAt d h w1 hr (w3 r hr).1 (w3 r hr).2) ?_
  rw [pif_t hi]
  refine av_pf i_X7_symbol_7 (h) (Nat.le_of_ble_eq_true rfl) (rfl) rfl (fun S1 g1 k1 => ?_)
  have h1 : mO S1 (2) k il err rd tl pc lo cur hs sv := g1
  refine ar_ld i_X7_symbol_10 rfl rfl ?_
  refine ar_gf i_X7_symbol_11 (h1) rfl ?_
  refine ar_iff i_X7_symbol_14 rfl (by decide) ?_
  refine ar_push i_X7_symbol_17 ?_
  refine ar_go i_X7_symbol_18 ?_
  exact ar_ret i_X7_symbol_27 rfl ⟨rfl, h1, k1⟩
theorem m_symbol (d : Nat) {S : aq_S} {r i : Nat} {th k il err rd tl pc lo cur hs sv : Int32} {N : Nat → Nat} {G : Nat → Nat → Int32} (h : mO S th k il err rd tl pc lo cur hs sv) (hw : mW S N G) (hr : r < 4) (hi : i < N r) : aX (d + 3) 143 [.ref 52, .int (nI r), .int (nI i)] S (fun o S' => o = .inl (some (.int (G r i))) ∧ mO S' (0) k il err rd tl pc lo cur hs sv ∧ aq_fr S S' (fun q => q = 52)) := by
  obtain ⟨fl, fw, w1, w2, w3, w4⟩ := hw
  have hn := (w3 r hr).2
  refine ar_run (Nat.le_of_ble_eq_true rfl) (fun o S1 h => h.2.2.le) ?_
  refine ar_ld i_X7_symbol_0 rfl rfl ?_
  refine ar_ld i_X7_symbol_1 rfl rfl ?_
  refine ar_ld i_X7_symbol_2 rfl rfl ?_
  refine ar_ld i_X7_symbol_3 rfl rfl ?_
  refine ar_cr i_X7_symbol_4 rfl ⟨_, _, _, rfl, (h)⟩ (Nat.le_of_ble_eq_true rfl) (m_notAt d h w1 hr (w3 r hr).1 (w3 r hr).2) ?_
  rw [pif_f (fun z => z.elim (fun u => nI_pos (by omega) u) (fun u => nI_ge hi (by omega) u))]
  refine av_pf i_X7_symbol_7 (h) (Nat.le_of_ble_eq_true rfl) (rfl) rfl (fun S1 g1 k1 => ?_)
  have h1 : mO S1 (0) k il err rd tl pc lo cur hs sv := g1
  refine ar_ld i_X7_symbol_10 rfl rfl ?_
  refine ar_gf i_X7_symbol_11 (h1) rfl ?_
  refine ar_ift i_X7_symbol_14 rfl (by decide) ?_
  refine ar_ld i_X7_symbol_21 rfl rfl ?_
  refine ar_ld i_X7_symbol_22 rfl rfl ?_
  refine ar_ld i_X7_symbol_23 rfl rfl ?_
  refine ar_cr i_X7_symbol_24 rfl ⟨_, _, _, rfl, h1⟩ (Nat.le_of_ble_eq_true rfl) (m_at (d + 1) h1 (w2.fr k1 (by omega)) hr (i := i) (by omega)) ?_
  exact ar_ret i_X7_symbol_27 rfl ⟨by rw [w4 r hr i hi], h1, k1⟩
theorem m_setSymbol_r (d : Nat) {S : aq_S} {th k il err rd tl pc lo cur hs sv : Int32} {a0 : Int32} {a1 : Int32} {a2 : Int32} (h : mO S th k il err rd tl pc lo cur hs sv) (hp : a0 < 0 ∨ nI 4 ≤ a0) : aX (d + 2) 144 [.ref 52, .int a0, .int a1, .int a2] S (fun o S' => o = .inl (some (.int 0)) ∧ mO S' (1) k il err rd tl pc lo cur hs sv ∧ aq_fr S S' (fun q => q = 52)) := by
  refine ar_run (Nat.le_of_ble_eq_true rfl) (fun o S1 h => h.2.2.le) ?_
  refine ar_ld i_X7_setSymbol_0 rfl rfl ?_
  refine ar_cr i_X7_setSymbol_1 rfl trivial (Nat.le_of_ble_eq_true rfl) (m_isReg_no d hp) ?_
  refine ar_ift i_X7_setSymbol_4 rfl (by decide) ?_
  refine ar_ld i_X7_setSymbol_15 rfl rfl ?_
  refine ar_push i_X7_setSymbol_16 ?_
  refine av_cr i_X7_setSymbol_17 rfl ⟨_, _, _, rfl, (h)⟩ (Nat.le_of_ble_eq_true rfl) (m_fails d h 1) (fun S1 q1 => ?_)
  exact ar_ret i_X7_setSymbol_20 rfl ⟨rfl, q1⟩
theorem m_setSymbol_y (d : Nat) {S : aq_S} {n r : Nat} {th il err rd tl pc lo cur hs sv i s : Int32} (h : mO S th (nI n) il err rd tl pc lo cur hs sv) (hn : n ≤ 3) (hr : r < 4) (hy : ¬ isY n s) : aX (d + 3) 144 [.ref 52, .int (nI r), .int i, .int s] S (fun o S' => o = .inl (some (.int 0)) ∧ mO S' 1 (nI n) il err rd tl pc lo cur hs sv ∧ aq_fr S S' (fun q => q = 52)) := by
  refine ar_run (Nat.le_of_ble_eq_true rfl) (fun o S1 h => h.2.2.le) ?_
  refine ar_ld i_X7_setSymbol_0 rfl rfl ?_
  refine ar_cr i_X7_setSymbol_1 rfl trivial (Nat.le_of_ble_eq_true rfl) (m_isReg (d + 1) hr) ?_
  refine ar_iff i_X7_setSymbol_4 rfl (by decide) ?_
  refine ar_ld i_X7_setSymbol_7 rfl rfl ?_
  refine ar_ld i_X7_setSymbol_8 rfl rfl ?_
  refine ar_cr i_X7_setSymbol_9 rfl ⟨_, _, _, rfl, (h)⟩ (Nat.le_of_ble_eq_true rfl) (m_isSymbol (d + 1) h hn s) ?_
  refine ar_iff i_X7_setSymbol_12 rfl (fun z => z (bI_f hy)) ?_
  refine ar_ld i_X7_setSymbol_15 rfl rfl ?_
  refine ar_push i_X7_setSymbol_16 ?_
  refine av_cr i_X7_setSymbol_17 rfl ⟨_, _, _, rfl, (h)⟩ (Nat.le_of_ble_eq_true rfl) (m_fails (d + 1) h 1) (fun S1 q1 => ?_)
  exact ar_ret i_X7_setSymbol_20 rfl ⟨rfl, q1⟩
theorem m_setSymbol_i (d : Nat) {S : aq_S} {n r : Nat} {th il err rd tl pc lo cur hs sv i s : Int32} {N : Nat → Nat} {G : Nat → Nat → Int32} (h : mO S th (nI n) il err rd tl pc lo cur hs sv) (hw : mW S N G) (hn : n ≤ 3) (hr : r < 4) (hy : isY n s) (hi : i < 0 ∨ nI (N r) ≤ i) : aX (d + 3) 144 [.ref 52, .int (nI r), .int i, .int s] S (fun o S' => o = .inl (some (.int 0)) ∧ mO S' 2 (nI n) il err rd tl pc lo cur hs sv ∧ aq_fr S S' (fun q => q = 52)) := by
  obtain ⟨fl, fw, w1, w2, w3, w4⟩ := hw
  refine ar_run (Nat.le_of_ble_eq_true rfl) (fun o S1 h => h.2.2.le) ?_
  refine ar_ld i_X7_setSymbol_0 rfl rfl ?_
  refine ar_cr i_X7_setSymbol_1 rfl trivial (Nat.le_of_ble_eq_true rfl) (m_isReg (d + 1) hr) ?_
  refine ar_iff i_X7_setSymbol_4 rfl (by decide) ?_
  refine ar_ld i_X7_setSymbol_7 rfl rfl ?_
  refine ar_ld i_X7_setSymbol_8 rfl rfl ?_
  refine ar_cr i_X7_setSymbol_9 rfl ⟨_, _, _, rfl, (h)⟩ (Nat.le_of_ble_eq_true rfl) (m_isSymbol (d + 1) h hn s) ?_
  refine ar_ift i_X7_setSymbol_12 rfl (bI_nz.mpr hy) ?_
  refine ar_ld i_X7_setSymbol_21 rfl rfl ?_
  refine ar_ld i_X7_setSymbol_22 rfl rfl ?_
  refine ar_ld i_X7_setSymbol_23 rfl rfl ?_
  refine ar_ld i_X7_setSymbol_24 rfl rfl ?_
  refine ar_cr i_X7_setSymbol_25 rfl ⟨_, _, _, rfl, (h)⟩ (Nat.le_of_ble_eq_true rfl) (m_notAt d h w1 hr (w3 r hr).1 (w3 r hr).2) ?_
  rw [pif_t hi]
  refine av_pf i_X7_setSymbol_28 (h) (Nat.le_of_ble_eq_true rfl) (rfl) rfl (fun S1 g1 k1 => ?_)
  have h1 : mO S1 2 (nI n) il err rd tl pc lo cur hs sv := g1
  refine ar_ld i_X7_setSymbol_31 rfl rfl ?_
  refine ar_gf i_X7_setSymbol_32 (h1) rfl ?_
  refine ar_iff i_X7_setSymbol_35 rfl (by decide) ?_
  refine ar_push i_X7_setSymbol_38 ?_
  exact ar_ret i_X7_setSymbol_39 rfl ⟨rfl, h1, k1⟩
theorem m_setSymbol (d : Nat) {S : aq_S} {n r i : Nat} {th il err rd tl pc lo cur hs sv s : Int32} {N : Nat → Nat} {G : Nat → Nat → Int32} (h : mO S th (nI n) il err rd tl pc lo cur hs sv) (hw : mW S N G) (hn : n ≤ 3) (hr : r < 4) (hy : isY n s) (hi : i < N r) : aX (d + 3) 144 [.ref 52, .int (nI r), .int (nI i), .int s] S (fun o S' => o = .inl (some (.int (G r i))) ∧ (mO S' 0 (nI n) il err rd tl pc lo cur hs sv ∧ mW S' (updN N r (N r)) (updG G r (upd (G r) i s))) ∧ aq_fr S S' (fun q => 52 ≤ q ∧ q ≤ 54)) := by
  obtain ⟨fl, fw, w1, w2, w3, w4⟩ := hw
  have hN := (w3 r hr).2
  refine ar_run (Nat.le_of_ble_eq_true rfl) (fun o S1 h => h.2.2.le) ?_
  refine ar_ld i_X7_setSymbol_0 rfl rfl ?_
  refine ar_cr i_X7_setSymbol_1 rfl trivial (Nat.le_of_ble_eq_true rfl) (m_isReg (d + 1) hr) ?_
  refine ar_iff i_X7_setSymbol_4 rfl (by decide) ?_
  refine ar_ld i_X7_setSymbol_7 rfl rfl ?_
  refine ar_ld i_X7_setSymbol_8 rfl rfl ?_
  refine ar_cr i_X7_setSymbol_9 rfl ⟨_, _, _, rfl, (h)⟩ (Nat.le_of_ble_eq_true rfl) (m_isSymbol (d + 1) h hn s) ?_
  refine ar_ift i_X7_setSymbol_12 rfl (bI_nz.mpr hy) ?_
  refine ar_ld i_X7_setSymbol_21 rfl rfl ?_
  refine ar_ld i_X7_setSymbol_22 rfl rfl ?_
  refine ar_ld i_X7_setSymbol_23 rfl rfl ?_
  refine ar_ld i_X7_setSymbol_24 rfl rfl ?_
  refine ar_cr i_X7_setSymbol_25 rfl ⟨_, _, _, rfl, (h)⟩ (Nat.le_of_ble_eq_true rfl) (m_notAt d h w1 hr (w3 r hr).1 (w3 r hr).2) ?_
  rw [pif_f (fun z => z.elim (fun u => nI_pos (by omega) u) (fun u => nI_ge hi (by omega) u))]
  refine av_pf i_X7_setSymbol_28 (h) (Nat.le_of_ble_eq_true rfl) (rfl) rfl (fun S1 g1 k1 => ?_)
  have h1 : mO S1 0 (nI n) il err rd tl pc lo cur hs sv := g1
  have u1 := w1.fr k1 (by omega)
  have u2 := w2.fr k1 (by omega)
  refine ar_ld i_X7_setSymbol_31 rfl rfl ?_
  refine ar_gf i_X7_setSymbol_32 (h1) rfl ?_
  refine ar_ift i_X7_setSymbol_35 rfl (by decide) ?_
  refine ar_ld i_X7_setSymbol_40 rfl rfl ?_
  refine ar_ld i_X7_setSymbol_41 rfl rfl ?_
  refine ar_ld i_X7_setSymbol_42 rfl rfl ?_
  refine ar_cr i_X7_setSymbol_43 rfl ⟨_, _, _, rfl, h1⟩ (Nat.le_of_ble_eq_true rfl) (m_at (d + 1) h1 u2 hr (i := i) (by omega)) ?_
  rw [w4 r hr i hi]
  refine ar_st i_X7_setSymbol_46 rfl rfl ?_
  refine ar_ld i_X7_setSymbol_48 rfl rfl ?_
  refine ar_gf i_X7_setSymbol_49 (h1) rfl ?_
  refine ar_push i_X7_setSymbol_52 ?_
  rw [show (40 : Int32) = nI 40 from rfl]
  refine ar_ld i_X7_setSymbol_54 rfl rfl ?_
  refine ar_ar i_X7_setSymbol_55 rfl ?_
  rw [pk_mul]
  refine ar_ld i_X7_setSymbol_56 rfl rfl ?_
  refine ar_ar i_X7_setSymbol_57 rfl ?_
  rw [nI_add]
  refine ar_ld i_X7_setSymbol_58 rfl rfl ?_
  refine av_sti i_X7_setSymbol_59 (by omega) (u2) (by omega) (by omega) (fun S2 g2 k2 => ?_)
  refine ar_ld i_X7_setSymbol_60 rfl rfl ?_
  refine ar_ret i_X7_setSymbol_62 rfl ⟨rfl, ⟨h1.fr k2 (by omega), fl, _, u1.fr k2 (by omega), g2, ?_⟩, (k1.mono (fun q z => by omega)).tr (k2.mono (fun q z => by omega))⟩
  refine mW_put hr (by omega) w3 w4 (w3 r hr).1 (fun x hx e => rfl) (fun x hx => ?_) (fun x j e hj => upd_ne (by omega))
  by_cases e : x = i
  · rw [e, upd_eq, upd_eq]
  · rw [upd_ne (by omega), upd_ne e]
    exact w4 r hr x hx
theorem m_errorPosition_no (d : Nat) {S : aq_S} {th k il rd tl pc lo cur hs sv : Int32} (h : mO S th k il (-1) rd tl pc lo cur hs sv) : aX (d + 2) 140 [.ref 52] S (fun o S' => o = .inl (some (.int 0)) ∧ mO S' 1 k il (-1) rd tl pc lo cur hs sv ∧ aq_fr S S' (fun q => q = 52)) := by
  refine ar_run (Nat.le_of_ble_eq_true rfl) (fun o S1 h => h.2.2.le) ?_
  refine ar_ld i_X7_errorPosition_0 rfl rfl ?_
  refine ar_gf i_X7_errorPosition_1 (h) rfl ?_
  refine ar_iff i_X7_errorPosition_4 rfl (by decide) ?_
  refine ar_ld i_X7_errorPosition_7 rfl rfl ?_
  refine ar_push i_X7_errorPosition_8 ?_
  refine av_cr i_X7_errorPosition_9 rfl ⟨_, _, _, rfl, (h)⟩ (Nat.le_of_ble_eq_true rfl) (m_fails d h 1) (fun S1 q1 => ?_)
  exact ar_ret i_X7_errorPosition_12 rfl ⟨rfl, q1⟩
theorem m_errorPosition (d : Nat) {S : aq_S} {e : Nat} {th k il rd tl pc lo cur hs sv : Int32} (h : mO S th k il (nI e) rd tl pc lo cur hs sv) (he : e ≤ 30) : aX (d + 2) 140 [.ref 52] S (fun o S' => o = .inl (some (.int (nI e))) ∧ mO S' 0 k il (nI e) rd tl pc lo cur hs sv ∧ aq_fr S S' (fun q => q = 52)) := by
  refine ar_run (Nat.le_of_ble_eq_true rfl) (fun o S1 h => h.2.2.le) ?_
  refine ar_ld i_X7_errorPosition_0 rfl rfl ?_
  refine ar_gf i_X7_errorPosition_1 (h) rfl ?_
  refine ar_ift i_X7_errorPosition_4 rfl (nI_pos' (by omega)) ?_
  refine ar_ld i_X7_errorPosition_13 rfl rfl ?_
  refine ar_push i_X7_errorPosition_14 ?_
  refine av_pf i_X7_errorPosition_15 (h) (Nat.le_of_ble_eq_true rfl) (rfl) rfl (fun S1 g1 k1 => ?_)
  have h1 : mO S1 0 k il (nI e) rd tl pc lo cur hs sv := g1
  refine ar_ld i_X7_errorPosition_18 rfl rfl ?_
  refine ar_gf i_X7_errorPosition_19 (h1) rfl ?_
  exact ar_ret i_X7_errorPosition_22 rfl ⟨rfl, h1, k1⟩
/-- the input of the reference -/
def mI (S : aq_S) (n : Nat) (inp : Nat → Nat) : Prop := ∃ F, ia S 56 30 F ∧ n ≤ 30 ∧ ∀ j, j < n → F j = nI (inp j) ∧ inp j < 128
theorem m_feed_no (d : Nat) {S : aq_S} {x : Int32} {th k il err rd tl pc lo cur hs sv : Int32} (h : mO S th k il err rd tl pc lo cur hs sv) (hx : x < 33 ∨ nI 127 ≤ x) : aX (d + 2) 135 [.ref 52, .int x] S (fun o S' => o = .inl (some (.int 0)) ∧ mO S' (1) k il err rd tl pc lo cur hs sv ∧ aq_fr S S' (fun q => q = 52)) := by
  refine ar_run (Nat.le_of_ble_eq_true rfl) (fun o S1 h => h.2.2.le) ?_
  refine ar_ld i_X7_feed_0 rfl rfl ?_
  refine ar_ar i_X7_feed_1 rfl ?_
  refine ar_push i_X7_feed_2 ?_
  refine ar_push i_X7_feed_5 ?_
  refine ar_cr i_X7_feed_8 rfl trivial (Nat.le_of_ble_eq_true rfl) (m_isBetween d) ?_
  have e : ¬ ((33 : Int64) ≤ x.toInt64 ∧ x.toInt64 ≤ 126) := fun z => by
    have z1 := (i2l_le (b := 0) (a := 33) (by omega) x).mp z.1
    have z2 := (i2l_ge (a := 126) (by omega) x).mp z.2
    rcases hx with hx | hx
    · exact absurd hx (Int32.not_lt.mpr z1)
    · exact absurd (Int32.le_trans hx z2) (by decide +kernel)
  refine ar_iff i_X7_feed_11 rfl (fun z => z (bI_f e)) ?_
  refine ar_ld i_X7_feed_14 rfl rfl ?_
  refine ar_push i_X7_feed_15 ?_
  refine av_cr i_X7_feed_16 rfl ⟨_, _, _, rfl, (h)⟩ (Nat.le_of_ble_eq_true rfl) (m_fails d h 1) (fun S1 q1 => ?_)
  exact ar_ret i_X7_feed_19 rfl ⟨rfl, q1⟩
theorem m_feed_ok {x : Nat} (hx : 33 ≤ x) (hx2 : x ≤ 126) : ((33 : Int64) ≤ (nI x).toInt64 ∧ (nI x).toInt64 ≤ 126) := ⟨(i2l_le (b := 0) (a := 33) (by omega) _).mpr (nI_le hx (by omega)), (i2l_ge (a := 126) (by omega) _).mpr (nI_le hx2 (by omega))⟩
theorem m_feed_full (d : Nat) {S : aq_S} {x : Nat} {th k err rd tl pc lo cur hs sv : Int32} (h : mO S th k (nI 30) err rd tl pc lo cur hs sv) (hx : 33 ≤ x) (hx2 : x ≤ 126) : aX (d + 2) 135 [.ref 52, .int (nI x)] S (fun o S' => o = .inl (some (.int 0)) ∧ mO S' 2 k (nI 30) err rd tl pc lo cur hs sv ∧ aq_fr S S' (fun q => q = 52)) := by
  refine ar_run (Nat.le_of_ble_eq_true rfl) (fun o S1 h => h.2.2.le) ?_
  refine ar_ld i_X7_feed_0 rfl rfl ?_
  refine ar_ar i_X7_feed_1 rfl ?_
  refine ar_push i_X7_feed_2 ?_
  refine ar_push i_X7_feed_5 ?_
  refine ar_cr i_X7_feed_8 rfl trivial (Nat.le_of_ble_eq_true rfl) (m_isBetween d) ?_
  refine ar_ift i_X7_feed_11 rfl (bI_nz.mpr (m_feed_ok hx hx2)) ?_
  refine ar_ld i_X7_feed_20 rfl rfl ?_
  refine ar_gf i_X7_feed_21 (h) rfl ?_
  refine ar_push i_X7_feed_24 ?_
  refine ar_iff i_X7_feed_26 rfl (fun z => z rfl) ?_
  refine ar_ld i_X7_feed_29 rfl rfl ?_
  refine ar_push i_X7_feed_30 ?_
  refine av_cr i_X7_feed_31 rfl ⟨_, _, _, rfl, (h)⟩ (Nat.le_of_ble_eq_true rfl) (m_fails d h 2) (fun S1 q1 => ?_)
  exact ar_ret i_X7_feed_34 rfl ⟨rfl, q1⟩
theorem m_feed (d : Nat) {S : aq_S} {n x : Nat} {inp : Nat → Nat} {th k err rd tl pc lo cur hs sv : Int32} (h : mO S th k (nI n) err rd tl pc lo cur hs sv) (hi : mI S n inp) (hn : n < 30) (hx : 33 ≤ x) (hx2 : x ≤ 126) : aX (d + 2) 135 [.ref 52, .int (nI x)] S (fun o S' => o = .inl (some (.int (nI (n + 1)))) ∧ (mO S' 0 k (nI (n + 1)) err rd tl pc lo cur hs sv ∧ mI S' (n + 1) (updN inp n x)) ∧ aq_fr S S' (fun q => q = 52 ∨ q = 56)) := by
  obtain ⟨F, f1, f2, f3⟩ := hi
  refine ar_run (Nat.le_of_ble_eq_true rfl) (fun o S1 h => h.2.2.le) ?_
  refine ar_ld i_X7_feed_0 rfl rfl ?_
  refine ar_ar i_X7_feed_1 rfl ?_
  refine ar_push i_X7_feed_2 ?_
  refine ar_push i_X7_feed_5 ?_
  refine ar_cr i_X7_feed_8 rfl trivial (Nat.le_of_ble_eq_true rfl) (m_isBetween d) ?_
  refine ar_ift i_X7_feed_11 rfl (bI_nz.mpr (m_feed_ok hx hx2)) ?_
  refine ar_ld i_X7_feed_20 rfl rfl ?_
  refine ar_gf i_X7_feed_21 (h) rfl ?_
  refine ar_push i_X7_feed_24 ?_
  refine ar_ift i_X7_feed_26 rfl (fun z => absurd (nI_inj (b := 30) (by omega) (by omega) z) (by omega)) ?_
  refine ar_ld i_X7_feed_35 rfl rfl ?_
  refine ar_push i_X7_feed_36 ?_
  refine av_pf i_X7_feed_37 (h) (Nat.le_of_ble_eq_true rfl) (rfl) rfl (fun S1 g1 k1 => ?_)
  have h1 : mO S1 0 k (nI n) err rd tl pc lo cur hs sv := g1
  refine ar_ld i_X7_feed_40 rfl rfl ?_
  refine ar_gf i_X7_feed_41 (h1) rfl ?_
  refine ar_ld i_X7_feed_44 rfl rfl ?_
  refine ar_gf i_X7_feed_45 (h1) rfl ?_
  refine ar_ld i_X7_feed_48 rfl rfl ?_
  refine av_sti i_X7_feed_49 (by omega) (f1.fr k1 (by omega)) (by omega) (by omega) (fun S2 g2 k2 => ?_)
  have h2 := h1.fr k2 (by omega)
  refine ar_ld i_X7_feed_50 rfl rfl ?_
  refine ar_ar i_X7_feed_51 rfl ?_
  refine ar_gf i_X7_feed_52 (h2) rfl ?_
  refine ar_push i_X7_feed_55 ?_
  refine ar_ar i_X7_feed_56 rfl ?_
  rw [nI_1]
  refine av_pf i_X7_feed_57 (h2) (Nat.le_of_ble_eq_true rfl) (rfl) rfl (fun S3 g3 k3 => ?_)
  have h3 : mO S3 0 k (nI (n + 1)) err rd tl pc lo cur hs sv := g3
  refine ar_ld i_X7_feed_60 rfl rfl ?_
  refine ar_gf i_X7_feed_61 (h3) rfl ?_
  refine ar_ret i_X7_feed_64 rfl ⟨rfl, ⟨h3, _, (k3.2.2.2 56 (by omega)).trans g2, hn, fun j hj => ?_⟩, (k1.mono (fun q z => Or.inl z)).tr ((k2.mono (fun q z => Or.inr z)).tr (k3.mono (fun q z => Or.inl z)))⟩
  by_cases e : j = n
  · rw [e, upd_eq, updN_eq]; exact ⟨rfl, by omega⟩
  · rw [upd_ne e, updN_ne e]; exact f3 j (by omega)
theorem m_setLetters_no (d : Nat) {S : aq_S} {x : Int32} {th k il err rd tl pc lo cur hs sv : Int32} (h : mO S th k il err rd tl pc lo cur hs sv) (hx : x < 1 ∨ nI 4 ≤ x) : aX (d + 2) 133 [.ref 52, .int x] S (fun o S' => o = .inl (some (.int 0)) ∧ mO S' (1) k il err rd tl pc lo cur hs sv ∧ aq_fr S S' (fun q => q = 52)) := by
  refine ar_run (Nat.le_of_ble_eq_true rfl) (fun o S1 h => h.2.2.le) ?_
  refine ar_ld i_X7_setLetters_0 rfl rfl ?_
  refine ar_ar i_X7_setLetters_1 rfl ?_
  refine ar_push i_X7_setLetters_2 ?_
  refine ar_push i_X7_setLetters_3 ?_
  refine ar_cr i_X7_setLetters_6 rfl trivial (Nat.le_of_ble_eq_true rfl) (m_isBetween d) ?_
  have e : ¬ ((1 : Int64) ≤ x.toInt64 ∧ x.toInt64 ≤ 3) := fun z => by
    have z1 := (i2l_le (b := 0) (a := 1) (by omega) x).mp z.1
    have z2 := (i2l_ge (a := 3) (by omega) x).mp z.2
    rcases hx with hx | hx
    · exact absurd hx (Int32.not_lt.mpr z1)
    · exact absurd (Int32.le_trans hx z2) (by decide +kernel)
  refine ar_iff i_X7_setLetters_9 rfl (fun z => z (bI_f e)) ?_
  refine ar_ld i_X7_setLetters_12 rfl rfl ?_
  refine ar_push i_X7_setLetters_13 ?_
  refine av_cr i_X7_setLetters_14 rfl ⟨_, _, _, rfl, (h)⟩ (Nat.le_of_ble_eq_true rfl) (m_fails d h 1) (fun S1 q1 => ?_)
  exact ar_ret i_X7_setLetters_17 rfl ⟨rfl, q1⟩
theorem m_setLetters (d : Nat) {S : aq_S} {x : Nat} {N N' : Nat → Nat} {G G' : Nat → Nat → Int32} {th k il err rd tl pc lo cur hs sv : Int32} (h : mO S th k il err rd tl pc lo cur hs sv) (hw : mW S N G) (hx0 : 0 < x) (hx : x ≤ 3) (hN : ∀ r, r < 4 → N' r = 0) : aX (d + 2) 133 [.ref 52, .int (nI x)] S (fun o S' => o = .inl (some (.int k)) ∧ (mO S' 0 (nI x) il err rd tl 0 lo cur hs sv ∧ mW S' N' G') ∧ aq_fr S S' (fun q => 52 ≤ q ∧ q ≤ 54)) := by
  obtain ⟨fl, fw, w1, w2, w3, w4⟩ := hw
  refine ar_run (Nat.le_of_ble_eq_true rfl) (fun o S1 h => h.2.2.le) ?_
  refine ar_ld i_X7_setLetters_0 rfl rfl ?_
  refine ar_ar i_X7_setLetters_1 rfl ?_
  refine ar_push i_X7_setLetters_2 ?_
  refine ar_push i_X7_setLetters_3 ?_
  refine ar_cr i_X7_setLetters_6 rfl trivial (Nat.le_of_ble_eq_true rfl) (m_isBetween d) ?_
  refine ar_ift i_X7_setLetters_9 rfl (bI_nz.mpr ⟨(i2l_le (b := 0) (a := 1) (by omega) _).mpr (nI_le hx0 (by omega)), (i2l_ge (a := 3) (by omega) _).mpr (nI_le hx (by omega))⟩) ?_
  refine ar_ld i_X7_setLetters_18 rfl rfl ?_
  refine ar_push i_X7_setLetters_19 ?_
  refine av_pf i_X7_setLetters_20 (h) (Nat.le_of_ble_eq_true rfl) (rfl) rfl (fun S1 g1 k1 => ?_)
  have h1 : mO S1 (0) k il err rd tl pc lo cur hs sv := g1
  refine ar_ld i_X7_setLetters_23 rfl rfl ?_
  refine ar_gf i_X7_setLetters_24 (h1) rfl ?_
  refine ar_st i_X7_setLetters_27 rfl rfl ?_
  refine ar_ld i_X7_setLetters_28 rfl rfl ?_
  refine ar_ld i_X7_setLetters_29 rfl rfl ?_
  refine av_pf i_X7_setLetters_30 (h1) (Nat.le_of_ble_eq_true rfl) (rfl) rfl (fun S2 g2 k2 => ?_)
  have h2 : mO S2 0 (nI x) il err rd tl pc lo cur hs sv := g2
  refine ar_push i_X7_setLetters_33 ?_
  refine ar_st i_X7_setLetters_34 rfl rfl ?_
  have hfr := (k1.tr k2).mono (P' := fun q => 52 ≤ q ∧ q ≤ 54) (fun q z => by omega)
  suffices key : ∀ j i (S2 : aq_S) (fl : Nat → Int32), i + j = 4 → mO S2 0 (nI x) il err rd tl pc lo cur hs sv → ia S2 53 4 fl → ia S2 54 160 fw → (∀ r, r < i → fl r = 0) → aq_fr S S2 (fun q => 52 ≤ q ∧ q ≤ 54) → aG (d + 1) 133 (fun o S' => o = .inl (some (.int k)) ∧ (mO S' 0 (nI x) il err rd tl 0 lo cur hs sv ∧ mW S' N' G') ∧ aq_fr S S' (fun q => 52 ≤ q ∧ q ≤ 54)) 35 [(0, .ref 52), (1, .int (nI x)), (2, .int k), (3, .int (nI i))] [] S2 from key 4 0 S2 fl (by omega) h2 ((w1.fr k1 (by omega)).fr k2 (by omega)) ((w2.fr k1 (by omega)).fr k2 (by omega)) (fun r hr => absurd hr (Nat.not_lt_zero r)) hfr
  intro j
  induction j with
  | zero =>
    intro i S2 fl hi h2 u1 u2 hag hfr
    refine ar_ld i_X7_setLetters_35 rfl rfl ?_
    refine ar_push i_X7_setLetters_36 ?_
    refine ar_ift i_X7_setLetters_37 rfl (nI_le (a := 4) (by omega) (by omega)) ?_
    refine ar_ld i_X7_setLetters_53 rfl rfl ?_
    refine ar_push i_X7_setLetters_54 ?_
    refine av_pf i_X7_setLetters_55 (h2) (Nat.le_of_ble_eq_true rfl) (rfl) rfl (fun S3 g3 k3 => ?_)
    refine ar_ld i_X7_setLetters_58 rfl rfl ?_
    exact ar_ret i_X7_setLetters_59 rfl ⟨rfl, ⟨g3, fl, fw, u1.fr k3 (by omega), u2.fr k3 (by omega), fun r hr => ⟨by rw [hN r hr]; exact hag r (by omega), by rw [hN r hr]; omega⟩, fun r hr i hi => by rw [hN r hr] at hi; omega⟩, hfr.tr (k3.mono (fun q z => by omega))⟩
  | succ j ih =>
    intro i S2 fl hi h2 u1 u2 hag hfr
    refine ar_ld i_X7_setLetters_35 rfl rfl ?_
    refine ar_push i_X7_setLetters_36 ?_
    refine ar_iff i_X7_setLetters_37 rfl (nI_ge (b := 4) (by omega) (by omega)) ?_
    refine ar_ld i_X7_setLetters_40 rfl rfl ?_
    refine ar_gf i_X7_setLetters_41 (h2) rfl ?_
    refine ar_ld i_X7_setLetters_44 rfl rfl ?_
    refine ar_push i_X7_setLetters_45 ?_
    refine av_sti i_X7_setLetters_46 (by omega) (u1) (by omega) (by omega) (fun S3 g3 k3 => ?_)
    refine ar_inc i_X7_setLetters_47 rfl rfl ?_
    refine ar_go i_X7_setLetters_50 ?_
    have := ih (i + 1) S3 _ (by omega) (h2.fr k3 (by omega)) g3 (u2.fr k3 (by omega)) (fun r hr => by
      by_cases e : r = i
      · rw [e, upd_eq]
      · rw [upd_ne e]; exact hag r (by omega)) (hfr.tr (k3.mono (fun q z => by omega)))
    rw [← nI_1] at this
    exact this
end
