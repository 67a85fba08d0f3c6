/-! ===== the reference: relations, join, concatenate ===== -/
section
theorem m_differ (d : Nat) {S : aq_S} (a b : Int32) : aX (d + 1) 152 [.int a, .int b] S (fun o S' => o = .inl (some (.int (bI (wdf a b)))) ∧ S' = S) := by
  refine ar_run (Nat.le_of_ble_eq_true rfl) (fun o S1 h => aq_le_of (aq_le_refl S) h) ?_
  refine ar_ld i_X7_differ_0 rfl rfl ?_
  refine ar_push i_X7_differ_1 ?_
  refine ar_if i_X7_differ_2 rfl (fun c2 => ?_) (fun c2 => ?_)
  · refine ar_push i_X7_differ_19 ?_
    exact ar_ret i_X7_differ_20 ((Or.inl rfl)) ⟨bR_f (fun z => z.1 c2), rfl⟩
  · refine ar_ld i_X7_differ_5 rfl rfl ?_
    refine ar_push i_X7_differ_6 ?_
    refine ar_if i_X7_differ_7 rfl (fun c7 => ?_) (fun c7 => ?_)
    · refine ar_push i_X7_differ_19 ?_
      exact ar_ret i_X7_differ_20 ((Or.inl rfl)) ⟨bR_f (fun z => z.2.1 c7), rfl⟩
    · refine ar_ld i_X7_differ_10 rfl rfl ?_
      refine ar_ld i_X7_differ_11 rfl rfl ?_
      refine ar_if i_X7_differ_12 rfl (fun c12 => ?_) (fun c12 => ?_)
      · refine ar_push i_X7_differ_19 ?_
        exact ar_ret i_X7_differ_20 ((Or.inl rfl)) ⟨bR_f (fun z => z.2.2 c12), rfl⟩
      · refine ar_push i_X7_differ_15 ?_
        refine ar_go i_X7_differ_16 ?_
        exact ar_ret i_X7_differ_20 ((Or.inr rfl)) ⟨bR_t ⟨c2, c7, c12⟩, rfl⟩
theorem m_conflictOf (d : Nat) {S : aq_S} {a b : Nat} {th k il err rd tl pc lo cur hs sv : Int32} {N : Nat → Nat} {G : Nat → Nat → Int32} (h : mO S th k il err rd tl pc lo cur hs sv) (hw : mW S N G) (ha : a < 4) (hb : b < 4) : aX (d + 2) 153 [.ref 52, .int (nI a), .int (nI b)] S (fun o S' => o = .inl (some (.int (wconf (G a) (G b) (min (N a) (N b)) 0))) ∧ S' = S) := by
  obtain ⟨fl, fw, w1, w2, w3, w4⟩ := hw
  have hNa := (w3 a ha).2
  have hNb := (w3 b hb).2
  refine ar_run (Nat.le_of_ble_eq_true rfl) (fun o S1 h => aq_le_of (aq_le_refl S) h) ?_
  refine ar_push i_X7_conflictOf_0 ?_
  refine ar_st i_X7_conflictOf_1 rfl rfl ?_
  suffices key : ∀ j i, i + j = min (N a) (N b) → aG (d + 1) 153 (fun o S' => o = .inl (some (.int (wconf (G a) (G b) j i))) ∧ S' = S) 2 [(0, .ref 52), (1, .int (nI a)), (2, .int (nI b)), (3, .int (nI i))] [] S from key (min (N a) (N b)) 0 (by omega)
  intro j
  induction j with
  | zero =>
    intro i hi
    refine ar_ld i_X7_conflictOf_2 rfl rfl ?_
    refine ar_ld i_X7_conflictOf_3 rfl rfl ?_
    refine ar_gf i_X7_conflictOf_4 (h) rfl ?_
    refine ar_ld i_X7_conflictOf_7 rfl rfl ?_
    refine av_ldi i_X7_conflictOf_8 (w1) (by omega) (by omega) ?_
    rw [(w3 a ha).1]
    by_cases hia : i < N a
    · refine ar_iff i_X7_conflictOf_9 rfl (nI_ge hia (by omega)) ?_
      refine ar_ld i_X7_conflictOf_12 rfl rfl ?_
      refine ar_ld i_X7_conflictOf_13 rfl rfl ?_
      refine ar_gf i_X7_conflictOf_14 (h) rfl ?_
      refine ar_ld i_X7_conflictOf_17 rfl rfl ?_
      refine av_ldi i_X7_conflictOf_18 (w1) (by omega) (by omega) ?_
      rw [(w3 b hb).1]
      refine ar_ift i_X7_conflictOf_19 rfl (nI_le (by omega) (by omega)) ?_
      refine ar_push i_X7_conflictOf_48 ?_
      exact ar_ret i_X7_conflictOf_49 rfl ⟨rfl, rfl⟩
    · refine ar_ift i_X7_conflictOf_9 rfl (nI_le (by omega) (by omega)) ?_
      refine ar_push i_X7_conflictOf_48 ?_
      exact ar_ret i_X7_conflictOf_49 rfl ⟨rfl, rfl⟩
  | succ j ih =>
    intro i hi
    have := ih (i + 1) (by omega)
    rw [← nI_1] at this
    refine ar_ld i_X7_conflictOf_2 rfl rfl ?_
    refine ar_ld i_X7_conflictOf_3 rfl rfl ?_
    refine ar_gf i_X7_conflictOf_4 (h) rfl ?_
    refine ar_ld i_X7_conflictOf_7 rfl rfl ?_
    refine av_ldi i_X7_conflictOf_8 (w1) (by omega) (by omega) ?_
    rw [(w3 a ha).1]
    refine ar_iff i_X7_conflictOf_9 rfl (nI_ge (by omega) (by omega)) ?_
    refine ar_ld i_X7_conflictOf_12 rfl rfl ?_
    refine ar_ld i_X7_conflictOf_13 rfl rfl ?_
    refine ar_gf i_X7_conflictOf_14 (h) rfl ?_
    refine ar_ld i_X7_conflictOf_17 rfl rfl ?_
    refine av_ldi i_X7_conflictOf_18 (w1) (by omega) (by omega) ?_
    rw [(w3 b hb).1]
    refine ar_iff i_X7_conflictOf_19 rfl (nI_ge (by omega) (by omega)) ?_
    refine ar_ld i_X7_conflictOf_22 rfl rfl ?_
    refine ar_ld i_X7_conflictOf_23 rfl rfl ?_
    refine ar_ld i_X7_conflictOf_24 rfl rfl ?_
    refine ar_cr i_X7_conflictOf_25 rfl ⟨_, _, _, rfl, (h)⟩ (Nat.le_of_ble_eq_true rfl) (m_at d h w2 ha (i := i) (by omega)) ?_
    rw [w4 a ha i (by omega)]
    refine ar_ld i_X7_conflictOf_28 rfl rfl ?_
    refine ar_ld i_X7_conflictOf_29 rfl rfl ?_
    refine ar_ld i_X7_conflictOf_30 rfl rfl ?_
    refine ar_cr i_X7_conflictOf_31 rfl ⟨_, _, _, rfl, (h)⟩ (Nat.le_of_ble_eq_true rfl) (m_at d h w2 hb (i := i) (by omega)) ?_
    rw [w4 b hb i (by omega)]
    refine ar_cr i_X7_conflictOf_34 rfl trivial (Nat.le_of_ble_eq_true rfl) (m_differ d (G a i) (G b i)) ?_
    by_cases hd : wdf (G a i) (G b i)
    · rw [wconf_y hd]
      refine ar_iff i_X7_conflictOf_37 rfl (fun z => bI_nz.mpr hd z) ?_
      refine ar_ld i_X7_conflictOf_40 rfl rfl ?_
      exact ar_ret i_X7_conflictOf_41 rfl ⟨rfl, rfl⟩
    · rw [wconf_n hd]
      refine ar_ift i_X7_conflictOf_37 rfl (bI_f hd) ?_
      refine ar_inc i_X7_conflictOf_42 rfl rfl ?_
      refine ar_go i_X7_conflictOf_45 ?_
      exact this
theorem wconf_lt {f g : Nat → Int32} : ∀ j i, i + j ≤ 40 → (wconf f g j i < 0 ↔ ∀ x, i ≤ x → x < i + j → ¬ wdf (f x) (g x))
  | 0, i, _ => ⟨fun _ x h1 h2 => by omega, fun _ => by show (-1 : Int32) < 0; decide⟩
  | j + 1, i, h => by
    by_cases hd : wdf (f i) (g i)
    · rw [wconf_y hd]
      exact ⟨fun z => absurd z (nI_pos (by omega)), fun z => absurd hd (z i (by omega) (by omega))⟩
    · rw [wconf_n hd, wconf_lt j (i + 1) (by omega)]
      refine ⟨fun z x h1 h2 => ?_, fun z x h1 h2 => z x (by omega) (by omega)⟩
      by_cases e : x = i
      · rw [e]; exact hd
      · exact z x (by omega) (by omega)
theorem m_areCompatible (d : Nat) {S : aq_S} {a b : Nat} {th k il err rd tl pc lo cur hs sv : Int32} {N : Nat → Nat} {G : Nat → Nat → Int32} (h : mO S th k il err rd tl pc lo cur hs sv) (hw : mW S N G) (ha : a < 4) (hb : b < 4) : aX (d + 3) 154 [.ref 52, .int (nI a), .int (nI b)] S (fun o S' => o = .inl (some (.int (bI (wcomp (N a) (N b) (G a) (G b))))) ∧ S' = S) := by
  have hw0 := hw
  obtain ⟨fl, fw, w1, w2, w3, w4⟩ := hw
  have hNa := (w3 a ha).2
  have hNb := (w3 b hb).2
  refine ar_run (Nat.le_of_ble_eq_true rfl) (fun o S1 h => aq_le_of (aq_le_refl S) h) ?_
  refine ar_ld i_X7_areCompatible_0 rfl rfl ?_
  refine ar_gf i_X7_areCompatible_1 (h) rfl ?_
  refine ar_ld i_X7_areCompatible_4 rfl rfl ?_
  refine av_ldi i_X7_areCompatible_5 (w1) (by omega) (by omega) ?_
  rw [(w3 a ha).1]
  refine ar_ld i_X7_areCompatible_6 rfl rfl ?_
  refine ar_gf i_X7_areCompatible_7 (h) rfl ?_
  refine ar_ld i_X7_areCompatible_10 rfl rfl ?_
  refine av_ldi i_X7_areCompatible_11 (w1) (by omega) (by omega) ?_
  rw [(w3 b hb).1]
  by_cases e : N a = N b
  · refine ar_iff i_X7_areCompatible_12 rfl (fun z => z (by rw [e])) ?_
    refine ar_ld i_X7_areCompatible_15 rfl rfl ?_
    refine ar_ld i_X7_areCompatible_16 rfl rfl ?_
    refine ar_ld i_X7_areCompatible_17 rfl rfl ?_
    refine ar_cr i_X7_areCompatible_18 rfl ⟨_, _, _, rfl, (h)⟩ (Nat.le_of_ble_eq_true rfl) (m_conflictOf d h hw0 ha hb) ?_
    have hc := wconf_lt (f := G a) (g := G b) (min (N a) (N b)) 0 (by omega)
    by_cases hcc : wcomp (N a) (N b) (G a) (G b)
    · refine ar_iff i_X7_areCompatible_21 rfl (fun z => absurd (hc.mpr (fun x _ hx => hcc.2 x (by omega))) (Int32.not_lt.mpr z)) ?_
      refine ar_push i_X7_areCompatible_24 ?_
      refine ar_go i_X7_areCompatible_25 ?_
      exact ar_ret i_X7_areCompatible_29 ((Or.inr rfl)) ⟨bR_t hcc, rfl⟩
    · refine ar_ift i_X7_areCompatible_21 rfl (Int32.not_lt.mp (fun z => hcc ⟨e, fun x hx => hc.mp z x (Nat.zero_le x) (by omega)⟩)) ?_
      refine ar_push i_X7_areCompatible_28 ?_
      exact ar_ret i_X7_areCompatible_29 ((Or.inl rfl)) ⟨bR_f hcc, rfl⟩
  · refine ar_ift i_X7_areCompatible_12 rfl (fun z => e (nI_inj (by omega) (by omega) z)) ?_
    refine ar_push i_X7_areCompatible_28 ?_
    exact ar_ret i_X7_areCompatible_29 ((Or.inl rfl)) ⟨bR_f (fun z => e z.1), rfl⟩
theorem m_isCompatible_r (d : Nat) {S : aq_S} {th k il err rd tl pc lo cur hs sv : Int32} {a0 : Int32} {a1 : Int32} (h : mO S th k il err rd tl pc lo cur hs sv) (hp : a0 < 0 ∨ nI 4 ≤ a0) : aX (d + 2) 155 [.ref 52, .int a0, .int a1] S (fun o S' => o = .inl (some (.int 0)) ∧ mO S' (1) k il err rd tl pc lo cur hs sv ∧ aq_fr S S' (fun q => q = 52)) := by
  refine ar_run (Nat.le_of_ble_eq_true rfl) (fun o S1 h => h.2.2.le) ?_
  refine ar_ld i_X7_isCompatible_0 rfl rfl ?_
  refine ar_cr i_X7_isCompatible_1 rfl trivial (Nat.le_of_ble_eq_true rfl) (m_isReg_no d hp) ?_
  refine ar_ift i_X7_isCompatible_4 rfl (by decide) ?_
  refine ar_ld i_X7_isCompatible_14 rfl rfl ?_
  refine ar_push i_X7_isCompatible_15 ?_
  refine av_cr i_X7_isCompatible_16 rfl ⟨_, _, _, rfl, (h)⟩ (Nat.le_of_ble_eq_true rfl) (m_refuses d h 1) (fun S1 q1 => ?_)
  exact ar_ret i_X7_isCompatible_19 ((Or.inl rfl)) ⟨rfl, q1⟩
theorem m_isCompatible_r2 (d : Nat) {S : aq_S} {th k il err rd tl pc lo cur hs sv : Int32} {r0 : Nat} {a1 : Int32} (h : mO S th k il err rd tl pc lo cur hs sv) (h0 : r0 < 4) (hp : a1 < 0 ∨ nI 4 ≤ a1) : aX (d + 2) 155 [.ref 52, .int (nI r0), .int a1] S (fun o S' => o = .inl (some (.int 0)) ∧ mO S' (1) k il err rd tl pc lo cur hs sv ∧ aq_fr S S' (fun q => q = 52)) := by
  refine ar_run (Nat.le_of_ble_eq_true rfl) (fun o S1 h => h.2.2.le) ?_
  refine ar_ld i_X7_isCompatible_0 rfl rfl ?_
  refine ar_cr i_X7_isCompatible_1 rfl trivial (Nat.le_of_ble_eq_true rfl) (m_isReg d h0) ?_
  refine ar_iff i_X7_isCompatible_4 rfl (by decide) ?_
  refine ar_ld i_X7_isCompatible_7 rfl rfl ?_
  refine ar_cr i_X7_isCompatible_8 rfl trivial (Nat.le_of_ble_eq_true rfl) (m_isReg_no d hp) ?_
  refine ar_iff i_X7_isCompatible_11 rfl (by decide) ?_
  refine ar_ld i_X7_isCompatible_14 rfl rfl ?_
  refine ar_push i_X7_isCompatible_15 ?_
  refine av_cr i_X7_isCompatible_16 rfl ⟨_, _, _, rfl, (h)⟩ (Nat.le_of_ble_eq_true rfl) (m_refuses d h 1) (fun S1 q1 => ?_)
  exact ar_ret i_X7_isCompatible_19 ((Or.inl rfl)) ⟨rfl, q1⟩
theorem m_isCompatible (d : Nat) {S : aq_S} {a b : Nat} {th k il err rd tl pc lo cur hs sv : Int32} {N : Nat → Nat} {G : Nat → Nat → Int32} (h : mO S th k il err rd tl pc lo cur hs sv) (hw : mW S N G) (ha : a < 4) (hb : b < 4) : aX (d + 4) 155 [.ref 52, .int (nI a), .int (nI b)] S (fun o S' => o = .inl (some (.int (bI (wcomp (N a) (N b) (G a) (G b))))) ∧ mO S' (0) k il err rd tl pc lo cur hs sv ∧ aq_fr S S' (fun q => q = 52)) := by
  refine ar_run (Nat.le_of_ble_eq_true rfl) (fun o S1 h => h.2.2.le) ?_
  refine ar_ld i_X7_isCompatible_0 rfl rfl ?_
  refine ar_cr i_X7_isCompatible_1 rfl trivial (Nat.le_of_ble_eq_true rfl) (m_isReg (d + 2) ha) ?_
  refine ar_iff i_X7_isCompatible_4 rfl (by decide) ?_
  refine ar_ld i_X7_isCompatible_7 rfl rfl ?_
  refine ar_cr i_X7_isCompatible_8 rfl trivial (Nat.le_of_ble_eq_true rfl) (m_isReg (d + 2) hb) ?_
  refine ar_ift i_X7_isCompatible_11 rfl (by decide) ?_
  refine ar_ld i_X7_isCompatible_20 rfl rfl ?_
  refine ar_push i_X7_isCompatible_21 ?_
  refine av_pf i_X7_isCompatible_22 (h) (Nat.le_of_ble_eq_true rfl) (rfl) rfl (fun S1 g1 k1 => ?_)
  have h1 : mO S1 (0) k il err rd tl pc lo cur hs sv := g1
  refine ar_ld i_X7_isCompatible_25 rfl rfl ?_
  refine ar_ld i_X7_isCompatible_26 rfl rfl ?_
  refine ar_ld i_X7_isCompatible_27 rfl rfl ?_
  refine ar_cr i_X7_isCompatible_28 rfl ⟨_, _, _, rfl, h1⟩ (Nat.le_of_ble_eq_true rfl) (m_areCompatible d h1 (hw.fr k1 (by omega) (by omega)) ha hb) ?_
  exact ar_ret i_X7_isCompatible_31 ((bI_01 _)) ⟨rfl, h1, k1⟩
theorem m_isContained_r (d : Nat) {S : aq_S} {th k il err rd tl pc lo cur hs sv : Int32} {a0 : Int32} {a1 : Int32} (h : mO S th k il err rd tl pc lo cur hs sv) (hp : a0 < 0 ∨ nI 4 ≤ a0) : aX (d + 2) 156 [.ref 52, .int a0, .int a1] S (fun o S' => o = .inl (some (.int 0)) ∧ mO S' (1) k il err rd tl pc lo cur hs sv ∧ aq_fr S S' (fun q => q = 52)) := by
  refine ar_run (Nat.le_of_ble_eq_true rfl) (fun o S1 h => h.2.2.le) ?_
  refine ar_ld i_X7_isContained_0 rfl rfl ?_
  refine ar_cr i_X7_isContained_1 rfl trivial (Nat.le_of_ble_eq_true rfl) (m_isReg_no d hp) ?_
  refine ar_ift i_X7_isContained_4 rfl (by decide) ?_
  refine ar_ld i_X7_isContained_14 rfl rfl ?_
  refine ar_push i_X7_isContained_15 ?_
  refine av_cr i_X7_isContained_16 rfl ⟨_, _, _, rfl, (h)⟩ (Nat.le_of_ble_eq_true rfl) (m_refuses d h 1) (fun S1 q1 => ?_)
  exact ar_ret i_X7_isContained_19 ((Or.inl rfl)) ⟨rfl, q1⟩
theorem m_isContained_r2 (d : Nat) {S : aq_S} {th k il err rd tl pc lo cur hs sv : Int32} {r0 : Nat} {a1 : Int32} (h : mO S th k il err rd tl pc lo cur hs sv) (h0 : r0 < 4) (hp : a1 < 0 ∨ nI 4 ≤ a1) : aX (d + 2) 156 [.ref 52, .int (nI r0), .int a1] S (fun o S' => o = .inl (some (.int 0)) ∧ mO S' (1) k il err rd tl pc lo cur hs sv ∧ aq_fr S S' (fun q => q = 52)) := by
  refine ar_run (Nat.le_of_ble_eq_true rfl) (fun o S1 h => h.2.2.le) ?_
  refine ar_ld i_X7_isContained_0 rfl rfl ?_
  refine ar_cr i_X7_isContained_1 rfl trivial (Nat.le_of_ble_eq_true rfl) (m_isReg d h0) ?_
  refine ar_iff i_X7_isContained_4 rfl (by decide) ?_
  refine ar_ld i_X7_isContained_7 rfl rfl ?_
  refine ar_cr i_X7_isContained_8 rfl trivial (Nat.le_of_ble_eq_true rfl) (m_isReg_no d hp) ?_
  refine ar_iff i_X7_isContained_11 rfl (by decide) ?_
  refine ar_ld i_X7_isContained_14 rfl rfl ?_
  refine ar_push i_X7_isContained_15 ?_
  refine av_cr i_X7_isContained_16 rfl ⟨_, _, _, rfl, (h)⟩ (Nat.le_of_ble_eq_true rfl) (m_refuses d h 1) (fun S1 q1 => ?_)
  exact ar_ret i_X7_isContained_19 ((Or.inl rfl)) ⟨rfl, q1⟩
theorem m_isContained (d : Nat) {S : aq_S} {a b : Nat} {th k il err rd tl pc lo cur hs sv : Int32} {N : Nat → Nat} {G : Nat → Nat → Int32} (h : mO S th k il err rd tl pc lo cur hs sv) (hw : mW S N G) (ha : a < 4) (hb : b < 4) : aX (d + 2) 156 [.ref 52, .int (nI a), .int (nI b)] S (fun o S' => o = .inl (some (.int (bI (wcont (N a) (N b) (G a) (G b))))) ∧ mO S' (0) k il err rd tl pc lo cur hs sv ∧ aq_fr S S' (fun q => q = 52)) := by
  obtain ⟨fl, fw, w1, w2, w3, w4⟩ := hw
  have hNa := (w3 a ha).2
  have hNb := (w3 b hb).2
  refine ar_run (Nat.le_of_ble_eq_true rfl) (fun o S1 h => h.2.2.le) ?_
  refine ar_ld i_X7_isContained_0 rfl rfl ?_
  refine ar_cr i_X7_isContained_1 rfl trivial (Nat.le_of_ble_eq_true rfl) (m_isReg d ha) ?_
  refine ar_iff i_X7_isContained_4 rfl (by decide) ?_
  refine ar_ld i_X7_isContained_7 rfl rfl ?_
  refine ar_cr i_X7_isContained_8 rfl trivial (Nat.le_of_ble_eq_true rfl) (m_isReg d hb) ?_
  refine ar_ift i_X7_isContained_11 rfl (by decide) ?_
  refine ar_ld i_X7_isContained_20 rfl rfl ?_
  refine ar_push i_X7_isContained_21 ?_
  refine av_pf i_X7_isContained_22 (h) (Nat.le_of_ble_eq_true rfl) (rfl) rfl (fun S1 g1 k1 => ?_)
  have h1 : mO S1 (0) k il err rd tl pc lo cur hs sv := g1
  have u1 := w1.fr k1 (by omega)
  have u2 := w2.fr k1 (by omega)
  refine ar_ld i_X7_isContained_25 rfl rfl ?_
  refine ar_gf i_X7_isContained_26 (h1) rfl ?_
  refine ar_ld i_X7_isContained_29 rfl rfl ?_
  refine av_ldi i_X7_isContained_30 (u1) (by omega) (by omega) ?_
  rw [(w3 a ha).1]
  refine ar_ld i_X7_isContained_31 rfl rfl ?_
  refine ar_gf i_X7_isContained_32 (h1) rfl ?_
  refine ar_ld i_X7_isContained_35 rfl rfl ?_
  refine av_ldi i_X7_isContained_36 (u1) (by omega) (by omega) ?_
  rw [(w3 b hb).1]
  by_cases e : N a = N b
  · refine ar_ift i_X7_isContained_37 rfl (by rw [e]) ?_
    refine ar_push i_X7_isContained_42 ?_
    refine ar_st i_X7_isContained_43 rfl rfl ?_
    suffices key : ∀ j i, i + j = N a → (∀ x, x < i → G a x = -1 ∨ G a x = G b x) → aG (d + 1) 156 (fun o S' => o = .inl (some (.int (bI (wcont (N a) (N b) (G a) (G b))))) ∧ mO S' (0) k il err rd tl pc lo cur hs sv ∧ aq_fr S S' (fun q => q = 52)) 44 [(0, .ref 52), (1, .int (nI a)), (2, .int (nI b)), (3, .int (nI i))] [] S1 from key (N a) 0 (by omega) (fun x hx => absurd hx (Nat.not_lt_zero x))
    intro j
    induction j with
    | zero =>
      intro i hi hag
      refine ar_ld i_X7_isContained_44 rfl rfl ?_
      refine ar_ld i_X7_isContained_45 rfl rfl ?_
      refine ar_gf i_X7_isContained_46 (h1) rfl ?_
      refine ar_ld i_X7_isContained_49 rfl rfl ?_
      refine av_ldi i_X7_isContained_50 (u1) (by omega) (by omega) ?_
      rw [(w3 a ha).1]
      refine ar_ift i_X7_isContained_51 rfl (nI_le (by omega) (by omega)) ?_
      refine ar_push i_X7_isContained_87 ?_
      exact ar_ret i_X7_isContained_88 ((Or.inr rfl)) ⟨bR_t ⟨e, fun x hx => hag x (by omega)⟩, h1, k1⟩
    | succ j ih =>
      intro i hi hag
      have nx : (G a i = -1 ∨ G a i = G b i) → aG (d + 1) 156 (fun o S' => o = .inl (some (.int (bI (wcont (N a) (N b) (G a) (G b))))) ∧ mO S' (0) k il err rd tl pc lo cur hs sv ∧ aq_fr S S' (fun q => q = 52)) 81 [(0, .ref 52), (1, .int (nI a)), (2, .int (nI b)), (3, .int (nI i))] [] S1 := by
        intro hh
        refine ar_inc i_X7_isContained_81 rfl rfl ?_
        refine ar_go i_X7_isContained_84 ?_
        have := ih (i + 1) (by omega) (fun x hx => by
          by_cases e : x = i
          · rw [e]; exact hh
          · exact hag x (by omega))
        rw [← nI_1] at this
        exact this
      refine ar_ld i_X7_isContained_44 rfl rfl ?_
      refine ar_ld i_X7_isContained_45 rfl rfl ?_
      refine ar_gf i_X7_isContained_46 (h1) rfl ?_
      refine ar_ld i_X7_isContained_49 rfl rfl ?_
      refine av_ldi i_X7_isContained_50 (u1) (by omega) (by omega) ?_
      rw [(w3 a ha).1]
      refine ar_iff i_X7_isContained_51 rfl (nI_ge (by omega) (by omega)) ?_
      refine ar_ld i_X7_isContained_54 rfl rfl ?_
      refine ar_ld i_X7_isContained_55 rfl rfl ?_
      refine ar_ld i_X7_isContained_56 rfl rfl ?_
      refine ar_cr i_X7_isContained_57 rfl ⟨_, _, _, rfl, (h1)⟩ (Nat.le_of_ble_eq_true rfl) (m_at d h1 u2 ha (i := i) (by omega)) ?_
      rw [w4 a ha i (by omega)]
      refine ar_push i_X7_isContained_60 ?_
      refine ar_if i_X7_isContained_61 rfl (fun c61 => ?_) (fun c61 => ?_)
      · exact nx (Or.inl c61)
      · refine ar_ld i_X7_isContained_64 rfl rfl ?_
        refine ar_ld i_X7_isContained_65 rfl rfl ?_
        refine ar_ld i_X7_isContained_66 rfl rfl ?_
        refine ar_cr i_X7_isContained_67 rfl ⟨_, _, _, rfl, (h1)⟩ (Nat.le_of_ble_eq_true rfl) (m_at d h1 u2 ha (i := i) (by omega)) ?_
        rw [w4 a ha i (by omega)]
        refine ar_ld i_X7_isContained_70 rfl rfl ?_
        refine ar_ld i_X7_isContained_71 rfl rfl ?_
        refine ar_ld i_X7_isContained_72 rfl rfl ?_
        refine ar_cr i_X7_isContained_73 rfl ⟨_, _, _, rfl, (h1)⟩ (Nat.le_of_ble_eq_true rfl) (m_at d h1 u2 hb (i := i) (by omega)) ?_
        rw [w4 b hb i (by omega)]
        refine ar_if i_X7_isContained_76 rfl (fun c76 => ?_) (fun c76 => ?_)
        · exact nx (Or.inr c76)
        · refine ar_push i_X7_isContained_79 ?_
          exact ar_ret i_X7_isContained_80 ((Or.inl rfl)) ⟨bR_f (fun z => (z.2 i (by omega)).elim c61 c76), h1, k1⟩
  · refine ar_iff i_X7_isContained_37 rfl (fun z => e (nI_inj (by omega) (by omega) z)) ?_
    refine ar_push i_X7_isContained_40 ?_
    exact ar_ret i_X7_isContained_41 ((Or.inl rfl)) ⟨bR_f (fun z => e z.1), h1, k1⟩
theorem m_conflict_r (d : Nat) {S : aq_S} {th k il err rd tl pc lo cur hs sv : Int32} {a0 : Int32} {a1 : Int32} (h : mO S th k il err rd tl pc lo cur hs sv) (hp : a0 < 0 ∨ nI 4 ≤ a0) : aX (d + 2) 157 [.ref 52, .int a0, .int a1] S (fun o S' => o = .inl (some (.int 0)) ∧ mO S' (1) k il err rd tl pc lo cur hs sv ∧ aq_fr S S' (fun q => q = 52)) := by
  refine ar_run (Nat.le_of_ble_eq_true rfl) (fun o S1 h => h.2.2.le) ?_
  refine ar_ld i_X7_conflict_0 rfl rfl ?_
  refine ar_cr i_X7_conflict_1 rfl trivial (Nat.le_of_ble_eq_true rfl) (m_isReg_no d hp) ?_
  refine ar_ift i_X7_conflict_4 rfl (by decide) ?_
  refine ar_ld i_X7_conflict_14 rfl rfl ?_
  refine ar_push i_X7_conflict_15 ?_
  refine av_cr i_X7_conflict_16 rfl ⟨_, _, _, rfl, (h)⟩ (Nat.le_of_ble_eq_true rfl) (m_fails d h 1) (fun S1 q1 => ?_)
  exact ar_ret i_X7_conflict_19 rfl ⟨rfl, q1⟩
theorem m_conflict_r2 (d : Nat) {S : aq_S} {th k il err rd tl pc lo cur hs sv : Int32} {r0 : Nat} {a1 : Int32} (h : mO S th k il err rd tl pc lo cur hs sv) (h0 : r0 < 4) (hp : a1 < 0 ∨ nI 4 ≤ a1) : aX (d + 2) 157 [.ref 52, .int (nI r0), .int a1] S (fun o S' => o = .inl (some (.int 0)) ∧ mO S' (1) k il err rd tl pc lo cur hs sv ∧ aq_fr S S' (fun q => q = 52)) := by
  refine ar_run (Nat.le_of_ble_eq_true rfl) (fun o S1 h => h.2.2.le) ?_
  refine ar_ld i_X7_conflict_0 rfl rfl ?_
  refine ar_cr i_X7_conflict_1 rfl trivial (Nat.le_of_ble_eq_true rfl) (m_isReg d h0) ?_
  refine ar_iff i_X7_conflict_4 rfl (by decide) ?_
  refine ar_ld i_X7_conflict_7 rfl rfl ?_
  refine ar_cr i_X7_conflict_8 rfl trivial (Nat.le_of_ble_eq_true rfl) (m_isReg_no d hp) ?_
  refine ar_iff i_X7_conflict_11 rfl (by decide) ?_
  refine ar_ld i_X7_conflict_14 rfl rfl ?_
  refine ar_push i_X7_conflict_15 ?_
  refine av_cr i_X7_conflict_16 rfl ⟨_, _, _, rfl, (h)⟩ (Nat.le_of_ble_eq_true rfl) (m_fails d h 1) (fun S1 q1 => ?_)
  exact ar_ret i_X7_conflict_19 rfl ⟨rfl, q1⟩
theorem m_conflict_n (d : Nat) {S : aq_S} {a b : Nat} {th k il err rd tl pc lo cur hs sv : Int32} {N : Nat → Nat} {G : Nat → Nat → Int32} (h : mO S th k il err rd tl pc lo cur hs sv) (hw : mW S N G) (ha : a < 4) (hb : b < 4) (hnm : ¬ N a = N b) : aX (d + 3) 157 [.ref 52, .int (nI a), .int (nI b)] S (fun o S' => o = .inl (some (.int 0)) ∧ mO S' (2) k il err rd tl pc lo cur hs sv ∧ aq_fr S S' (fun q => q = 52)) := by
  obtain ⟨fl, fw, w1, w2, w3, w4⟩ := hw
  have hNa := (w3 a ha).2
  have hNb := (w3 b hb).2
  refine ar_run (Nat.le_of_ble_eq_true rfl) (fun o S1 h => h.2.2.le) ?_
  refine ar_ld i_X7_conflict_0 rfl rfl ?_
  refine ar_cr i_X7_conflict_1 rfl trivial (Nat.le_of_ble_eq_true rfl) (m_isReg (d + 1) ha) ?_
  refine ar_iff i_X7_conflict_4 rfl (by decide) ?_
  refine ar_ld i_X7_conflict_7 rfl rfl ?_
  refine ar_cr i_X7_conflict_8 rfl trivial (Nat.le_of_ble_eq_true rfl) (m_isReg (d + 1) hb) ?_
  refine ar_ift i_X7_conflict_11 rfl (by decide) ?_
  refine ar_ld i_X7_conflict_20 rfl rfl ?_
  refine ar_gf i_X7_conflict_21 (h) rfl ?_
  refine ar_ld i_X7_conflict_24 rfl rfl ?_
  refine av_ldi i_X7_conflict_25 (w1) (by omega) (by omega) ?_
  rw [(w3 a ha).1]
  refine ar_ld i_X7_conflict_26 rfl rfl ?_
  refine ar_gf i_X7_conflict_27 (h) rfl ?_
  refine ar_ld i_X7_conflict_30 rfl rfl ?_
  refine av_ldi i_X7_conflict_31 (w1) (by omega) (by omega) ?_
  rw [(w3 b hb).1]
  refine ar_iff i_X7_conflict_32 rfl (fun z => hnm (nI_inj (by omega) (by omega) z)) ?_
  refine ar_ld i_X7_conflict_35 rfl rfl ?_
  refine ar_push i_X7_conflict_36 ?_
  refine av_cr i_X7_conflict_37 rfl ⟨_, _, _, rfl, (h)⟩ (Nat.le_of_ble_eq_true rfl) (m_fails (d + 1) h 2) (fun S1 q1 => ?_)
  exact ar_ret i_X7_conflict_40 rfl ⟨rfl, q1⟩
theorem m_conflict (d : Nat) {S : aq_S} {a b : Nat} {th k il err rd tl pc lo cur hs sv : Int32} {N : Nat → Nat} {G : Nat → Nat → Int32} (h : mO S th k il err rd tl pc lo cur hs sv) (hw : mW S N G) (ha : a < 4) (hb : b < 4) (hnm : N a = N b) : aX (d + 3) 157 [.ref 52, .int (nI a), .int (nI b)] S (fun o S' => o = .inl (some (.int (wconf (G a) (G b) (N a) 0))) ∧ mO S' (0) k il err rd tl pc lo cur hs sv ∧ aq_fr S S' (fun q => q = 52)) := by
  have hw0 := hw
  obtain ⟨fl, fw, w1, w2, w3, w4⟩ := hw
  refine ar_run (Nat.le_of_ble_eq_true rfl) (fun o S1 h => h.2.2.le) ?_
  refine ar_ld i_X7_conflict_0 rfl rfl ?_
  refine ar_cr i_X7_conflict_1 rfl trivial (Nat.le_of_ble_eq_true rfl) (m_isReg (d + 1) ha) ?_
  refine ar_iff i_X7_conflict_4 rfl (by decide) ?_
  refine ar_ld i_X7_conflict_7 rfl rfl ?_
  refine ar_cr i_X7_conflict_8 rfl trivial (Nat.le_of_ble_eq_true rfl) (m_isReg (d + 1) hb) ?_
  refine ar_ift i_X7_conflict_11 rfl (by decide) ?_
  refine ar_ld i_X7_conflict_20 rfl rfl ?_
  refine ar_gf i_X7_conflict_21 (h) rfl ?_
  refine ar_ld i_X7_conflict_24 rfl rfl ?_
  refine av_ldi i_X7_conflict_25 (w1) (by omega) (by omega) ?_
  rw [(w3 a ha).1]
  refine ar_ld i_X7_conflict_26 rfl rfl ?_
  refine ar_gf i_X7_conflict_27 (h) rfl ?_
  refine ar_ld i_X7_conflict_30 rfl rfl ?_
  refine av_ldi i_X7_conflict_31 (w1) (by omega) (by omega) ?_
  rw [(w3 b hb).1]
  refine ar_ift i_X7_conflict_32 rfl (by rw [hnm]) ?_
  refine ar_ld i_X7_conflict_41 rfl rfl ?_
  refine ar_push i_X7_conflict_42 ?_
  refine av_pf i_X7_conflict_43 (h) (Nat.le_of_ble_eq_true rfl) (rfl) rfl (fun S1 g1 k1 => ?_)
  have h1 : mO S1 (0) k il err rd tl pc lo cur hs sv := g1
  refine ar_ld i_X7_conflict_46 rfl rfl ?_
  refine ar_ld i_X7_conflict_47 rfl rfl ?_
  refine ar_ld i_X7_conflict_48 rfl rfl ?_
  refine ar_cr i_X7_conflict_49 rfl ⟨_, _, _, rfl, h1⟩ (Nat.le_of_ble_eq_true rfl) (m_conflictOf d h1 (hw0.fr k1 (by omega) (by omega)) ha hb) ?_
  exact ar_ret i_X7_conflict_52 rfl ⟨by rw [show min (N a) (N b) = N a by omega], h1, k1⟩
theorem m_concatenate_r (d : Nat) {S : aq_S} {th k il err rd tl pc lo cur hs sv : Int32} {a0 : Int32} {a1 : Int32} (h : mO S th k il err rd tl pc lo cur hs sv) (hp : a0 < 0 ∨ nI 4 ≤ a0) : aX (d + 2) 146 [.ref 52, .int a0, .int a1] S (fun o S' => o = .inl (some (.int 0)) ∧ mO S' (1) k il err rd tl pc lo cur hs sv ∧ aq_fr S S' (fun q => q = 52)) := by
  refine ar_run (Nat.le_of_ble_eq_true rfl) (fun o S1 h => h.2.2.le) ?_
  refine ar_ld i_X7_concatenate_0 rfl rfl ?_
  refine ar_cr i_X7_concatenate_1 rfl trivial (Nat.le_of_ble_eq_true rfl) (m_isReg_no d hp) ?_
  refine ar_ift i_X7_concatenate_4 rfl (by decide) ?_
  refine ar_ld i_X7_concatenate_14 rfl rfl ?_
  refine ar_push i_X7_concatenate_15 ?_
  refine av_cr i_X7_concatenate_16 rfl ⟨_, _, _, rfl, (h)⟩ (Nat.le_of_ble_eq_true rfl) (m_fails d h 1) (fun S1 q1 => ?_)
  exact ar_ret i_X7_concatenate_19 rfl ⟨rfl, q1⟩
theorem m_concatenate_r2 (d : Nat) {S : aq_S} {th k il err rd tl pc lo cur hs sv : Int32} {r0 : Nat} {a1 : Int32} (h : mO S th k il err rd tl pc lo cur hs sv) (h0 : r0 < 4) (hp : a1 < 0 ∨ nI 4 ≤ a1) : aX (d + 2) 146 [.ref 52, .int (nI r0), .int a1] S (fun o S' => o = .inl (some (.int 0)) ∧ mO S' (1) k il err rd tl pc lo cur hs sv ∧ aq_fr S S' (fun q => q = 52)) := by
  refine ar_run (Nat.le_of_ble_eq_true rfl) (fun o S1 h => h.2.2.le) ?_
  refine ar_ld i_X7_concatenate_0 rfl rfl ?_
  refine ar_cr i_X7_concatenate_1 rfl trivial (Nat.le_of_ble_eq_true rfl) (m_isReg d h0) ?_
  refine ar_iff i_X7_concatenate_4 rfl (by decide) ?_
  refine ar_ld i_X7_concatenate_7 rfl rfl ?_
  refine ar_cr i_X7_concatenate_8 rfl trivial (Nat.le_of_ble_eq_true rfl) (m_isReg_no d hp) ?_
  refine ar_iff i_X7_concatenate_11 rfl (by decide) ?_
  refine ar_ld i_X7_concatenate_14 rfl rfl ?_
  refine ar_push i_X7_concatenate_15 ?_
  refine av_cr i_X7_concatenate_16 rfl ⟨_, _, _, rfl, (h)⟩ (Nat.le_of_ble_eq_true rfl) (m_fails d h 1) (fun S1 q1 => ?_)
  exact ar_ret i_X7_concatenate_19 rfl ⟨rfl, q1⟩
theorem m_concatenate_full (d : Nat) {S : aq_S} {r q : Nat} {th k il err rd tl pc lo cur hs sv : Int32} {N : Nat → Nat} {G : Nat → Nat → Int32} (h : mO S th k il err rd tl pc lo cur hs sv) (hw : mW S N G) (hr : r < 4) (hq : q < 4) (hn : 40 < N r + N q) : aX (d + 2) 146 [.ref 52, .int (nI r), .int (nI q)] S (fun o S' => o = .inl (some (.int 0)) ∧ mO S' (2) k il err rd tl pc lo cur hs sv ∧ aq_fr S S' (fun q => q = 52)) := by
  obtain ⟨fl, fw, w1, w2, w3, w4⟩ := hw
  have hNr := (w3 r hr).2
  have hNq := (w3 q hq).2
  refine ar_run (Nat.le_of_ble_eq_true rfl) (fun o S1 h => h.2.2.le) ?_
  refine ar_ld i_X7_concatenate_0 rfl rfl ?_
  refine ar_cr i_X7_concatenate_1 rfl trivial (Nat.le_of_ble_eq_true rfl) (m_isReg d hr) ?_
  refine ar_iff i_X7_concatenate_4 rfl (by decide) ?_
  refine ar_ld i_X7_concatenate_7 rfl rfl ?_
  refine ar_cr i_X7_concatenate_8 rfl trivial (Nat.le_of_ble_eq_true rfl) (m_isReg d hq) ?_
  refine ar_ift i_X7_concatenate_11 rfl (by decide) ?_
  refine ar_ld i_X7_concatenate_20 rfl rfl ?_
  refine ar_gf i_X7_concatenate_21 (h) rfl ?_
  refine ar_ld i_X7_concatenate_24 rfl rfl ?_
  refine av_ldi i_X7_concatenate_25 (w1) (by omega) (by omega) ?_
  rw [(w3 q hq).1]
  refine ar_st i_X7_concatenate_26 rfl rfl ?_
  refine ar_ld i_X7_concatenate_27 rfl rfl ?_
  refine ar_gf i_X7_concatenate_28 (h) rfl ?_
  refine ar_ld i_X7_concatenate_31 rfl rfl ?_
  refine av_ldi i_X7_concatenate_32 (w1) (by omega) (by omega) ?_
  rw [(w3 r hr).1]
  refine ar_ld i_X7_concatenate_33 rfl rfl ?_
  refine ar_ar i_X7_concatenate_34 rfl ?_
  rw [nI_add]
  refine ar_push i_X7_concatenate_35 ?_
  refine ar_iff i_X7_concatenate_37 rfl (nI_ge (a := 40) hn (by omega)) ?_
  refine ar_ld i_X7_concatenate_40 rfl rfl ?_
  refine ar_push i_X7_concatenate_41 ?_
  refine av_cr i_X7_concatenate_42 rfl ⟨_, _, _, rfl, (h)⟩ (Nat.le_of_ble_eq_true rfl) (m_fails d h 2) (fun S1 q1 => ?_)
  exact ar_ret i_X7_concatenate_45 rfl ⟨rfl, q1⟩
theorem m_concatenate (d : Nat) {S : aq_S} {r q : Nat} {th k il err rd tl pc lo cur hs sv : Int32} {N : Nat → Nat} {G : Nat → Nat → Int32} (h : mO S th k il err rd tl pc lo cur hs sv) (hw : mW S N G) (hr : r < 4) (hq : q < 4) (hn : N r + N q ≤ 40) : aX (d + 2) 146 [.ref 52, .int (nI r), .int (nI q)] S (fun o S' => o = .inl (some (.int (nI (N r + N q)))) ∧ (mO S' (0) k il err rd tl pc lo cur hs sv ∧ mW S' (updN N r (N r + N q)) (updG G r (fun i => if i < N r then G r i else G q (i - N r)))) ∧ aq_fr S S' (fun c => 52 ≤ c ∧ c ≤ 54)) := by
  obtain ⟨fl, fw, w1, w2, w3, w4⟩ := hw
  have hNr := (w3 r hr).2
  have hNq := (w3 q hq).2
  refine ar_run (Nat.le_of_ble_eq_true rfl) (fun o S1 h => h.2.2.le) ?_
  refine ar_ld i_X7_concatenate_0 rfl rfl ?_
  refine ar_cr i_X7_concatenate_1 rfl trivial (Nat.le_of_ble_eq_true rfl) (m_isReg d hr) ?_
  refine ar_iff i_X7_concatenate_4 rfl (by decide) ?_
  refine ar_ld i_X7_concatenate_7 rfl rfl ?_
  refine ar_cr i_X7_concatenate_8 rfl trivial (Nat.le_of_ble_eq_true rfl) (m_isReg d hq) ?_
  refine ar_ift i_X7_concatenate_11 rfl (by decide) ?_
  refine ar_ld i_X7_concatenate_20 rfl rfl ?_
  refine ar_gf i_X7_concatenate_21 (h) rfl ?_
  refine ar_ld i_X7_concatenate_24 rfl rfl ?_
  refine av_ldi i_X7_concatenate_25 (w1) (by omega) (by omega) ?_
  rw [(w3 q hq).1]
  refine ar_st i_X7_concatenate_26 rfl rfl ?_
  refine ar_ld i_X7_concatenate_27 rfl rfl ?_
  refine ar_gf i_X7_concatenate_28 (h) rfl ?_
  refine ar_ld i_X7_concatenate_31 rfl rfl ?_
  refine av_ldi i_X7_concatenate_32 (w1) (by omega) (by omega) ?_
  rw [(w3 r hr).1]
  refine ar_ld i_X7_concatenate_33 rfl rfl ?_
  refine ar_ar i_X7_concatenate_34 rfl ?_
  rw [nI_add]
  refine ar_push i_X7_concatenate_35 ?_
  refine ar_ift i_X7_concatenate_37 rfl (nI_le (b := 40) hn (by omega)) ?_
  refine ar_ld i_X7_concatenate_46 rfl rfl ?_
  refine ar_push i_X7_concatenate_47 ?_
  refine av_pf i_X7_concatenate_48 (h) (Nat.le_of_ble_eq_true rfl) (rfl) rfl (fun S1 g1 k1 => ?_)
  have h1 : mO S1 (0) k il err rd tl pc lo cur hs sv := g1
  refine ar_push i_X7_concatenate_51 ?_
  refine ar_st i_X7_concatenate_52 rfl rfl ?_
  suffices key : ∀ j i (S1 : aq_S) (F : Nat → Int32), i + j = N q → mO S1 (0) k il err rd tl pc lo cur hs sv → ia S1 53 4 fl → ia S1 54 160 F → (∀ x, x < i → F (40 * r + (N r + x)) = G q x) → (∀ x y, x < 4 → y < 40 → (x ≠ r ∨ y < N r) → F (40 * x + y) = fw (40 * x + y)) → aq_fr S S1 (fun c => 52 ≤ c ∧ c ≤ 54) → aG (d + 1) 146 (fun o S' => o = .inl (some (.int (nI (N r + N q)))) ∧ (mO S' (0) k il err rd tl pc lo cur hs sv ∧ mW S' (updN N r (N r + N q)) (updG G r (fun i => if i < N r then G r i else G q (i - N r)))) ∧ aq_fr S S' (fun c => 52 ≤ c ∧ c ≤ 54)) 54 [(0, .ref 52), (1, .int (nI r)), (2, .int (nI q)), (3, .int (nI (N q))), (4, .int (nI i))] [] S1 from key (N q) 0 S1 fw (by omega) h1 (w1.fr k1 (by omega)) (w2.fr k1 (by omega)) (fun x hx => absurd hx (Nat.not_lt_zero x)) (fun x y _ _ _ => rfl) (k1.mono (fun q z => by omega))
  intro j
  induction j with
  | zero =>
    intro i S1 F hi h1 u1 u2 hag hre hfr
    refine ar_ld i_X7_concatenate_54 rfl rfl ?_
    refine ar_ld i_X7_concatenate_56 rfl rfl ?_
    refine ar_ift i_X7_concatenate_57 rfl (nI_le (by omega) (by omega)) ?_
    refine ar_ld i_X7_concatenate_92 rfl rfl ?_
    refine ar_gf i_X7_concatenate_93 (h1) rfl ?_
    refine ar_ld i_X7_concatenate_96 rfl rfl ?_
    refine ar_ar i_X7_concatenate_97 rfl ?_
    refine av_ldi i_X7_concatenate_98 (u1) (by omega) (by omega) ?_
    rw [(w3 r hr).1]
    refine ar_ld i_X7_concatenate_99 rfl rfl ?_
    refine ar_ar i_X7_concatenate_100 rfl ?_
    rw [nI_add]
    refine av_sti i_X7_concatenate_101 (by omega) (u1) (by omega) (by omega) (fun S2 g2 k2 => ?_)
    have h2 := h1.fr k2 (by omega)
    refine ar_ld i_X7_concatenate_102 rfl rfl ?_
    refine ar_gf i_X7_concatenate_103 (h2) rfl ?_
    refine ar_ld i_X7_concatenate_106 rfl rfl ?_
    refine av_ldi i_X7_concatenate_107 (g2) (by omega) (by omega) ?_
    rw [upd_eq]
    refine ar_ret i_X7_concatenate_108 rfl ⟨rfl, ⟨h2, _, F, g2, u2.fr k2 (by omega), ?_⟩, hfr.tr (k2.mono (fun q z => by omega))⟩
    refine ⟨fun x hx => ?_, fun x hx y hy => ?_⟩
    · by_cases e : x = r
      · rw [e, updN_eq, upd_eq]; exact ⟨rfl, hn⟩
      · rw [updN_ne e, upd_ne e]; exact w3 x hx
    · by_cases e : x = r
      · subst e
        rw [updN_eq] at hy
        rw [updG_eq]
        by_cases e2 : y < N x
        · show _ = if y < N x then _ else _
          rw [if_pos e2, hre x y hr (by omega) (Or.inr e2)]
          exact w4 x hr y e2
        · show _ = if y < N x then _ else _
          rw [if_neg e2]
          have := hag (y - N x) (by omega)
          rw [show N x + (y - N x) = y by omega] at this
          exact this
      · rw [updN_ne e] at hy
        have := (w3 x hx).2
        rw [updG_ne e, hre x y hx (by omega) (Or.inl e)]
        exact w4 x hx y hy
  | succ j ih =>
    intro i S1 F hi h1 u1 u2 hag hre hfr
    refine ar_ld i_X7_concatenate_54 rfl rfl ?_
    refine ar_ld i_X7_concatenate_56 rfl rfl ?_
    refine ar_iff i_X7_concatenate_57 rfl (nI_ge (by omega) (by omega)) ?_
    refine ar_ld i_X7_concatenate_60 rfl rfl ?_
    refine ar_gf i_X7_concatenate_61 (h1) rfl ?_
    refine ar_push i_X7_concatenate_64 ?_
    rw [show (40 : Int32) = nI 40 from rfl]
    refine ar_ld i_X7_concatenate_66 rfl rfl ?_
    refine ar_ar i_X7_concatenate_67 rfl ?_
    rw [pk_mul]
    refine ar_ld i_X7_concatenate_68 rfl rfl ?_
    refine ar_gf i_X7_concatenate_69 (h1) rfl ?_
    refine ar_ld i_X7_concatenate_72 rfl rfl ?_
    refine av_ldi i_X7_concatenate_73 (u1) (by omega) (by omega) ?_
    rw [(w3 r hr).1]
    refine ar_ar i_X7_concatenate_74 rfl ?_
    rw [nI_add]
    refine ar_ld i_X7_concatenate_75 rfl rfl ?_
    refine ar_ar i_X7_concatenate_77 rfl ?_
    rw [nI_add]
    refine ar_ld i_X7_concatenate_78 rfl rfl ?_
    refine ar_ld i_X7_concatenate_79 rfl rfl ?_
    refine ar_ld i_X7_concatenate_80 rfl rfl ?_
    refine ar_cr i_X7_concatenate_82 rfl ⟨_, _, _, rfl, h1⟩ (Nat.le_of_ble_eq_true rfl) (m_at d h1 u2 hq (i := i) (by omega)) ?_
    have hv : F (40 * q + i) = G q i := by
      rw [hre q i hq (by omega) (by
        by_cases e : q = r
        · right; subst e; omega
        · exact Or.inl e)]
      exact w4 q hq i (by omega)
    rw [hv]
    refine av_sti i_X7_concatenate_85 (by omega) (u2) (by omega) (by omega) (fun S2 g2 k2 => ?_)
    refine ar_inc i_X7_concatenate_86 rfl rfl ?_
    refine ar_go i_X7_concatenate_89 ?_
    have := ih (i + 1) S2 _ (by omega) (h1.fr k2 (by omega)) (u1.fr k2 (by omega)) g2 (fun x hx => by
      by_cases e : x = i
      · rw [e, show 40 * r + N r + i = 40 * r + (N r + i) by omega, upd_eq]
      · rw [upd_ne (by omega)]; exact hag x (by omega)) (fun x y hx hy hxy => by rw [upd_ne (by omega)]; exact hre x y hx hy hxy) (hfr.tr (k2.mono (fun q z => by omega)))
    rw [← nI_1] at this
    exact this
end
