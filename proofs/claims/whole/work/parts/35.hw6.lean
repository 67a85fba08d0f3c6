/-! ===== the patterns, as bits; addPattern, removePattern, avoids ===== -/
section
/-- the bit t stands for a symbol of a pattern that the letter l fits -/
def pAcc (c : Nat) (pn : Nat → Nat) (pg : Nat → Nat → Int32) (l : Int32) (t : Nat) : Prop := ∃ i j, i < c ∧ j < pn i ∧ t = 5 * i + j ∧ ¬ wdf (pg i j) l
def pEnd (c : Nat) (pn : Nat → Nat) (t : Nat) : Prop := ∃ i, i < c ∧ t + 1 = 5 * i + pn i
/-- patterns: their number, lengths, symbols -/
def pOk (c : Nat) (pn : Nat → Nat) (pg : Nat → Nat → Int32) : Prop := c ≤ 12 ∧ (∀ i, i < c → 1 ≤ pn i ∧ pn i ≤ 5) ∧ ∀ i j, i < c → j < pn i → isY 3 (pg i j)
def hP (S : aq_S) (b c : Nat) (pn : Nat → Nat) (pg : Nat → Nat → Int32) : Prop := ∃ (E : Int64) (acc : Nat → Int64), S.2.2.2 b = some (.inr (0, [.ref (b + 1), .long E, .int (nI c)])) ∧ S.2.2.2 (b + 1) = some (.inl (1, (3, .inr (.inl acc)))) ∧ b ≠ 0 ∧ (∀ l, l < 3 → ∀ t, t < 64 → (lb (acc l) t = true ↔ pAcc c pn pg (nI l) t)) ∧ ∀ t, t < 64 → (lb E t = true ↔ pEnd c pn t)
theorem hP.fr {S S' : aq_S} {b c : Nat} {pn : Nat → Nat} {pg : Nat → Nat → Int32} {P : Nat → Prop} (h : hP S b c pn pg) (k : aq_fr S S' P) (h1 : ¬ P b) (h2 : ¬ P (b + 1)) : hP S' b c pn pg := by
  obtain ⟨E, acc, a1, a2, a3⟩ := h
  exact ⟨E, acc, (k.2.2.2 _ h1).trans a1, (k.2.2.2 _ h2).trans a2, a3⟩
theorem updL_eq {f : Nat → Int64} {j : Nat} {x : Int64} : vp_updL f j x j = x := by unfold vp_updL; rw [if_pos rfl]
theorem updL_ne {f : Nat → Int64} {j i : Nat} {x : Int64} (h : i ≠ j) : vp_updL f j x i = f i := by unfold vp_updL; rw [if_neg h]
theorem p_count (d : Nat) {S : aq_S} {b c : Nat} {pn : Nat → Nat} {pg : Nat → Nat → Int32} (h : hP S b c pn pg) : aX (d + 1) 1 [.ref b] S (fun o S' => o = .inl (some (.int (nI c))) ∧ S' = S) := by
  obtain ⟨E, acc, h1, h2, h0, h3, h4⟩ := h
  refine ar_run (Nat.le_of_ble_eq_true rfl) (fun o S1 h => aq_le_of (aq_le_refl S) h) ?_
  refine ar_ld i_X0_count_0 rfl rfl ?_
  refine ar_gf i_X0_count_1 (h1) rfl ?_
  exact ar_ret i_X0_count_4 rfl ⟨rfl, rfl⟩
theorem p_ends (d : Nat) {S : aq_S} {b c : Nat} {pn : Nat → Nat} {pg : Nat → Nat → Int32} (h : hP S b c pn pg) : aX (d + 1) 2 [.ref b] S (fun o S' => ∃ E : Int64, o = .inl (some (.long E)) ∧ (∀ t, t < 64 → (lb E t = true ↔ pEnd c pn t)) ∧ S' = S) := by
  obtain ⟨E, acc, h1, h2, h0, h3, h4⟩ := h
  refine ar_run (Nat.le_of_ble_eq_true rfl) (fun o S1 h => by obtain ⟨_, -, -, rfl⟩ := h; exact aq_le_refl _) ?_
  refine ar_ld i_X0_ends_0 rfl rfl ?_
  refine ar_gf i_X0_ends_1 (h1) rfl ?_
  exact ar_ret i_X0_ends_4 rfl ⟨E, rfl, h4, rfl⟩
theorem p_endC : ∀ i, i < 12 → nI 5 * nI i = nI (5 * i) := by decide +kernel
theorem lb_31 : ∀ k, k < 60 → ∀ t, t < 64 → lb ((31 : Int64) <<< ((nI k).toInt64 &&& 63)) t = decide (k ≤ t ∧ t < k + 5) := by decide +kernel
theorem p_endsWithout (d : Nat) {S : aq_S} {b c i : Nat} {pn : Nat → Nat} {pg : Nat → Nat → Int32} (h : hP S b c pn pg) (hk : pOk c pn pg) (hi : i < c) : aX (d + 1) 3 [.ref b, .int (nI i)] S (fun o S' => ∃ E : Int64, o = .inl (some (.long E)) ∧ (∀ t, t < 64 → (lb E t = true ↔ ∃ j, j < c ∧ j ≠ i ∧ t + 1 = 5 * j + pn j)) ∧ S' = S) := by
  obtain ⟨E, acc, h1, h2, h0, h3, h4⟩ := h
  have hc := hk.1
  refine ar_run (Nat.le_of_ble_eq_true rfl) (fun o S1 h => by obtain ⟨_, -, -, rfl⟩ := h; exact aq_le_refl _) ?_
  refine ar_ld i_X0_endsWithout_0 rfl rfl ?_
  refine ar_gf i_X0_endsWithout_1 (h1) rfl ?_
  refine ar_push i_X0_endsWithout_4 ?_
  refine ar_push i_X0_endsWithout_7 ?_
  refine ar_ld i_X0_endsWithout_8 rfl rfl ?_
  refine ar_ar i_X0_endsWithout_9 rfl ?_
  rw [show (5 : Int32) = nI 5 from rfl, p_endC i (by omega)]
  refine ar_ar i_X0_endsWithout_10 rfl ?_
  refine ar_push i_X0_endsWithout_11 ?_
  refine ar_ar i_X0_endsWithout_14 rfl ?_
  refine ar_ar i_X0_endsWithout_15 rfl ?_
  refine ar_ret i_X0_endsWithout_16 rfl ⟨_, rfl, fun t ht => ?_, rfl⟩
  rw [lb_and, lb_xor, lb_m1 t ht, lb_31 (5 * i) (by omega) t ht, Bool.and_eq_true, h4 t ht, Bool.xor_true, Bool.not_eq_true', decide_eq_false_iff_not]
  refine ⟨fun ⟨⟨j, hj, e⟩, z⟩ => ⟨j, hj, fun u => z ?_, e⟩, fun ⟨j, hj, z, e⟩ => ⟨⟨j, hj, e⟩, fun u => z ?_⟩⟩
  · subst u
    have := hk.2.1 j hj
    omega
  · have := hk.2.1 j hj
    omega
theorem p_removeAll (d : Nat) {S : aq_S} {b c : Nat} {pn pn' : Nat → Nat} {pg pg' : Nat → Nat → Int32} (h : hP S b c pn pg) : aX (d + 1) 4 [.ref b] S (fun o S' => o = .inl none ∧ hP S' b 0 pn' pg' ∧ aq_fr S S' (fun q => q = b ∨ q = b + 1)) := by
  obtain ⟨E, acc, h1, h2, h0, h3, h4⟩ := h
  refine ar_run (Nat.le_of_ble_eq_true rfl) (fun o S1 h => h.2.2.le) ?_
  refine ar_ld i_X0_removeAll_0 rfl rfl ?_
  refine ar_push i_X0_removeAll_1 ?_
  refine av_pf i_X0_removeAll_2 (h1) (Nat.le_of_ble_eq_true rfl) (rfl) rfl (fun S1 g1 k1 => ?_)
  refine ar_ld i_X0_removeAll_5 rfl rfl ?_
  refine ar_push i_X0_removeAll_6 ?_
  refine av_pf i_X0_removeAll_7 (g1) (Nat.le_of_ble_eq_true rfl) (rfl) rfl (fun S2 g2 k2 => ?_)
  refine ar_push i_X0_removeAll_10 ?_
  refine ar_st i_X0_removeAll_11 rfl rfl ?_
  have hfr : aq_fr S S2 (fun q => q = b ∨ q = b + 1) := (k1.tr k2).mono (fun q z => Or.inl z)
  have g3 := (k2.2.2.2 (b + 1) (by omega)).trans ((k1.2.2.2 (b + 1) (by omega)).trans h2)
  suffices key : ∀ j i (S2 : aq_S) (F : Nat → Int64), i + j = 3 → S2.2.2.2 b = some (.inr (0, [.ref (b + 1), .long 0, .int 0])) → S2.2.2.2 (b + 1) = some (.inl (1, (3, .inr (.inl F)))) → (∀ x, x < i → F x = 0) → aq_fr S S2 (fun q => q = b ∨ q = b + 1) → aG d 4 (fun o S' => o = .inl none ∧ hP S' b 0 pn' pg' ∧ aq_fr S S' (fun q => q = b ∨ q = b + 1)) 12 [(0, .ref b), (1, .int (nI i))] [] S2 from key 3 0 S2 acc (by omega) g2 g3 (fun x hx => absurd hx (Nat.not_lt_zero x)) hfr
  intro j
  induction j with
  | zero =>
    intro i S2 F hi q1 q2 hag hf
    refine ar_ld i_X0_removeAll_12 rfl rfl ?_
    refine ar_ld i_X0_removeAll_13 rfl rfl ?_
    refine ar_gf i_X0_removeAll_14 (q1) rfl ?_
    refine ar_len i_X0_removeAll_17 (by decide) (q2) ?_
    refine ar_ift i_X0_removeAll_18 rfl (nI_le (a := 3) (by omega) (by omega)) ?_
    exact ar_retv i_X0_removeAll_34 ⟨rfl, ⟨0, F, q1, q2, h0, fun l hl t ht => by rw [hag l (by omega), lb_0]; exact ⟨fun z => Bool.noConfusion z, fun ⟨i, _, z, _⟩ => absurd z (Nat.not_lt_zero i)⟩, fun t ht => by rw [lb_0]; exact ⟨fun z => Bool.noConfusion z, fun ⟨i, z, _⟩ => absurd z (Nat.not_lt_zero i)⟩⟩, hf⟩
  | succ j ih =>
    intro i S2 F hi q1 q2 hag hf
    refine ar_ld i_X0_removeAll_12 rfl rfl ?_
    refine ar_ld i_X0_removeAll_13 rfl rfl ?_
    refine ar_gf i_X0_removeAll_14 (q1) rfl ?_
    refine ar_len i_X0_removeAll_17 (by decide) (q2) ?_
    refine ar_iff i_X0_removeAll_18 rfl (nI_ge (b := 3) (by omega) (by omega)) ?_
    refine ar_ld i_X0_removeAll_21 rfl rfl ?_
    refine ar_gf i_X0_removeAll_22 (q1) rfl ?_
    refine ar_ld i_X0_removeAll_25 rfl rfl ?_
    refine ar_push i_X0_removeAll_26 ?_
    refine av_stl i_X0_removeAll_27 (by omega) (q2) (by omega) (by omega) (fun S3 g3 k3 => ?_)
    refine ar_inc i_X0_removeAll_28 rfl rfl ?_
    refine ar_go i_X0_removeAll_31 ?_
    have := ih (i + 1) S3 _ (by omega) ((k3.2.2.2 b (by omega)).trans q1) g3 (fun x hx => by
      by_cases e : x = i
      · rw [e, updL_eq]
      · rw [updL_ne e]; exact hag x (by omega)) (hf.tr (k3.mono (fun q z => Or.inr z)))
    rw [← nI_1] at this
    exact this
theorem lb_ushr5 (x : Int64) (i : Nat) : lb ((x.toUInt64 >>> ((5 : Int32).toInt64.toUInt64 &&& Int64.toUInt64 63)).toInt64) i = lb x (5 + i) := lb_ushr x (k := 5) (by omega) i
theorem lb_shl1 (x : Int64) {i : Nat} (hi : i < 64) : lb (x <<< ((1 : Int32).toInt64 &&& 63)) i = (decide (1 ≤ i) && lb x (i - 1)) := lb_shl x (k := 1) (by omega) hi
theorem p_withoutSlot (d : Nat) {S : aq_S} {x : Int64} {i : Nat} (hi : i < 12) : aX (d + 1) 8 [.long x, .int (nI i)] S (fun o S' => ∃ z : Int64, o = .inl (some (.long z)) ∧ (∀ t, t < 64 → lb z t = if t < 5 * i then lb x t else lb x (t + 5)) ∧ S' = S) := by
  refine ar_run (Nat.le_of_ble_eq_true rfl) (fun o S1 h => by obtain ⟨_, -, -, rfl⟩ := h; exact aq_le_refl _) ?_
  refine ar_push i_X0_withoutSlot_0 ?_
  refine ar_push i_X0_withoutSlot_1 ?_
  refine ar_ld i_X0_withoutSlot_2 rfl rfl ?_
  refine ar_ar i_X0_withoutSlot_3 rfl ?_
  rw [show (5 : Int32) = nI 5 from rfl, p_endC i hi]
  refine ar_ar i_X0_withoutSlot_4 rfl ?_
  refine ar_push i_X0_withoutSlot_5 ?_
  refine ar_ar i_X0_withoutSlot_6 rfl ?_
  refine ar_st i_X0_withoutSlot_7 rfl rfl ?_
  refine ar_ld i_X0_withoutSlot_8 rfl rfl ?_
  refine ar_ld i_X0_withoutSlot_9 rfl rfl ?_
  refine ar_ar i_X0_withoutSlot_10 rfl ?_
  refine ar_ld i_X0_withoutSlot_11 rfl rfl ?_
  refine ar_push i_X0_withoutSlot_12 ?_
  refine ar_ar i_X0_withoutSlot_13 rfl ?_
  refine ar_ld i_X0_withoutSlot_14 rfl rfl ?_
  refine ar_push i_X0_withoutSlot_15 ?_
  refine ar_ar i_X0_withoutSlot_18 rfl ?_
  refine ar_ar i_X0_withoutSlot_19 rfl ?_
  refine ar_ar i_X0_withoutSlot_20 rfl ?_
  refine ar_ret i_X0_withoutSlot_21 rfl ⟨_, rfl, fun t ht => ?_, rfl⟩
  rw [lb_or, lb_and, lb_and, lb_xor, lb_m1 t ht, lb_low (5 * i) (by omega) t ht, lb_ushr5, Nat.add_comm 5 t]
  by_cases h : t < 5 * i
  · simp [h]
  · simp [h]
/-- the patterns behind one more -/
def pnAdd (c : Nat) (pn : Nat → Nat) (n : Nat) (i : Nat) : Nat := if i = c then n else pn i
def pgAdd (c : Nat) (pg : Nat → Nat → Int32) (g : Nat → Int32) (i : Nat) : Nat → Int32 := if i = c then g else pg i
theorem pOk.add {c n : Nat} {pn : Nat → Nat} {pg : Nat → Nat → Int32} {g : Nat → Int32} (h : pOk c pn pg) (hc : c < 12) (h1 : 1 ≤ n) (h5 : n ≤ 5) (hg : ∀ j, j < n → isY 3 (g j)) : pOk (c + 1) (pnAdd c pn n) (pgAdd c pg g) := by
  refine ⟨by omega, fun i hi => ?_, fun i j hi hj => ?_⟩
  · unfold pnAdd
    split
    · exact ⟨h1, h5⟩
    · exact h.2.1 i (by omega)
  · unfold pnAdd at hj
    unfold pgAdd
    split at hj
    · rw [if_pos (by assumption)]
      exact hg j hj
    · rw [if_neg (by assumption)]
      exact h.2.2 i j (by omega) hj
theorem pAcc_add {c n : Nat} {pn : Nat → Nat} {pg : Nat → Nat → Int32} {g : Nat → Int32} {l : Int32} {t : Nat} : pAcc (c + 1) (pnAdd c pn n) (pgAdd c pg g) l t ↔ pAcc c pn pg l t ∨ (5 * c ≤ t ∧ t - 5 * c < n ∧ ¬ wdf (g (t - 5 * c)) l) := by
  refine ⟨fun ⟨i, j, hi, hj, e, z⟩ => ?_, fun z => ?_⟩
  · unfold pnAdd at hj
    unfold pgAdd at z
    by_cases h : i = c
    · rw [if_pos h] at hj z
      subst h
      right
      have : t - 5 * i = j := by omega
      rw [this]
      exact ⟨by omega, hj, z⟩
    · rw [if_neg h] at hj z
      exact Or.inl ⟨i, j, by omega, hj, e, z⟩
  · rcases z with ⟨i, j, hi, hj, e, z⟩ | ⟨h1, h2, h3⟩
    · refine ⟨i, j, by omega, ?_, e, ?_⟩
      · unfold pnAdd; rw [if_neg (by omega)]; exact hj
      · unfold pgAdd; rw [if_neg (by omega)]; exact z
    · refine ⟨c, t - 5 * c, by omega, ?_, by omega, ?_⟩
      · unfold pnAdd; rw [if_pos rfl]; exact h2
      · unfold pgAdd; rw [if_pos rfl]; exact h3
theorem pEnd_add {c n : Nat} {pn : Nat → Nat} {t : Nat} : pEnd (c + 1) (pnAdd c pn n) t ↔ pEnd c pn t ∨ t + 1 = 5 * c + n := by
  unfold pEnd pnAdd
  refine ⟨fun ⟨i, hi, e⟩ => ?_, fun z => ?_⟩
  · by_cases h : i = c
    · rw [if_pos h] at e; subst h; exact Or.inr e
    · rw [if_neg h] at e; exact Or.inl ⟨i, by omega, e⟩
  · rcases z with ⟨i, hi, e⟩ | e
    · exact ⟨i, by omega, by rw [if_neg (by omega)]; exact e⟩
    · exact ⟨c, by omega, by rw [if_pos rfl]; exact e⟩
theorem p_include (d : Nat) {S : aq_S} {b c w n : Nat} {pn : Nat → Nat} {pg : Nat → Nat → Int32} {g : Nat → Int32} (h : hP S b c pn pg) (hk : pOk c pn pg) (hw : isW S w n g) (hc : c < 12) (h1n : 1 ≤ n) (h5n : n ≤ 5) (hwb : w ≠ b ∧ w ≠ b + 1 ∧ w + 1 ≠ b) : aX (d + 3) 6 [.ref b, .ref w] S (fun o S' => o = .inl none ∧ hP S' b (c + 1) (pnAdd c pn n) (pgAdd c pg g) ∧ aq_fr S S' (fun q => q = b ∨ q = b + 1)) := by
  obtain ⟨E, acc, h1, h2, h0, h3, h4⟩ := h
  refine ar_run (Nat.le_of_ble_eq_true rfl) (fun o S1 h => h.2.2.le) ?_
  refine ar_push i_X0_include_0 ?_
  refine ar_ld i_X0_include_1 rfl rfl ?_
  refine ar_gf i_X0_include_2 (h1) rfl ?_
  rw [show (5 : Int32) = nI 5 from rfl]
  refine ar_ar i_X0_include_5 rfl ?_
  rw [p_endC c hc]
  refine ar_st i_X0_include_6 rfl rfl ?_
  refine ar_push i_X0_include_7 ?_
  refine ar_st i_X0_include_8 rfl rfl ?_
  have hwc : w ≠ b + 1 ∧ w + 1 ≠ b + 1 := ⟨hwb.2.1, by omega⟩
  suffices key : ∀ j i (S2 : aq_S) (F : Nat → Int64), i + j = 3 → S2.2.2.2 b = some (.inr (0, [.ref (b + 1), .long E, .int (nI c)])) → S2.2.2.2 (b + 1) = some (.inl (1, (3, .inr (.inl F)))) → isW S2 w n g → (∀ x, x < i → F x = acc x ||| (wplc g (nI x) n <<< ((nI (5 * c)).toInt64 &&& 63))) → (∀ x, i ≤ x → F x = acc x) → aq_fr S S2 (fun q => q = b ∨ q = b + 1) → aG (d + 2) 6 (fun o S' => o = .inl none ∧ hP S' b (c + 1) (pnAdd c pn n) (pgAdd c pg g) ∧ aq_fr S S' (fun q => q = b ∨ q = b + 1)) 9 [(0, .ref b), (1, .ref w), (2, .int (nI (5 * c))), (3, .int (nI i))] [] S2 from key 3 0 S acc (by omega) h1 h2 hw (fun x hx => absurd hx (Nat.not_lt_zero x)) (fun x _ => rfl) aq_fr.rf
  intro j
  induction j with
  | zero =>
    intro i S2 F hi q1 q2 hw2 hag hre hf
    refine ar_ld i_X0_include_9 rfl rfl ?_
    refine ar_ld i_X0_include_10 rfl rfl ?_
    refine ar_gf i_X0_include_11 (q1) rfl ?_
    refine ar_len i_X0_include_14 (by decide) (q2) ?_
    refine ar_ift i_X0_include_15 rfl (nI_le (a := 3) (by omega) (by omega)) ?_
    refine ar_ld i_X0_include_40 rfl rfl ?_
    refine ar_ar i_X0_include_41 rfl ?_
    refine ar_gf i_X0_include_42 (q1) rfl ?_
    refine ar_push i_X0_include_45 ?_
    refine ar_ld i_X0_include_46 rfl rfl ?_
    refine ar_ld i_X0_include_47 rfl rfl ?_
    refine ar_cr i_X0_include_48 rfl ⟨_, _, _, rfl, hw2.obj⟩ (Nat.le_of_ble_eq_true rfl) (w_size (d + 1) hw2) ?_
    refine ar_ar i_X0_include_51 rfl ?_
    rw [nI_add]
    refine ar_push i_X0_include_52 ?_
    refine ar_ar i_X0_include_53 rfl ?_
    rw [nI_m1 (by omega)]
    refine ar_ar i_X0_include_54 rfl ?_
    refine ar_ar i_X0_include_55 rfl ?_
    refine av_pf i_X0_include_56 (q1) (Nat.le_of_ble_eq_true rfl) (rfl) rfl (fun S3 g3 k3 => ?_)
    refine ar_ld i_X0_include_59 rfl rfl ?_
    refine ar_ar i_X0_include_60 rfl ?_
    refine ar_gf i_X0_include_61 (g3) rfl ?_
    refine ar_push i_X0_include_64 ?_
    refine ar_ar i_X0_include_65 rfl ?_
    rw [nI_1]
    refine av_pf i_X0_include_66 (g3) (Nat.le_of_ble_eq_true rfl) (rfl) rfl (fun S4 g4 k4 => ?_)
    refine ar_retv i_X0_include_69 ⟨rfl, ⟨_, F, g4, (k4.2.2.2 _ (by omega)).trans ((k3.2.2.2 _ (by omega)).trans q2), h0, fun l hl t ht => ?_, fun t ht => ?_⟩, hf.tr ((k3.tr k4).mono (fun q z => Or.inl z))⟩
    · rw [hag l (by omega), lb_or, lb_shl _ (by omega) ht, Bool.or_eq_true, Bool.and_eq_true, decide_eq_true_iff, h3 l hl t ht, wplc_lb g (nI l) n (by omega) (t - 5 * c) (by omega), pAcc_add]
    · rw [lb_or, lb_one (5 * c + n - 1) (by omega) ht, Bool.or_eq_true, decide_eq_true_iff, h4 t ht, pEnd_add]
      refine or_congr Iff.rfl ?_
      omega
  | succ j ih =>
    intro i S2 F hi q1 q2 hw2 hag hre hf
    refine ar_ld i_X0_include_9 rfl rfl ?_
    refine ar_ld i_X0_include_10 rfl rfl ?_
    refine ar_gf i_X0_include_11 (q1) rfl ?_
    refine ar_len i_X0_include_14 (by decide) (q2) ?_
    refine ar_iff i_X0_include_15 rfl (nI_ge (b := 3) (by omega) (by omega)) ?_
    refine ar_ld i_X0_include_18 rfl rfl ?_
    refine ar_gf i_X0_include_19 (q1) rfl ?_
    refine ar_ld i_X0_include_22 rfl rfl ?_
    refine ar_ar i_X0_include_23 rfl ?_
    refine av_ldl i_X0_include_24 (q2) (by omega) (by omega) ?_
    refine ar_ld i_X0_include_25 rfl rfl ?_
    refine ar_ld i_X0_include_26 rfl rfl ?_
    refine ar_cr i_X0_include_27 rfl ⟨_, _, _, rfl, hw2.obj⟩ (Nat.le_of_ble_eq_true rfl) (w_placesFor d hw2 (nI i)) ?_
    refine ar_ld i_X0_include_30 rfl rfl ?_
    refine ar_ar i_X0_include_31 rfl ?_
    refine ar_ar i_X0_include_32 rfl ?_
    refine av_stl i_X0_include_33 (by omega) (q2) (by omega) (by omega) (fun S3 g3 k3 => ?_)
    refine ar_inc i_X0_include_34 rfl rfl ?_
    refine ar_go i_X0_include_37 ?_
    have := ih (i + 1) S3 _ (by omega) ((k3.2.2.2 b (by omega)).trans q1) g3 (hw2.fr k3 hwc.1 hwc.2) (fun x hx => by
      by_cases e : x = i
      · rw [e, updL_eq, hre i (Nat.le_refl i)]
      · rw [updL_ne e]; exact hag x (by omega)) (fun x hx => by rw [updL_ne (by omega)]; exact hre x (by omega)) (hf.tr (k3.mono (fun q z => Or.inr z)))
    rw [← nI_1] at this
    exact this
/-- the patterns without one -/
def pnDel (i : Nat) (pn : Nat → Nat) (j : Nat) : Nat := if j < i then pn j else pn (j + 1)
def pgDel (i : Nat) (pg : Nat → Nat → Int32) (j : Nat) : Nat → Int32 := if j < i then pg j else pg (j + 1)
theorem pOk.del {c i : Nat} {pn : Nat → Nat} {pg : Nat → Nat → Int32} (h : pOk c pn pg) (hi : i < c) : pOk (c - 1) (pnDel i pn) (pgDel i pg) := by
  refine ⟨by have := h.1; omega, fun j hj => ?_, fun j x hj hx => ?_⟩
  · unfold pnDel
    split
    · exact h.2.1 j (by omega)
    · exact h.2.1 (j + 1) (by omega)
  · unfold pnDel at hx
    unfold pgDel
    split at hx
    · rw [if_pos (by assumption)]; exact h.2.2 j x (by omega) hx
    · rw [if_neg (by assumption)]; exact h.2.2 (j + 1) x (by omega) hx
theorem pAcc_del {c i : Nat} {pn : Nat → Nat} {pg : Nat → Nat → Int32} (h : pOk c pn pg) (hi : i < c) {l : Int32} {t : Nat} : pAcc (c - 1) (pnDel i pn) (pgDel i pg) l t ↔ if t < 5 * i then pAcc c pn pg l t else pAcc c pn pg l (t + 5) := by
  unfold pAcc pnDel pgDel
  by_cases ht : t < 5 * i
  · rw [if_pos ht]
    refine ⟨fun ⟨a, x, ha, hx, e, z⟩ => ?_, fun ⟨a, x, ha, hx, e, z⟩ => ?_⟩
    · have hai : a < i := by omega
      rw [if_pos hai] at hx z
      exact ⟨a, x, by omega, hx, e, z⟩
    · have hai : a < i := by omega
      exact ⟨a, x, by omega, by rw [if_pos hai]; exact hx, e, by rw [if_pos hai]; exact z⟩
  · rw [if_neg ht]
    refine ⟨fun ⟨a, x, ha, hx, e, z⟩ => ?_, fun ⟨a, x, ha, hx, e, z⟩ => ?_⟩
    · by_cases hai : a < i
      · rw [if_pos hai] at hx
        have := h.2.1 a (by omega)
        omega
      · rw [if_neg hai] at hx z
        exact ⟨a + 1, x, by omega, hx, by omega, z⟩
    · have h5 := h.2.1 a ha
      have hai : ¬ a - 1 < i := by omega
      have e2 : a - 1 + 1 = a := by omega
      exact ⟨a - 1, x, by omega, by rw [if_neg hai, e2]; exact hx, by omega, by rw [if_neg hai, e2]; exact z⟩
theorem pEnd_del {c i : Nat} {pn : Nat → Nat} {pg : Nat → Nat → Int32} (h : pOk c pn pg) (hi : i < c) {t : Nat} : pEnd (c - 1) (pnDel i pn) t ↔ if t < 5 * i then pEnd c pn t else pEnd c pn (t + 5) := by
  unfold pEnd pnDel
  by_cases ht : t < 5 * i
  · rw [if_pos ht]
    refine ⟨fun ⟨a, ha, e⟩ => ?_, fun ⟨a, ha, e⟩ => ?_⟩
    · by_cases hai : a < i
      · rw [if_pos hai] at e
        exact ⟨a, by omega, e⟩
      · rw [if_neg hai] at e
        have := h.2.1 (a + 1) (by omega)
        omega
    · have := h.2.1 a ha
      have hai : a < i := by omega
      exact ⟨a, by omega, by rw [if_pos hai]; exact e⟩
  · rw [if_neg ht]
    refine ⟨fun ⟨a, ha, e⟩ => ?_, fun ⟨a, ha, e⟩ => ?_⟩
    · by_cases hai : a < i
      · rw [if_pos hai] at e
        have := h.2.1 a (by omega)
        omega
      · rw [if_neg hai] at e
        exact ⟨a + 1, by omega, by omega⟩
    · have h5 := h.2.1 a ha
      have hai : ¬ a - 1 < i := by omega
      have e2 : a - 1 + 1 = a := by omega
      exact ⟨a - 1, by omega, by rw [if_neg hai, e2]; omega⟩
theorem p_exclude (d : Nat) {S : aq_S} {b c i : Nat} {pn : Nat → Nat} {pg : Nat → Nat → Int32} (h : hP S b c pn pg) (hk : pOk c pn pg) (hi : i < c) : aX (d + 2) 7 [.ref b, .int (nI i)] S (fun o S' => o = .inl none ∧ hP S' b (c - 1) (pnDel i pn) (pgDel i pg) ∧ aq_fr S S' (fun q => q = b ∨ q = b + 1)) := by
  obtain ⟨E, acc, h1, h2, h0, h3, h4⟩ := h
  have hc := hk.1
  refine ar_run (Nat.le_of_ble_eq_true rfl) (fun o S1 h => h.2.2.le) ?_
  refine ar_push i_X0_exclude_0 ?_
  refine ar_st i_X0_exclude_1 rfl rfl ?_
  suffices key : ∀ j m (S2 : aq_S) (F : Nat → Int64), m + j = 3 → S2.2.2.2 b = some (.inr (0, [.ref (b + 1), .long E, .int (nI c)])) → S2.2.2.2 (b + 1) = some (.inl (1, (3, .inr (.inl F)))) → (∀ x, x < m → ∀ t, t < 64 → lb (F x) t = if t < 5 * i then lb (acc x) t else lb (acc x) (t + 5)) → (∀ x, m ≤ x → F x = acc x) → aq_fr S S2 (fun q => q = b ∨ q = b + 1) → aG (d + 1) 7 (fun o S' => o = .inl none ∧ hP S' b (c - 1) (pnDel i pn) (pgDel i pg) ∧ aq_fr S S' (fun q => q = b ∨ q = b + 1)) 2 [(0, .ref b), (1, .int (nI i)), (2, .int (nI m))] [] S2 from key 3 0 S acc (by omega) h1 h2 (fun x hx => absurd hx (Nat.not_lt_zero x)) (fun x _ => rfl) aq_fr.rf
  intro j
  induction j with
  | zero =>
    intro m S2 F hm q1 q2 hag hre hf
    refine ar_ld i_X0_exclude_2 rfl rfl ?_
    refine ar_ld i_X0_exclude_3 rfl rfl ?_
    refine ar_gf i_X0_exclude_4 (q1) rfl ?_
    refine ar_len i_X0_exclude_7 (by decide) (q2) ?_
    refine ar_ift i_X0_exclude_8 rfl (nI_le (a := 3) (by omega) (by omega)) ?_
    refine ar_ld i_X0_exclude_33 rfl rfl ?_
    refine ar_ld i_X0_exclude_34 rfl rfl ?_
    refine ar_gf i_X0_exclude_35 (q1) rfl ?_
    refine ar_ld i_X0_exclude_38 rfl rfl ?_
    refine av_ce i_X0_exclude_39 rfl trivial (Nat.le_of_ble_eq_true rfl) (p_withoutSlot d (x := E) (i := i) (by omega)) (fun E2 S3 hE => ?_)
    obtain ⟨hE2, e3⟩ := hE
    subst e3
    refine av_pf i_X0_exclude_42 (q1) (Nat.le_of_ble_eq_true rfl) (rfl) rfl (fun S3 g3 k3 => ?_)
    refine ar_ld i_X0_exclude_45 rfl rfl ?_
    refine ar_ar i_X0_exclude_46 rfl ?_
    refine ar_gf i_X0_exclude_47 (g3) rfl ?_
    refine ar_push i_X0_exclude_50 ?_
    refine ar_ar i_X0_exclude_51 rfl ?_
    rw [nI_m1 (by omega)]
    refine av_pf i_X0_exclude_52 (g3) (Nat.le_of_ble_eq_true rfl) (rfl) rfl (fun S4 g4 k4 => ?_)
    refine ar_retv i_X0_exclude_55 ⟨rfl, ⟨_, F, g4, (k4.2.2.2 _ (by omega)).trans ((k3.2.2.2 _ (by omega)).trans q2), h0, fun l hl t ht => ?_, fun t ht => ?_⟩, hf.tr ((k3.tr k4).mono (fun q z => Or.inl z))⟩
    · rw [hag l (by omega) t ht, pAcc_del hk hi]
      by_cases hlt : t < 5 * i
      · rw [if_pos hlt, if_pos hlt]; exact h3 l hl t ht
      · rw [if_neg hlt, if_neg hlt]
        by_cases h59 : t + 5 < 64
        · exact h3 l hl _ h59
        · rw [lb_big (by omega)]
          refine ⟨fun z => Bool.noConfusion z, fun ⟨a, x, ha, hx, e, _⟩ => ?_⟩
          have := hk.2.1 a ha
          omega
    · rw [hE2 t ht, pEnd_del hk hi]
      by_cases hlt : t < 5 * i
      · rw [if_pos hlt, if_pos hlt]; exact h4 t ht
      · rw [if_neg hlt, if_neg hlt]
        by_cases h59 : t + 5 < 64
        · exact h4 _ h59
        · rw [lb_big (by omega)]
          refine ⟨fun z => Bool.noConfusion z, fun ⟨a, ha, e⟩ => ?_⟩
          have := hk.2.1 a ha
          omega
  | succ j ih =>
    intro m S2 F hm q1 q2 hag hre hf
    refine ar_ld i_X0_exclude_2 rfl rfl ?_
    refine ar_ld i_X0_exclude_3 rfl rfl ?_
    refine ar_gf i_X0_exclude_4 (q1) rfl ?_
    refine ar_len i_X0_exclude_7 (by decide) (q2) ?_
    refine ar_iff i_X0_exclude_8 rfl (nI_ge (b := 3) (by omega) (by omega)) ?_
    refine ar_ld i_X0_exclude_11 rfl rfl ?_
    refine ar_gf i_X0_exclude_12 (q1) rfl ?_
    refine ar_ld i_X0_exclude_15 rfl rfl ?_
    refine ar_ld i_X0_exclude_16 rfl rfl ?_
    refine ar_gf i_X0_exclude_17 (q1) rfl ?_
    refine ar_ld i_X0_exclude_20 rfl rfl ?_
    refine av_ldl i_X0_exclude_21 (q2) (by omega) (by omega) ?_
    refine ar_ld i_X0_exclude_22 rfl rfl ?_
    refine av_ce i_X0_exclude_23 rfl trivial (Nat.le_of_ble_eq_true rfl) (p_withoutSlot d (x := F m) (i := i) (by omega)) (fun z S3 hz => ?_)
    obtain ⟨hz2, e3⟩ := hz
    subst e3
    refine av_stl i_X0_exclude_26 (by omega) (q2) (by omega) (by omega) (fun S3 g3 k3 => ?_)
    refine ar_inc i_X0_exclude_27 rfl rfl ?_
    refine ar_go i_X0_exclude_30 ?_
    have := ih (m + 1) S3 _ (by omega) ((k3.2.2.2 b (by omega)).trans q1) g3 (fun x hx => by
      by_cases e : x = m
      · rw [e, updL_eq, ← hre m (Nat.le_refl m)]; exact hz2
      · rw [updL_ne e]; exact hag x (by omega)) (fun x hx => by rw [updL_ne (by omega)]; exact hre x (by omega)) (hf.tr (k3.mono (fun q z => Or.inr z)))
    rw [← nI_1] at this
    exact this
end
