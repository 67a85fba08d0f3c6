/-! ===== HoleWords: holes, relations, join ===== -/
section
theorem x_holes_r (d : Nat) {S : aq_S} {k : Nat} {hs : Int32} {a0 : Int32} (h : hT S k hs) (hp : a0 < 0 ∨ nI 4 ≤ a0) : aX (d + 3) 79 [.ref 1, .int a0] S (fun o S' => o = .inr "java/lang/IllegalArgumentException" ∧ S' = aq_thrown S) := by
  refine ar_run (Nat.le_of_ble_eq_true rfl) (fun o S1 h => aq_le_of (aq_le_thr S) h) ?_
  refine ar_ld i_X6_holes_0 rfl rfl ?_
  refine ar_ld i_X6_holes_1 rfl rfl ?_
  exact av_cx i_X6_holes_2 rfl ⟨_, _, _, rfl, (h.1)⟩ (Nat.le_of_ble_eq_true rfl) (x_wordIn_no d h hp) (fun S1 h => ⟨rfl, h⟩)
theorem x_holes (d : Nat) {S : aq_S} {k r : Nat} {hs : Int32} {N : Nat → Nat} {G : Nat → Nat → Int32} (h : hT S k hs) (hw : hWs S 2 N G) (hr : r < 4) : aX (d + 3) 79 [.ref 1, .int (nI r)] S (fun o S' => o = .inl (some (.int (nI (wholes (G r) (N r))))) ∧ S' = S) := by
  have hwr := hw r hr
  refine ar_run (Nat.le_of_ble_eq_true rfl) (fun o S1 h => aq_le_of (aq_le_refl S) h) ?_
  refine ar_ld i_X6_holes_0 rfl rfl ?_
  refine ar_ld i_X6_holes_1 rfl rfl ?_
  refine ar_cr i_X6_holes_2 rfl ⟨_, _, _, rfl, (h.1)⟩ (Nat.le_of_ble_eq_true rfl) (x_wordIn d h hr) ?_
  refine ar_cr i_X6_holes_5 rfl ⟨_, _, _, rfl, hwr.obj⟩ (Nat.le_of_ble_eq_true rfl) (w_holeCount d hwr) ?_
  exact ar_ret i_X6_holes_8 rfl ⟨rfl, rfl⟩
theorem x_isCompatible_r (d : Nat) {S : aq_S} {k : Nat} {hs : Int32} {a0 : Int32} {a1 : Int32} (h : hT S k hs) (hp : a0 < 0 ∨ nI 4 ≤ a0) : aX (d + 3) 80 [.ref 1, .int a0, .int a1] S (fun o S' => o = .inr "java/lang/IllegalArgumentException" ∧ S' = aq_thrown S) := by
  refine ar_run (Nat.le_of_ble_eq_true rfl) (fun o S1 h => aq_le_of (aq_le_thr S) h) ?_
  refine ar_ld i_X6_isCompatible_0 rfl rfl ?_
  refine ar_ld i_X6_isCompatible_1 rfl rfl ?_
  exact av_cx i_X6_isCompatible_2 rfl ⟨_, _, _, rfl, (h.1)⟩ (Nat.le_of_ble_eq_true rfl) (x_wordIn_no d h hp) (fun S1 h => ⟨rfl, h⟩)
theorem x_isCompatible_r2 (d : Nat) {S : aq_S} {k : Nat} {hs : Int32} {r0 : Nat} {a1 : Int32} (h : hT S k hs) (h0 : r0 < 4) (hp : a1 < 0 ∨ nI 4 ≤ a1) : aX (d + 3) 80 [.ref 1, .int (nI r0), .int a1] S (fun o S' => o = .inr "java/lang/IllegalArgumentException" ∧ S' = aq_thrown S) := by
  refine ar_run (Nat.le_of_ble_eq_true rfl) (fun o S1 h => aq_le_of (aq_le_thr S) h) ?_
  refine ar_ld i_X6_isCompatible_0 rfl rfl ?_
  refine ar_ld i_X6_isCompatible_1 rfl rfl ?_
  refine ar_cr i_X6_isCompatible_2 rfl ⟨_, _, _, rfl, (h.1)⟩ (Nat.le_of_ble_eq_true rfl) (x_wordIn d h h0) ?_
  refine ar_ld i_X6_isCompatible_5 rfl rfl ?_
  refine ar_ld i_X6_isCompatible_6 rfl rfl ?_
  exact av_cx i_X6_isCompatible_7 rfl ⟨_, _, _, rfl, (h.1)⟩ (Nat.le_of_ble_eq_true rfl) (x_wordIn_no d h hp) (fun S1 h => ⟨rfl, h⟩)
/-- compatible -/
def wcomp (n m : Nat) (f g : Nat → Int32) : Prop := n = m ∧ ∀ i, i < m → ¬ wdf (f i) (g i)
theorem wcomp_iff {n m : Nat} {f g : Nat → Int32} : (n = m ∧ wfit f 0 m g) ↔ wcomp n m f g := by
  unfold wcomp wfit
  refine ⟨fun z => ⟨z.1, fun i hi => ?_⟩, fun z => ⟨z.1, fun i hi => ?_⟩⟩
  · have := z.2 i hi
    rwa [Nat.zero_add] at this
  · rw [Nat.zero_add]
    exact z.2 i hi
theorem x_isCompatible (d : Nat) {S : aq_S} {k r q : Nat} {hs : Int32} {N : Nat → Nat} {G : Nat → Nat → Int32} (h : hT S k hs) (hw : hWs S 2 N G) (hr : r < 4) (hq : q < 4) : aX (d + 4) 80 [.ref 1, .int (nI r), .int (nI q)] S (fun o S' => o = .inl (some (.int (bI (wcomp (N r) (N q) (G r) (G q))))) ∧ S' = S) := by
  have hwr := hw r hr
  have hwq := hw q hq
  refine ar_run (Nat.le_of_ble_eq_true rfl) (fun o S1 h => aq_le_of (aq_le_refl S) h) ?_
  refine ar_ld i_X6_isCompatible_0 rfl rfl ?_
  refine ar_ld i_X6_isCompatible_1 rfl rfl ?_
  refine ar_cr i_X6_isCompatible_2 rfl ⟨_, _, _, rfl, (h.1)⟩ (Nat.le_of_ble_eq_true rfl) (x_wordIn (d + 1) h hr) ?_
  refine ar_ld i_X6_isCompatible_5 rfl rfl ?_
  refine ar_ld i_X6_isCompatible_6 rfl rfl ?_
  refine ar_cr i_X6_isCompatible_7 rfl ⟨_, _, _, rfl, (h.1)⟩ (Nat.le_of_ble_eq_true rfl) (x_wordIn (d + 1) h hq) ?_
  refine ar_cr i_X6_isCompatible_10 rfl ⟨_, _, _, rfl, hwr.obj⟩ (Nat.le_of_ble_eq_true rfl) (w_agreesWith d hwr hwq) ?_
  rw [bI_cg wcomp_iff]
  exact ar_ret i_X6_isCompatible_13 ((bI_01 _)) ⟨rfl, rfl⟩
theorem x_isContained_r (d : Nat) {S : aq_S} {k : Nat} {hs : Int32} {a0 : Int32} {a1 : Int32} (h : hT S k hs) (hp : a0 < 0 ∨ nI 4 ≤ a0) : aX (d + 3) 81 [.ref 1, .int a0, .int a1] S (fun o S' => o = .inr "java/lang/IllegalArgumentException" ∧ S' = aq_thrown S) := by
  refine ar_run (Nat.le_of_ble_eq_true rfl) (fun o S1 h => aq_le_of (aq_le_thr S) h) ?_
  refine ar_ld i_X6_isContained_0 rfl rfl ?_
  refine ar_ld i_X6_isContained_1 rfl rfl ?_
  exact av_cx i_X6_isContained_2 rfl ⟨_, _, _, rfl, (h.1)⟩ (Nat.le_of_ble_eq_true rfl) (x_wordIn_no d h hp) (fun S1 h => ⟨rfl, h⟩)
theorem x_isContained_r2 (d : Nat) {S : aq_S} {k : Nat} {hs : Int32} {r0 : Nat} {a1 : Int32} (h : hT S k hs) (h0 : r0 < 4) (hp : a1 < 0 ∨ nI 4 ≤ a1) : aX (d + 3) 81 [.ref 1, .int (nI r0), .int a1] S (fun o S' => o = .inr "java/lang/IllegalArgumentException" ∧ S' = aq_thrown S) := by
  refine ar_run (Nat.le_of_ble_eq_true rfl) (fun o S1 h => aq_le_of (aq_le_thr S) h) ?_
  refine ar_ld i_X6_isContained_0 rfl rfl ?_
  refine ar_ld i_X6_isContained_1 rfl rfl ?_
  refine ar_cr i_X6_isContained_2 rfl ⟨_, _, _, rfl, (h.1)⟩ (Nat.le_of_ble_eq_true rfl) (x_wordIn d h h0) ?_
  refine ar_st i_X6_isContained_5 rfl rfl ?_
  refine ar_ld i_X6_isContained_6 rfl rfl ?_
  refine ar_ld i_X6_isContained_7 rfl rfl ?_
  exact av_cx i_X6_isContained_8 rfl ⟨_, _, _, rfl, (h.1)⟩ (Nat.le_of_ble_eq_true rfl) (x_wordIn_no d h hp) (fun S1 h => ⟨rfl, h⟩)
def wcont (n m : Nat) (f g : Nat → Int32) : Prop := n = m ∧ ∀ i, i < n → f i = -1 ∨ f i = g i
theorem x_isContained (d : Nat) {S : aq_S} {k r q : Nat} {hs : Int32} {N : Nat → Nat} {G : Nat → Nat → Int32} (h : hT S k hs) (hw : hWs S 2 N G) (hr : r < 4) (hq : q < 4) : aX (d + 3) 81 [.ref 1, .int (nI r), .int (nI q)] S (fun o S' => o = .inl (some (.int (bI (wcont (N r) (N q) (G r) (G q))))) ∧ S' = S) := by
  have hwr := hw r hr
  have hwq := hw q hq
  have h1 := hwr.le
  have h2 := hwq.le
  refine ar_run (Nat.le_of_ble_eq_true rfl) (fun o S1 h => aq_le_of (aq_le_refl S) h) ?_
  refine ar_ld i_X6_isContained_0 rfl rfl ?_
  refine ar_ld i_X6_isContained_1 rfl rfl ?_
  refine ar_cr i_X6_isContained_2 rfl ⟨_, _, _, rfl, (h.1)⟩ (Nat.le_of_ble_eq_true rfl) (x_wordIn d h hr) ?_
  refine ar_st i_X6_isContained_5 rfl rfl ?_
  refine ar_ld i_X6_isContained_6 rfl rfl ?_
  refine ar_ld i_X6_isContained_7 rfl rfl ?_
  refine ar_cr i_X6_isContained_8 rfl ⟨_, _, _, rfl, (h.1)⟩ (Nat.le_of_ble_eq_true rfl) (x_wordIn d h hq) ?_
  refine ar_st i_X6_isContained_11 rfl rfl ?_
  refine ar_ld i_X6_isContained_13 rfl rfl ?_
  refine ar_cr i_X6_isContained_14 rfl ⟨_, _, _, rfl, hwr.obj⟩ (Nat.le_of_ble_eq_true rfl) (w_size (d + 1) hwr) ?_
  refine ar_ld i_X6_isContained_17 rfl rfl ?_
  refine ar_cr i_X6_isContained_19 rfl ⟨_, _, _, rfl, hwq.obj⟩ (Nat.le_of_ble_eq_true rfl) (w_size (d + 1) hwq) ?_
  by_cases hnm : N r = N q
  · refine ar_ift i_X6_isContained_22 rfl (by rw [hnm]) ?_
    refine ar_push i_X6_isContained_27 ?_
    refine ar_st i_X6_isContained_28 rfl rfl ?_
    suffices key : ∀ j i, i + j = N r → (∀ x, x < i → G r x = -1 ∨ G r x = G q x) → aG (d + 2) 81 (fun o S' => o = .inl (some (.int (bI (wcont (N r) (N q) (G r) (G q))))) ∧ S' = S) 30 [(0, .ref 1), (1, .int (nI r)), (2, .int (nI q)), (3, .ref (6 + 2 * r)), (4, .ref (6 + 2 * q)), (5, .int (nI i))] [] S from key (N r) 0 (by omega) (fun x hx => absurd hx (Nat.not_lt_zero x))
    intro j
    induction j with
    | zero =>
      intro i hi hag
      refine ar_ld i_X6_isContained_30 rfl rfl ?_
      refine ar_ld i_X6_isContained_32 rfl rfl ?_
      refine ar_cr i_X6_isContained_33 rfl ⟨_, _, _, rfl, hwr.obj⟩ (Nat.le_of_ble_eq_true rfl) (w_size (d + 1) hwr) ?_
      refine ar_ift i_X6_isContained_36 rfl (nI_le (by omega) (by omega)) ?_
      refine ar_push i_X6_isContained_73 ?_
      exact ar_ret i_X6_isContained_74 ((Or.inr rfl)) ⟨bR_t ⟨hnm, fun x hx => hag x (by omega)⟩, rfl⟩
    | succ j ih =>
      intro i hi hag
      have nx : (G r i = -1 ∨ G r i = G q i) → aG (d + 2) 81 (fun o S' => o = .inl (some (.int (bI (wcont (N r) (N q) (G r) (G q))))) ∧ S' = S) 67 [(0, .ref 1), (1, .int (nI r)), (2, .int (nI q)), (3, .ref (6 + 2 * r)), (4, .ref (6 + 2 * q)), (5, .int (nI i))] [] S := by
        intro hh
        refine ar_inc i_X6_isContained_67 rfl rfl ?_
        refine ar_go i_X6_isContained_70 ?_
        have := ih (i + 1) (by omega) (fun x hx => by
          by_cases e : x = i
          · rw [e]; exact hh
          · exact hag x (by omega))
        rw [← nI_1] at this
        exact this
      refine ar_ld i_X6_isContained_30 rfl rfl ?_
      refine ar_ld i_X6_isContained_32 rfl rfl ?_
      refine ar_cr i_X6_isContained_33 rfl ⟨_, _, _, rfl, hwr.obj⟩ (Nat.le_of_ble_eq_true rfl) (w_size (d + 1) hwr) ?_
      refine ar_iff i_X6_isContained_36 rfl (nI_ge (by omega) (by omega)) ?_
      refine ar_ld i_X6_isContained_39 rfl rfl ?_
      refine ar_ld i_X6_isContained_40 rfl rfl ?_
      refine ar_cr i_X6_isContained_42 rfl ⟨_, _, _, rfl, hwr.obj⟩ (Nat.le_of_ble_eq_true rfl) (w_atj (d + 1) hwr i (by omega)) ?_
      refine ar_push i_X6_isContained_45 ?_
      refine ar_if i_X6_isContained_46 rfl (fun c46 => ?_) (fun c46 => ?_)
      · exact nx (Or.inl c46)
      · refine ar_ld i_X6_isContained_49 rfl rfl ?_
        refine ar_ld i_X6_isContained_50 rfl rfl ?_
        refine ar_cr i_X6_isContained_52 rfl ⟨_, _, _, rfl, hwr.obj⟩ (Nat.le_of_ble_eq_true rfl) (w_atj (d + 1) hwr i (by omega)) ?_
        refine ar_ld i_X6_isContained_55 rfl rfl ?_
        refine ar_ld i_X6_isContained_57 rfl rfl ?_
        refine ar_cr i_X6_isContained_59 rfl ⟨_, _, _, rfl, hwq.obj⟩ (Nat.le_of_ble_eq_true rfl) (w_atj (d + 1) hwq i (by omega)) ?_
        refine ar_if i_X6_isContained_62 rfl (fun c62 => ?_) (fun c62 => ?_)
        · exact nx (Or.inr c62)
        · refine ar_push i_X6_isContained_65 ?_
          exact ar_ret i_X6_isContained_66 ((Or.inl rfl)) ⟨bR_f (fun z => (z.2 i (by omega)).elim c46 c62), rfl⟩
  · refine ar_iff i_X6_isContained_22 rfl (fun z => hnm (nI_inj (by omega) (by omega) z)) ?_
    refine ar_push i_X6_isContained_25 ?_
    exact ar_ret i_X6_isContained_26 ((Or.inl rfl)) ⟨bR_f (fun z => hnm z.1), rfl⟩
theorem x_conflict_r (d : Nat) {S : aq_S} {k : Nat} {hs : Int32} {a0 : Int32} {a1 : Int32} (h : hT S k hs) (hp : a0 < 0 ∨ nI 4 ≤ a0) : aX (d + 3) 82 [.ref 1, .int a0, .int a1] S (fun o S' => o = .inr "java/lang/IllegalArgumentException" ∧ S' = aq_thrown S) := by
  refine ar_run (Nat.le_of_ble_eq_true rfl) (fun o S1 h => aq_le_of (aq_le_thr S) h) ?_
  refine ar_ld i_X6_conflict_0 rfl rfl ?_
  refine ar_ld i_X6_conflict_1 rfl rfl ?_
  exact av_cx i_X6_conflict_2 rfl ⟨_, _, _, rfl, (h.1)⟩ (Nat.le_of_ble_eq_true rfl) (x_wordIn_no d h hp) (fun S1 h => ⟨rfl, h⟩)
theorem x_conflict_r2 (d : Nat) {S : aq_S} {k : Nat} {hs : Int32} {r0 : Nat} {a1 : Int32} (h : hT S k hs) (h0 : r0 < 4) (hp : a1 < 0 ∨ nI 4 ≤ a1) : aX (d + 3) 82 [.ref 1, .int (nI r0), .int a1] S (fun o S' => o = .inr "java/lang/IllegalArgumentException" ∧ S' = aq_thrown S) := by
  refine ar_run (Nat.le_of_ble_eq_true rfl) (fun o S1 h => aq_le_of (aq_le_thr S) h) ?_
  refine ar_ld i_X6_conflict_0 rfl rfl ?_
  refine ar_ld i_X6_conflict_1 rfl rfl ?_
  refine ar_cr i_X6_conflict_2 rfl ⟨_, _, _, rfl, (h.1)⟩ (Nat.le_of_ble_eq_true rfl) (x_wordIn d h h0) ?_
  refine ar_st i_X6_conflict_5 rfl rfl ?_
  refine ar_ld i_X6_conflict_6 rfl rfl ?_
  refine ar_ld i_X6_conflict_7 rfl rfl ?_
  exact av_cx i_X6_conflict_8 rfl ⟨_, _, _, rfl, (h.1)⟩ (Nat.le_of_ble_eq_true rfl) (x_wordIn_no d h hp) (fun S1 h => ⟨rfl, h⟩)
theorem x_conflict_n (d : Nat) {S : aq_S} {k r q : Nat} {hs : Int32} {N : Nat → Nat} {G : Nat → Nat → Int32} (h : hT S k hs) (hw : hWs S 2 N G) (hr : r < 4) (hq : q < 4) (hnm : ¬ N r = N q) : aX (d + 3) 82 [.ref 1, .int (nI r), .int (nI q)] S (fun o S' => o = .inr "java/lang/IllegalStateException" ∧ S' = aq_thrown S) := by
  have hwr := hw r hr
  have hwq := hw q hq
  have h1 := hwr.le
  have h2 := hwq.le
  refine ar_run (Nat.le_of_ble_eq_true rfl) (fun o S1 h => aq_le_of (aq_le_thr S) h) ?_
  refine ar_ld i_X6_conflict_0 rfl rfl ?_
  refine ar_ld i_X6_conflict_1 rfl rfl ?_
  refine ar_cr i_X6_conflict_2 rfl ⟨_, _, _, rfl, (h.1)⟩ (Nat.le_of_ble_eq_true rfl) (x_wordIn d h hr) ?_
  refine ar_st i_X6_conflict_5 rfl rfl ?_
  refine ar_ld i_X6_conflict_6 rfl rfl ?_
  refine ar_ld i_X6_conflict_7 rfl rfl ?_
  refine ar_cr i_X6_conflict_8 rfl ⟨_, _, _, rfl, (h.1)⟩ (Nat.le_of_ble_eq_true rfl) (x_wordIn d h hq) ?_
  refine ar_st i_X6_conflict_11 rfl rfl ?_
  refine ar_ld i_X6_conflict_13 rfl rfl ?_
  refine ar_cr i_X6_conflict_14 rfl ⟨_, _, _, rfl, hwr.obj⟩ (Nat.le_of_ble_eq_true rfl) (w_size (d + 1) hwr) ?_
  refine ar_ld i_X6_conflict_17 rfl rfl ?_
  refine ar_cr i_X6_conflict_19 rfl ⟨_, _, _, rfl, hwq.obj⟩ (Nat.le_of_ble_eq_true rfl) (w_size (d + 1) hwq) ?_
  refine ar_iff i_X6_conflict_22 rfl (fun z => hnm (nI_inj (by omega) (by omega) z)) ?_
  exact ar_thr i_X6_conflict_25 (Nat.le_of_ble_eq_true rfl) ⟨rfl, rfl⟩
/-- the first place of unlike letters, or -1 -/
noncomputable def wconf (f g : Nat → Int32) : Nat → Nat → Int32
  | 0, _ => -1
  | j + 1, i => pif (wdf (f i) (g i)) (nI i) (wconf f g j (i + 1))
theorem wconf_y {f g : Nat → Int32} {j i : Nat} (h : wdf (f i) (g i)) : wconf f g (j + 1) i = nI i := pif_t h
theorem wconf_n {f g : Nat → Int32} {j i : Nat} (h : ¬ wdf (f i) (g i)) : wconf f g (j + 1) i = wconf f g j (i + 1) := pif_f h
theorem x_conflict (d : Nat) {S : aq_S} {k r q : Nat} {hs : Int32} {N : Nat → Nat} {G : Nat → Nat → Int32} (h : hT S k hs) (hw : hWs S 2 N G) (hr : r < 4) (hq : q < 4) (hnm : N r = N q) : aX (d + 3) 82 [.ref 1, .int (nI r), .int (nI q)] S (fun o S' => o = .inl (some (.int (wconf (G r) (G q) (N r) 0))) ∧ S' = S) := by
  have hwr := hw r hr
  have hwq := hw q hq
  have h1 := hwr.le
  have h2 := hwq.le
  refine ar_run (Nat.le_of_ble_eq_true rfl) (fun o S1 h => aq_le_of (aq_le_refl S) h) ?_
  refine ar_ld i_X6_conflict_0 rfl rfl ?_
  refine ar_ld i_X6_conflict_1 rfl rfl ?_
  refine ar_cr i_X6_conflict_2 rfl ⟨_, _, _, rfl, (h.1)⟩ (Nat.le_of_ble_eq_true rfl) (x_wordIn d h hr) ?_
  refine ar_st i_X6_conflict_5 rfl rfl ?_
  refine ar_ld i_X6_conflict_6 rfl rfl ?_
  refine ar_ld i_X6_conflict_7 rfl rfl ?_
  refine ar_cr i_X6_conflict_8 rfl ⟨_, _, _, rfl, (h.1)⟩ (Nat.le_of_ble_eq_true rfl) (x_wordIn d h hq) ?_
  refine ar_st i_X6_conflict_11 rfl rfl ?_
  refine ar_ld i_X6_conflict_13 rfl rfl ?_
  refine ar_cr i_X6_conflict_14 rfl ⟨_, _, _, rfl, hwr.obj⟩ (Nat.le_of_ble_eq_true rfl) (w_size (d + 1) hwr) ?_
  refine ar_ld i_X6_conflict_17 rfl rfl ?_
  refine ar_cr i_X6_conflict_19 rfl ⟨_, _, _, rfl, hwq.obj⟩ (Nat.le_of_ble_eq_true rfl) (w_size (d + 1) hwq) ?_
  refine ar_ift i_X6_conflict_22 rfl (by rw [hnm]) ?_
  refine ar_push i_X6_conflict_35 ?_
  refine ar_st i_X6_conflict_36 rfl rfl ?_
  suffices key : ∀ j i, i + j = N r → aG (d + 2) 82 (fun o S' => o = .inl (some (.int (wconf (G r) (G q) j i))) ∧ S' = S) 38 [(0, .ref 1), (1, .int (nI r)), (2, .int (nI q)), (3, .ref (6 + 2 * r)), (4, .ref (6 + 2 * q)), (5, .int (nI i))] [] S from key (N r) 0 (by omega)
  intro j
  induction j with
  | zero =>
    intro i hi
    refine ar_ld i_X6_conflict_38 rfl rfl ?_
    refine ar_ld i_X6_conflict_40 rfl rfl ?_
    refine ar_cr i_X6_conflict_41 rfl ⟨_, _, _, rfl, hwr.obj⟩ (Nat.le_of_ble_eq_true rfl) (w_size (d + 1) hwr) ?_
    refine ar_ift i_X6_conflict_44 rfl (nI_le (by omega) (by omega)) ?_
    refine ar_push i_X6_conflict_75 ?_
    exact ar_ret i_X6_conflict_76 rfl ⟨rfl, rfl⟩
  | succ j ih =>
    intro i hi
    refine ar_ld i_X6_conflict_38 rfl rfl ?_
    refine ar_ld i_X6_conflict_40 rfl rfl ?_
    refine ar_cr i_X6_conflict_41 rfl ⟨_, _, _, rfl, hwr.obj⟩ (Nat.le_of_ble_eq_true rfl) (w_size (d + 1) hwr) ?_
    refine ar_iff i_X6_conflict_44 rfl (nI_ge (by omega) (by omega)) ?_
    refine ar_ld i_X6_conflict_47 rfl rfl ?_
    refine ar_ld i_X6_conflict_48 rfl rfl ?_
    refine ar_cr i_X6_conflict_50 rfl ⟨_, _, _, rfl, hwr.obj⟩ (Nat.le_of_ble_eq_true rfl) (w_atj (d + 1) hwr i (by omega)) ?_
    refine ar_ld i_X6_conflict_53 rfl rfl ?_
    refine ar_ld i_X6_conflict_55 rfl rfl ?_
    refine ar_cr i_X6_conflict_57 rfl ⟨_, _, _, rfl, hwq.obj⟩ (Nat.le_of_ble_eq_true rfl) (w_atj (d + 1) hwq i (by omega)) ?_
    refine ar_cr i_X6_conflict_60 rfl trivial (Nat.le_of_ble_eq_true rfl) (s_differ (d + 1) (G r i) (G q i)) ?_
    by_cases hd : wdf (G r i) (G q i)
    · rw [wconf_y hd]
      refine ar_iff i_X6_conflict_63 rfl (fun z => bI_nz.mpr hd z) ?_
      refine ar_ld i_X6_conflict_66 rfl rfl ?_
      exact ar_ret i_X6_conflict_68 rfl ⟨rfl, rfl⟩
    · rw [wconf_n hd]
      refine ar_ift i_X6_conflict_63 rfl (bI_f hd) ?_
      refine ar_inc i_X6_conflict_69 rfl rfl ?_
      refine ar_go i_X6_conflict_72 ?_
      have := ih (i + 1) (by omega)
      rw [← nI_1] at this
      exact this
theorem x_join_r (d : Nat) {S : aq_S} {k : Nat} {hs : Int32} {a0 : Int32} {a1 : Int32} {a2 : Int32} (h : hT S k hs) (hp : a0 < 0 ∨ nI 4 ≤ a0) : aX (d + 3) 83 [.ref 1, .int a0, .int a1, .int a2] S (fun o S' => o = .inr "java/lang/IllegalArgumentException" ∧ S' = aq_thrown S) := by
  refine ar_run (Nat.le_of_ble_eq_true rfl) (fun o S1 h => aq_le_of (aq_le_thr S) h) ?_
  refine ar_ld i_X6_join_0 rfl rfl ?_
  refine ar_ld i_X6_join_1 rfl rfl ?_
  exact av_cx i_X6_join_2 rfl ⟨_, _, _, rfl, (h.1)⟩ (Nat.le_of_ble_eq_true rfl) (x_wordIn_no d h hp) (fun S1 h => ⟨rfl, h⟩)
theorem x_join_r2 (d : Nat) {S : aq_S} {k : Nat} {hs : Int32} {r0 : Nat} {a1 : Int32} {a2 : Int32} (h : hT S k hs) (h0 : r0 < 4) (hp : a1 < 0 ∨ nI 4 ≤ a1) : aX (d + 3) 83 [.ref 1, .int (nI r0), .int a1, .int a2] S (fun o S' => o = .inr "java/lang/IllegalArgumentException" ∧ S' = aq_thrown S) := by
  refine ar_run (Nat.le_of_ble_eq_true rfl) (fun o S1 h => aq_le_of (aq_le_thr S) h) ?_
  refine ar_ld i_X6_join_0 rfl rfl ?_
  refine ar_ld i_X6_join_1 rfl rfl ?_
  refine ar_cr i_X6_join_2 rfl ⟨_, _, _, rfl, (h.1)⟩ (Nat.le_of_ble_eq_true rfl) (x_wordIn d h h0) ?_
  refine ar_st i_X6_join_5 rfl rfl ?_
  refine ar_ld i_X6_join_7 rfl rfl ?_
  refine ar_ld i_X6_join_8 rfl rfl ?_
  exact av_cx i_X6_join_9 rfl ⟨_, _, _, rfl, (h.1)⟩ (Nat.le_of_ble_eq_true rfl) (x_wordIn_no d h hp) (fun S1 h => ⟨rfl, h⟩)
theorem x_join_r3 (d : Nat) {S : aq_S} {k : Nat} {hs : Int32} {r0 : Nat} {r1 : Nat} {a2 : Int32} (h : hT S k hs) (h0 : r0 < 4) (h1 : r1 < 4) (hp : a2 < 0 ∨ nI 4 ≤ a2) : aX (d + 3) 83 [.ref 1, .int (nI r0), .int (nI r1), .int a2] S (fun o S' => o = .inr "java/lang/IllegalArgumentException" ∧ S' = aq_thrown S) := by
  refine ar_run (Nat.le_of_ble_eq_true rfl) (fun o S1 h => aq_le_of (aq_le_thr S) h) ?_
  refine ar_ld i_X6_join_0 rfl rfl ?_
  refine ar_ld i_X6_join_1 rfl rfl ?_
  refine ar_cr i_X6_join_2 rfl ⟨_, _, _, rfl, (h.1)⟩ (Nat.le_of_ble_eq_true rfl) (x_wordIn d h h0) ?_
  refine ar_st i_X6_join_5 rfl rfl ?_
  refine ar_ld i_X6_join_7 rfl rfl ?_
  refine ar_ld i_X6_join_8 rfl rfl ?_
  refine ar_cr i_X6_join_9 rfl ⟨_, _, _, rfl, (h.1)⟩ (Nat.le_of_ble_eq_true rfl) (x_wordIn d h h1) ?_
  refine ar_st i_X6_join_12 rfl rfl ?_
  refine ar_ld i_X6_join_14 rfl rfl ?_
  refine ar_ld i_X6_join_15 rfl rfl ?_
  exact av_cx i_X6_join_16 rfl ⟨_, _, _, rfl, (h.1)⟩ (Nat.le_of_ble_eq_true rfl) (x_wordIn_no d h hp) (fun S1 h => ⟨rfl, h⟩)
theorem x_join_n (d : Nat) {S : aq_S} {k r q t : Nat} {hs : Int32} {N : Nat → Nat} {G : Nat → Nat → Int32} (h : hT S k hs) (hw : hWs S 2 N G) (hr : r < 4) (hq : q < 4) (ht : t < 4) (hnm : ¬ wcomp (N r) (N q) (G r) (G q)) : aX (d + 4) 83 [.ref 1, .int (nI r), .int (nI q), .int (nI t)] S (fun o S' => o = .inr "java/lang/IllegalStateException" ∧ S' = aq_thrown S) := by
  have hwr := hw r hr
  have hwq := hw q hq
  refine ar_run (Nat.le_of_ble_eq_true rfl) (fun o S1 h => aq_le_of (aq_le_thr S) h) ?_
  refine ar_ld i_X6_join_0 rfl rfl ?_
  refine ar_ld i_X6_join_1 rfl rfl ?_
  refine ar_cr i_X6_join_2 rfl ⟨_, _, _, rfl, (h.1)⟩ (Nat.le_of_ble_eq_true rfl) (x_wordIn (d + 1) h hr) ?_
  refine ar_st i_X6_join_5 rfl rfl ?_
  refine ar_ld i_X6_join_7 rfl rfl ?_
  refine ar_ld i_X6_join_8 rfl rfl ?_
  refine ar_cr i_X6_join_9 rfl ⟨_, _, _, rfl, (h.1)⟩ (Nat.le_of_ble_eq_true rfl) (x_wordIn (d + 1) h hq) ?_
  refine ar_st i_X6_join_12 rfl rfl ?_
  refine ar_ld i_X6_join_14 rfl rfl ?_
  refine ar_ld i_X6_join_15 rfl rfl ?_
  refine ar_cr i_X6_join_16 rfl ⟨_, _, _, rfl, (h.1)⟩ (Nat.le_of_ble_eq_true rfl) (x_wordIn (d + 1) h ht) ?_
  refine ar_st i_X6_join_19 rfl rfl ?_
  refine ar_ld i_X6_join_21 rfl rfl ?_
  refine ar_ld i_X6_join_23 rfl rfl ?_
  refine ar_cr i_X6_join_25 rfl ⟨_, _, _, rfl, hwr.obj⟩ (Nat.le_of_ble_eq_true rfl) (w_agreesWith d hwr hwq) ?_
  refine ar_iff i_X6_join_28 rfl (fun z => z (bI_f (fun u => hnm (wcomp_iff.mp u)))) ?_
  exact ar_thr i_X6_join_31 (Nat.le_of_ble_eq_true rfl) ⟨rfl, rfl⟩
def wjoin (f g : Nat → Int32) (i : Nat) : Int32 := if f i = -1 then g i else f i
theorem x_join (d : Nat) {S : aq_S} {k r q t : Nat} {hs : Int32} {N : Nat → Nat} {G : Nat → Nat → Int32} (h : hT S k hs) (hw : hWs S 2 N G) (hd : hD S) (hr : r < 4) (hq : q < 4) (ht : t < 4) (hnm : wcomp (N r) (N q) (G r) (G q)) : aX (d + 4) 83 [.ref 1, .int (nI r), .int (nI q), .int (nI t)] S (fun o S' => o = .inl (some (.int (nI (wholes (wjoin (G r) (G q)) (N r))))) ∧ isW S' (6 + 2 * t) (N r) (wjoin (G r) (G q)) ∧ isW S' 43 (N r) (wjoin (G r) (G q)) ∧ aq_fr S S' (fun c => c = 6 + 2 * t ∨ c = 6 + 2 * t + 1 ∨ c = 43 ∨ c = 44)) := by
  have hwr := hw r hr
  have hwq := hw q hq
  have hwt := hw t ht
  have h1 := hwr.le
  have h2 := hwq.le
  refine ar_run (Nat.le_of_ble_eq_true rfl) (fun o S1 h => h.2.2.2.le) ?_
  refine ar_ld i_X6_join_0 rfl rfl ?_
  refine ar_ld i_X6_join_1 rfl rfl ?_
  refine ar_cr i_X6_join_2 rfl ⟨_, _, _, rfl, (h.1)⟩ (Nat.le_of_ble_eq_true rfl) (x_wordIn (d + 1) h hr) ?_
  refine ar_st i_X6_join_5 rfl rfl ?_
  refine ar_ld i_X6_join_7 rfl rfl ?_
  refine ar_ld i_X6_join_8 rfl rfl ?_
  refine ar_cr i_X6_join_9 rfl ⟨_, _, _, rfl, (h.1)⟩ (Nat.le_of_ble_eq_true rfl) (x_wordIn (d + 1) h hq) ?_
  refine ar_st i_X6_join_12 rfl rfl ?_
  refine ar_ld i_X6_join_14 rfl rfl ?_
  refine ar_ld i_X6_join_15 rfl rfl ?_
  refine ar_cr i_X6_join_16 rfl ⟨_, _, _, rfl, (h.1)⟩ (Nat.le_of_ble_eq_true rfl) (x_wordIn (d + 1) h ht) ?_
  refine ar_st i_X6_join_19 rfl rfl ?_
  refine ar_ld i_X6_join_21 rfl rfl ?_
  refine ar_ld i_X6_join_23 rfl rfl ?_
  refine ar_cr i_X6_join_25 rfl ⟨_, _, _, rfl, hwr.obj⟩ (Nat.le_of_ble_eq_true rfl) (w_agreesWith d hwr hwq) ?_
  refine ar_ift i_X6_join_28 rfl (bI_nz.mpr (wcomp_iff.mpr hnm)) ?_
  refine ar_ld i_X6_join_41 rfl rfl ?_
  refine ar_gf i_X6_join_42 (h.1) rfl ?_
  refine ar_ld i_X6_join_45 rfl rfl ?_
  obtain ⟨dn, dg, hdw⟩ := hd.1
  refine av_cv i_X6_join_47 rfl ⟨_, _, _, rfl, hdw.obj⟩ (Nat.le_of_ble_eq_true rfl) (w_copyFrom (d + 1) hdw hwr) (fun S1 hc => ?_)
  refine ar_push i_X6_join_50 ?_
  refine ar_st i_X6_join_51 rfl rfl ?_
  suffices key : ∀ j i (S1 : aq_S) (F : Nat → Int32), i + j = N r → isW S1 43 (N r) F → (∀ x, x < i → F x = wjoin (G r) (G q) x) → (∀ x, i ≤ x → x < N r → F x = G r x) → aq_fr S S1 (fun c => c = 43 ∨ c = 44) → aG (d + 3) 83 (fun o S' => o = .inl (some (.int (nI (wholes (wjoin (G r) (G q)) (N r))))) ∧ isW S' (6 + 2 * t) (N r) (wjoin (G r) (G q)) ∧ isW S' 43 (N r) (wjoin (G r) (G q)) ∧ aq_fr S S' (fun c => c = 6 + 2 * t ∨ c = 6 + 2 * t + 1 ∨ c = 43 ∨ c = 44)) 53 [(0, .ref 1), (1, .int (nI r)), (2, .int (nI q)), (3, .int (nI t)), (4, .ref (6 + 2 * r)), (5, .ref (6 + 2 * q)), (6, .ref (6 + 2 * t)), (7, .int (nI i))] [] S1 by
    exact key (N r) 0 S1 (G r) (by omega) hc.1 (fun x hx => absurd hx (Nat.not_lt_zero x)) (fun x _ _ => rfl) (hc.2.mono (fun q z => z))
  intro j
  induction j with
  | zero =>
    intro i S1 F hi hF hag hre hfr
    have hX1 := h.1.fr hfr (by omega)
    refine ar_ld i_X6_join_53 rfl rfl ?_
    refine ar_ld i_X6_join_55 rfl rfl ?_
    refine ar_gf i_X6_join_56 (hX1) rfl ?_
    refine ar_cr i_X6_join_59 rfl ⟨_, _, _, rfl, hF.obj⟩ (Nat.le_of_ble_eq_true rfl) (w_size (d + 2) hF) ?_
    refine ar_ift i_X6_join_62 rfl (nI_le (by omega) (by omega)) ?_
    refine ar_ld i_X6_join_100 rfl rfl ?_
    refine ar_ld i_X6_join_102 rfl rfl ?_
    refine ar_gf i_X6_join_103 (hX1) rfl ?_
    have hF2 := hF.cg (g := wjoin (G r) (G q)) (fun x hx => hag x (by omega))
    have hwt1 := hwt.fr hfr (by omega) (by omega)
    refine av_cv i_X6_join_106 rfl ⟨_, _, _, rfl, hwt1.obj⟩ (Nat.le_of_ble_eq_true rfl) (w_copyFrom (d + 1) hwt1 hF2) (fun S2 h2 => ?_)
    refine ar_ld i_X6_join_109 rfl rfl ?_
    refine ar_cr i_X6_join_111 rfl ⟨_, _, _, rfl, h2.1.obj⟩ (Nat.le_of_ble_eq_true rfl) (w_holeCount (d + 1) h2.1) ?_
    exact ar_ret i_X6_join_114 rfl ⟨rfl, h2.1, hF2.fr h2.2 (by omega) (by omega), (hfr.mono (fun c z => by omega)).tr (h2.2.mono (fun c z => by omega))⟩
  | succ j ih =>
    intro i S1 F hi hF hag hre hfr
    have hX1 := h.1.fr hfr (by omega)
    refine ar_ld i_X6_join_53 rfl rfl ?_
    refine ar_ld i_X6_join_55 rfl rfl ?_
    refine ar_gf i_X6_join_56 (hX1) rfl ?_
    refine ar_cr i_X6_join_59 rfl ⟨_, _, _, rfl, hF.obj⟩ (Nat.le_of_ble_eq_true rfl) (w_size (d + 2) hF) ?_
    refine ar_iff i_X6_join_62 rfl (nI_ge (by omega) (by omega)) ?_
    refine ar_ld i_X6_join_65 rfl rfl ?_
    refine ar_gf i_X6_join_66 (hX1) rfl ?_
    refine ar_ld i_X6_join_69 rfl rfl ?_
    refine ar_cr i_X6_join_71 rfl ⟨_, _, _, rfl, hF.obj⟩ (Nat.le_of_ble_eq_true rfl) (w_atj (d + 2) hF i (by omega)) ?_
    refine ar_push i_X6_join_74 ?_
    have hFi := hre i (Nat.le_refl i) (by omega)
    rw [hFi]
    refine ar_if i_X6_join_75 rfl (fun c75 => ?_) (fun c75 => ?_)
    · refine ar_inc i_X6_join_94 rfl rfl ?_
      refine ar_go i_X6_join_97 ?_
      have := ih (i + 1) S1 F (by omega) hF (fun x hx => by
        by_cases e : x = i
        · rw [e, hFi]; exact (if_neg c75).symm
        · exact hag x (by omega)) (fun x hx hxn => hre x (by omega) hxn) hfr
      rw [← nI_1] at this
      exact this
    · refine ar_ld i_X6_join_78 rfl rfl ?_
      refine ar_gf i_X6_join_79 (hX1) rfl ?_
      refine ar_ld i_X6_join_82 rfl rfl ?_
      refine ar_ld i_X6_join_84 rfl rfl ?_
      refine ar_ld i_X6_join_86 rfl rfl ?_
      have hq1 := hwq.fr hfr (by omega) (by omega)
      have c76 : G r i = -1 := Classical.byContradiction c75
      refine ar_cr i_X6_join_88 rfl ⟨_, _, _, rfl, hq1.obj⟩ (Nat.le_of_ble_eq_true rfl) (w_atj (d + 2) hq1 i (by have := hnm.1; omega)) ?_
      refine av_cv i_X6_join_91 rfl ⟨_, _, _, rfl, hF.obj⟩ (Nat.le_of_ble_eq_true rfl) (w_put (d + 2) hF i (by omega) (G q i)) (fun S2 h2 => ?_)
      refine ar_inc i_X6_join_94 rfl rfl ?_
      refine ar_go i_X6_join_97 ?_
      have := ih (i + 1) S2 (upd F i (G q i)) (by omega) h2.1 (fun x hx => by
        by_cases e : x = i
        · rw [e, upd_eq]; exact (if_pos c76).symm
        · rw [upd_ne e]; exact hag x (by omega)) (fun x hx hxn => by rw [upd_ne (by omega)]; exact hre x (by omega) hxn) (hfr.tr (h2.2.mono (fun q z => by omega)))
      rw [← nI_1] at this
      exact this
end
