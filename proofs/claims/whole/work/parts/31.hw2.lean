/-! ===== HoleWords: concatenate, reverse, rotate, holes, relations, periods ===== -/
section
theorem nI_m1 {n : Nat} (h : 0 < n) : nI n - 1 = nI (n - 1) := by
  obtain ⟨m, rfl⟩ : ∃ m, n = m + 1 := ⟨n - 1, by omega⟩
  rw [nI_pred]
  rfl
theorem upd_eq {f : Nat → Int32} {j : Nat} {x : Int32} : upd f j x j = x := by unfold upd; rw [if_pos rfl]
theorem upd_ne {f : Nat → Int32} {j i : Nat} {x : Int32} (h : i ≠ j) : upd f j x i = f i := by unfold upd; rw [if_neg h]
theorem x_concatenate_r (d : Nat) {S : aq_S} {k : Nat} {hs p q : Int32} (h : hT S k hs) (hp : p < 0 ∨ nI 4 ≤ p) : aX (d + 3) 76 [.ref 1, .int p, .int q] S (fun o S' => o = .inr "java/lang/IllegalArgumentException" ∧ S' = aq_thrown S) := by
  refine ar_run (Nat.le_of_ble_eq_true rfl) (fun o S1 h => aq_le_of (aq_le_thr S) h) ?_
  refine ar_ld i_X6_concatenate_0 rfl rfl ?_
  refine ar_ld i_X6_concatenate_1 rfl rfl ?_
  exact av_cx i_X6_concatenate_2 rfl ⟨_, _, _, rfl, (h.1)⟩ (Nat.le_of_ble_eq_true rfl) (x_wordIn_no d h hp) (fun S1 h => ⟨rfl, h⟩)
theorem x_concatenate_r2 (d : Nat) {S : aq_S} {k r : Nat} {hs q : Int32} (h : hT S k hs) (hr : r < 4) (hp : q < 0 ∨ nI 4 ≤ q) : aX (d + 3) 76 [.ref 1, .int (nI r), .int q] S (fun o S' => o = .inr "java/lang/IllegalArgumentException" ∧ S' = aq_thrown S) := by
  refine ar_run (Nat.le_of_ble_eq_true rfl) (fun o S1 h => aq_le_of (aq_le_thr S) h) ?_
  refine ar_ld i_X6_concatenate_0 rfl rfl ?_
  refine ar_ld i_X6_concatenate_1 rfl rfl ?_
  refine ar_cr i_X6_concatenate_2 rfl ⟨_, _, _, rfl, (h.1)⟩ (Nat.le_of_ble_eq_true rfl) (x_wordIn d h hr) ?_
  refine ar_st i_X6_concatenate_5 rfl rfl ?_
  refine ar_ld i_X6_concatenate_6 rfl rfl ?_
  refine ar_ld i_X6_concatenate_7 rfl rfl ?_
  exact av_cx i_X6_concatenate_8 rfl ⟨_, _, _, rfl, (h.1)⟩ (Nat.le_of_ble_eq_true rfl) (x_wordIn_no d h hp) (fun S1 h => ⟨rfl, h⟩)
theorem x_concatenate_full (d : Nat) {S : aq_S} {k r q : Nat} {hs : Int32} {N : Nat → Nat} {G : Nat → Nat → Int32} (h : hT S k hs) (hw : hWs S 2 N G) (hr : r < 4) (hq : q < 4) (hn : 40 < N r + N q) : aX (d + 3) 76 [.ref 1, .int (nI r), .int (nI q)] S (fun o S' => o = .inr "java/lang/IllegalStateException" ∧ S' = aq_thrown S) := by
  have hwr := hw r hr
  have hwq := hw q hq
  have h1 := hwr.le
  have h2 := hwq.le
  refine ar_run (Nat.le_of_ble_eq_true rfl) (fun o S1 h => aq_le_of (aq_le_thr S) h) ?_
  refine ar_ld i_X6_concatenate_0 rfl rfl ?_
  refine ar_ld i_X6_concatenate_1 rfl rfl ?_
  refine ar_cr i_X6_concatenate_2 rfl ⟨_, _, _, rfl, (h.1)⟩ (Nat.le_of_ble_eq_true rfl) (x_wordIn d h hr) ?_
  refine ar_st i_X6_concatenate_5 rfl rfl ?_
  refine ar_ld i_X6_concatenate_6 rfl rfl ?_
  refine ar_ld i_X6_concatenate_7 rfl rfl ?_
  refine ar_cr i_X6_concatenate_8 rfl ⟨_, _, _, rfl, (h.1)⟩ (Nat.le_of_ble_eq_true rfl) (x_wordIn d h hq) ?_
  refine ar_st i_X6_concatenate_11 rfl rfl ?_
  refine ar_ld i_X6_concatenate_13 rfl rfl ?_
  refine ar_cr i_X6_concatenate_15 rfl ⟨_, _, _, rfl, hwq.obj⟩ (Nat.le_of_ble_eq_true rfl) (w_size (d + 1) hwq) ?_
  refine ar_st i_X6_concatenate_18 rfl rfl ?_
  refine ar_ld i_X6_concatenate_20 rfl rfl ?_
  refine ar_cr i_X6_concatenate_21 rfl ⟨_, _, _, rfl, hwr.obj⟩ (Nat.le_of_ble_eq_true rfl) (w_size (d + 1) hwr) ?_
  refine ar_ld i_X6_concatenate_24 rfl rfl ?_
  refine ar_ar i_X6_concatenate_26 rfl ?_
  rw [nI_add]
  refine ar_push i_X6_concatenate_27 ?_
  refine ar_iff i_X6_concatenate_29 rfl (nI_ge (a := 40) hn (by omega)) ?_
  exact ar_thr i_X6_concatenate_32 (Nat.le_of_ble_eq_true rfl) ⟨rfl, rfl⟩
theorem x_concatenate (d : Nat) {S : aq_S} {k r q : Nat} {hs : Int32} {N : Nat → Nat} {G : Nat → Nat → Int32} (h : hT S k hs) (hw : hWs S 2 N G) (hr : r < 4) (hq : q < 4) (hn : N r + N q ≤ 40) : aX (d + 3) 76 [.ref 1, .int (nI r), .int (nI q)] S (fun o S' => o = .inl (some (.int (nI (N r + N q)))) ∧ isW S' (6 + 2 * r) (N r + N q) (fun i => if i < N r then G r i else G q (i - N r)) ∧ aq_fr S S' (fun c => c = 6 + 2 * r ∨ c = 6 + 2 * r + 1)) := by
  have hwr := hw r hr
  have hwq := hw q hq
  have h1 := hwr.le
  have h2 := hwq.le
  refine ar_run (Nat.le_of_ble_eq_true rfl) (fun o S1 h => h.2.2.le) ?_
  refine ar_ld i_X6_concatenate_0 rfl rfl ?_
  refine ar_ld i_X6_concatenate_1 rfl rfl ?_
  refine ar_cr i_X6_concatenate_2 rfl ⟨_, _, _, rfl, (h.1)⟩ (Nat.le_of_ble_eq_true rfl) (x_wordIn d h hr) ?_
  refine ar_st i_X6_concatenate_5 rfl rfl ?_
  refine ar_ld i_X6_concatenate_6 rfl rfl ?_
  refine ar_ld i_X6_concatenate_7 rfl rfl ?_
  refine ar_cr i_X6_concatenate_8 rfl ⟨_, _, _, rfl, (h.1)⟩ (Nat.le_of_ble_eq_true rfl) (x_wordIn d h hq) ?_
  refine ar_st i_X6_concatenate_11 rfl rfl ?_
  refine ar_ld i_X6_concatenate_13 rfl rfl ?_
  refine ar_cr i_X6_concatenate_15 rfl ⟨_, _, _, rfl, hwq.obj⟩ (Nat.le_of_ble_eq_true rfl) (w_size (d + 1) hwq) ?_
  refine ar_st i_X6_concatenate_18 rfl rfl ?_
  refine ar_ld i_X6_concatenate_20 rfl rfl ?_
  refine ar_cr i_X6_concatenate_21 rfl ⟨_, _, _, rfl, hwr.obj⟩ (Nat.le_of_ble_eq_true rfl) (w_size (d + 1) hwr) ?_
  refine ar_ld i_X6_concatenate_24 rfl rfl ?_
  refine ar_ar i_X6_concatenate_26 rfl ?_
  rw [nI_add]
  refine ar_push i_X6_concatenate_27 ?_
  refine ar_ift i_X6_concatenate_29 rfl (nI_le (b := 40) hn (by omega)) ?_
  refine ar_push i_X6_concatenate_42 ?_
  refine ar_st i_X6_concatenate_43 rfl rfl ?_
  suffices key : ∀ j i (S1 : aq_S) (F : Nat → Int32) (m : Nat), i + j = N q → isW S1 (6 + 2 * r) (N r + i) F → (∀ x, x < N r + i → F x = if x < N r then G r x else G q (x - N r)) → isW S1 (6 + 2 * q) m (if q = r then F else G q) → m = (if q = r then N r + i else N q) → aq_fr S S1 (fun c => c = 6 + 2 * r ∨ c = 6 + 2 * r + 1) → aG (d + 2) 76 (fun o S' => o = .inl (some (.int (nI (N r + N q)))) ∧ isW S' (6 + 2 * r) (N r + N q) (fun i => if i < N r then G r i else G q (i - N r)) ∧ aq_fr S S' (fun c => c = 6 + 2 * r ∨ c = 6 + 2 * r + 1)) 45 [(0, .ref 1), (1, .int (nI r)), (2, .int (nI q)), (3, .ref (6 + 2 * r)), (4, .ref (6 + 2 * q)), (5, .int (nI (N q))), (6, .int (nI i))] [] S1 by
    refine key (N q) 0 S (G r) (N q) (by omega) hwr (fun x hx => by rw [if_pos (show x < N r by omega)]) ?_ ?_ aq_fr.rf
    · by_cases e : q = r
      · subst e; rw [if_pos rfl]; exact hwq
      · rw [if_neg e]; exact hwq
    · by_cases e : q = r
      · subst e; rw [if_pos rfl]; rfl
      · rw [if_neg e]
  intro j
  induction j with
  | zero =>
    intro i S1 F m hi hF hag hG hm hfr
    refine ar_ld i_X6_concatenate_45 rfl rfl ?_
    refine ar_ld i_X6_concatenate_47 rfl rfl ?_
    refine ar_ift i_X6_concatenate_49 rfl (nI_le (by omega) (by omega)) ?_
    refine ar_ld i_X6_concatenate_70 rfl rfl ?_
    refine ar_cr i_X6_concatenate_71 rfl ⟨_, _, _, rfl, hF.obj⟩ (Nat.le_of_ble_eq_true rfl) (w_size (d + 1) hF) ?_
    have e : N r + i = N r + N q := by omega
    rw [e] at hF hag ⊢
    exact ar_ret i_X6_concatenate_74 rfl ⟨rfl, hF.cg hag, hfr⟩
  | succ j ih =>
    intro i S1 F m hi hF hag hG hm hfr
    refine ar_ld i_X6_concatenate_45 rfl rfl ?_
    refine ar_ld i_X6_concatenate_47 rfl rfl ?_
    refine ar_iff i_X6_concatenate_49 rfl (nI_ge (by omega) (by omega)) ?_
    refine ar_ld i_X6_concatenate_52 rfl rfl ?_
    refine ar_ld i_X6_concatenate_53 rfl rfl ?_
    refine ar_ld i_X6_concatenate_55 rfl rfl ?_
    have him : i < m := by
      rw [hm]
      by_cases e : q = r
      · rw [if_pos e]; subst e; omega
      · rw [if_neg e]; omega
    have hval : (if q = r then F else G q) i = G q i := by
      by_cases e : q = r
      · rw [if_pos e]
        subst e
        rw [hag i (by omega), if_pos (show i < N q by omega)]
      · rw [if_neg e]
    refine ar_cr i_X6_concatenate_57 rfl ⟨_, _, _, rfl, hG.obj⟩ (Nat.le_of_ble_eq_true rfl) (w_atj (d + 1) hG i him) ?_
    rw [hval]
    refine av_cr i_X6_concatenate_60 rfl ⟨_, _, _, rfl, hF.obj⟩ (Nat.le_of_ble_eq_true rfl) (w_add (d + 1) hF (G q i) (by omega)) (fun S2 h2 => ?_)
    refine ar_ar i_X6_concatenate_63 rfl ?_
    refine ar_inc i_X6_concatenate_64 rfl rfl ?_
    refine ar_go i_X6_concatenate_67 ?_
    have := ih (i + 1) S2 (upd F (N r + i) (G q i)) (if q = r then N r + (i + 1) else N q) (by omega) h2.1 (fun x hx => ?_) ?_ rfl (hfr.tr h2.2)
    · rw [← nI_1] at this
      exact this
    · by_cases e : x = N r + i
      · rw [e, upd_eq, if_neg (by omega), Nat.add_sub_cancel_left]
      · rw [upd_ne e]; exact hag x (by omega)
    · by_cases e : q = r
      · subst e
        rw [if_pos rfl, if_pos rfl]
        exact h2.1
      · rw [if_neg e, if_neg e]
        rw [if_neg e] at hG hm
        rw [hm] at hG
        exact hG.fr h2.2 (by omega) (by omega)
/-- the words for drafts -/
def hD (S : aq_S) : Prop := (∃ n g, isW S 43 n g) ∧ ∃ n g, isW S 45 n g
theorem x_reverse_r (d : Nat) {S : aq_S} {k : Nat} {hs p : Int32} (h : hT S k hs) (hp : p < 0 ∨ nI 4 ≤ p) : aX (d + 3) 77 [.ref 1, .int p] S (fun o S' => o = .inr "java/lang/IllegalArgumentException" ∧ S' = aq_thrown S) := by
  refine ar_run (Nat.le_of_ble_eq_true rfl) (fun o S1 h => aq_le_of (aq_le_thr S) h) ?_
  refine ar_ld i_X6_reverse_0 rfl rfl ?_
  refine ar_ld i_X6_reverse_1 rfl rfl ?_
  exact av_cx i_X6_reverse_2 rfl ⟨_, _, _, rfl, (h.1)⟩ (Nat.le_of_ble_eq_true rfl) (x_wordIn_no d h hp) (fun S1 h => ⟨rfl, h⟩)
theorem x_reverse (d : Nat) {S : aq_S} {k r : Nat} {hs : Int32} {N : Nat → Nat} {G : Nat → Nat → Int32} (h : hT S k hs) (hw : hWs S 2 N G) (hd : hD S) (hr : r < 4) : aX (d + 3) 77 [.ref 1, .int (nI r)] S (fun o S' => o = .inl (some (.int (bI (∀ i, i < N r → G r (N r - 1 - i) = G r i)))) ∧ isW S' (6 + 2 * r) (N r) (fun i => G r (N r - 1 - i)) ∧ isW S' 43 (N r) (G r) ∧ aq_fr S S' (fun c => c = 6 + 2 * r + 1 ∨ c = 43 ∨ c = 44)) := by
  have hwr := hw r hr
  have h1 := hwr.le
  refine ar_run (Nat.le_of_ble_eq_true rfl) (fun o S1 h => h.2.2.2.le) ?_
  refine ar_ld i_X6_reverse_0 rfl rfl ?_
  refine ar_ld i_X6_reverse_1 rfl rfl ?_
  refine ar_cr i_X6_reverse_2 rfl ⟨_, _, _, rfl, (h.1)⟩ (Nat.le_of_ble_eq_true rfl) (x_wordIn d h hr) ?_
  refine ar_st i_X6_reverse_5 rfl rfl ?_
  refine ar_ld i_X6_reverse_6 rfl rfl ?_
  refine ar_gf i_X6_reverse_7 (h.1) rfl ?_
  refine ar_ld i_X6_reverse_10 rfl rfl ?_
  obtain ⟨dn, dg, hdw⟩ := hd.1
  refine av_cv i_X6_reverse_11 rfl ⟨_, _, _, rfl, hdw.obj⟩ (Nat.le_of_ble_eq_true rfl) (w_copyFrom d hdw hwr) (fun S1 hc => ?_)
  refine ar_push i_X6_reverse_14 ?_
  refine ar_st i_X6_reverse_15 rfl rfl ?_
  suffices key : ∀ j i (S1 : aq_S) (F : Nat → Int32), i + j = N r → isW S1 (6 + 2 * r) (N r) F → (∀ x, x < i → F x = G r (N r - 1 - x)) → isW S1 43 (N r) (G r) → aq_fr S S1 (fun c => c = 6 + 2 * r + 1 ∨ c = 43 ∨ c = 44) → aG (d + 2) 77 (fun o S' => o = .inl (some (.int (bI (∀ i, i < N r → G r (N r - 1 - i) = G r i)))) ∧ isW S' (6 + 2 * r) (N r) (fun i => G r (N r - 1 - i)) ∧ isW S' 43 (N r) (G r) ∧ aq_fr S S' (fun c => c = 6 + 2 * r + 1 ∨ c = 43 ∨ c = 44)) 16 [(0, .ref 1), (1, .int (nI r)), (2, .ref (6 + 2 * r)), (3, .int (nI i))] [] S1 by
    refine key (N r) 0 S1 (G r) (by omega) (hwr.fr hc.2 (by omega) (by omega)) (fun x hx => absurd hx (Nat.not_lt_zero x)) hc.1 (hc.2.mono (fun q z => by omega))
  intro j
  induction j with
  | zero =>
    intro i S1 F hi hF hag hG hfr
    have hX1 := h.1.fr hfr (by omega)
    refine ar_ld i_X6_reverse_16 rfl rfl ?_
    refine ar_ld i_X6_reverse_17 rfl rfl ?_
    refine ar_cr i_X6_reverse_18 rfl ⟨_, _, _, rfl, hF.obj⟩ (Nat.le_of_ble_eq_true rfl) (w_size (d + 1) hF) ?_
    refine ar_ift i_X6_reverse_21 rfl (nI_le (by omega) (by omega)) ?_
    refine ar_ld i_X6_reverse_50 rfl rfl ?_
    refine ar_ld i_X6_reverse_51 rfl rfl ?_
    refine ar_gf i_X6_reverse_52 (hX1) rfl ?_
    refine ar_cr i_X6_reverse_55 rfl ⟨_, _, _, rfl, hF.obj⟩ (Nat.le_of_ble_eq_true rfl) (w_isSameAs d hF hG) ?_
    have hcg := hF.cg (g := fun i => G r (N r - 1 - i)) (fun x hx => hag x (by omega))
    exact ar_ret i_X6_reverse_58 ((bI_01 _)) ⟨by rw [bI_cg (P' := ∀ i, i < N r → G r (N r - 1 - i) = G r i) ⟨fun z x hx => (hag x (by omega)).symm.trans (z.2 x hx), fun z => ⟨rfl, fun x hx => (hag x (by omega)).trans (z x hx)⟩⟩], hcg, hG, hfr⟩
  | succ j ih =>
    intro i S1 F hi hF hag hG hfr
    have hX1 := h.1.fr hfr (by omega)
    refine ar_ld i_X6_reverse_16 rfl rfl ?_
    refine ar_ld i_X6_reverse_17 rfl rfl ?_
    refine ar_cr i_X6_reverse_18 rfl ⟨_, _, _, rfl, hF.obj⟩ (Nat.le_of_ble_eq_true rfl) (w_size (d + 1) hF) ?_
    refine ar_iff i_X6_reverse_21 rfl (nI_ge (by omega) (by omega)) ?_
    refine ar_ld i_X6_reverse_24 rfl rfl ?_
    refine ar_ld i_X6_reverse_25 rfl rfl ?_
    refine ar_ld i_X6_reverse_26 rfl rfl ?_
    refine ar_gf i_X6_reverse_27 (hX1) rfl ?_
    refine ar_ld i_X6_reverse_30 rfl rfl ?_
    refine ar_cr i_X6_reverse_31 rfl ⟨_, _, _, rfl, hF.obj⟩ (Nat.le_of_ble_eq_true rfl) (w_size (d + 1) hF) ?_
    refine ar_push i_X6_reverse_34 ?_
    refine ar_ar i_X6_reverse_35 rfl ?_
    rw [nI_m1 (by omega)]
    refine ar_ld i_X6_reverse_36 rfl rfl ?_
    refine ar_ar i_X6_reverse_37 rfl ?_
    rw [pk_sub (by omega)]
    refine ar_cr i_X6_reverse_38 rfl ⟨_, _, _, rfl, hG.obj⟩ (Nat.le_of_ble_eq_true rfl) (w_atj (d + 1) hG (N r - 1 - i) (by omega)) ?_
    refine av_cv i_X6_reverse_41 rfl ⟨_, _, _, rfl, hF.obj⟩ (Nat.le_of_ble_eq_true rfl) (w_put (d + 1) hF i (by omega) (G r (N r - 1 - i))) (fun S2 h2 => ?_)
    refine ar_inc i_X6_reverse_44 rfl rfl ?_
    refine ar_go i_X6_reverse_47 ?_
    have := ih (i + 1) S2 (upd F i (G r (N r - 1 - i))) (by omega) h2.1 (fun x hx => by
      by_cases e : x = i
      · rw [e, upd_eq]
      · rw [upd_ne e]; exact hag x (by omega)) (hG.fr h2.2 (by omega) (by omega)) (hfr.tr (h2.2.mono (fun q z => Or.inl z)))
    rw [← nI_1] at this
    exact this
theorem x_rotate_r (d : Nat) {S : aq_S} {k : Nat} {hs p q : Int32} (h : hT S k hs) (hp : p < 0 ∨ nI 4 ≤ p) : aX (d + 3) 78 [.ref 1, .int p, .int q] S (fun o S' => o = .inr "java/lang/IllegalArgumentException" ∧ S' = aq_thrown S) := by
  refine ar_run (Nat.le_of_ble_eq_true rfl) (fun o S1 h => aq_le_of (aq_le_thr S) h) ?_
  refine ar_ld i_X6_rotate_0 rfl rfl ?_
  refine ar_ld i_X6_rotate_1 rfl rfl ?_
  exact av_cx i_X6_rotate_2 rfl ⟨_, _, _, rfl, (h.1)⟩ (Nat.le_of_ble_eq_true rfl) (x_wordIn_no d h hp) (fun S1 h => ⟨rfl, h⟩)
theorem x_rotate_n (d : Nat) {S : aq_S} {k r : Nat} {hs n : Int32} {N : Nat → Nat} {G : Nat → Nat → Int32} (h : hT S k hs) (hw : hWs S 2 N G) (hr : r < 4) (hn : n < 0 ∨ nI (N r + 1) ≤ n) : aX (d + 3) 78 [.ref 1, .int (nI r), .int n] S (fun o S' => o = .inr "java/lang/IndexOutOfBoundsException" ∧ S' = aq_thrown S) := by
  have hwr := hw r hr
  have h1 := hwr.le
  refine ar_run (Nat.le_of_ble_eq_true rfl) (fun o S1 h => aq_le_of (aq_le_thr S) h) ?_
  refine ar_ld i_X6_rotate_0 rfl rfl ?_
  refine ar_ld i_X6_rotate_1 rfl rfl ?_
  refine ar_cr i_X6_rotate_2 rfl ⟨_, _, _, rfl, (h.1)⟩ (Nat.le_of_ble_eq_true rfl) (x_wordIn d h hr) ?_
  refine ar_st i_X6_rotate_5 rfl rfl ?_
  refine ar_ld i_X6_rotate_6 rfl rfl ?_
  refine ar_cr i_X6_rotate_7 rfl ⟨_, _, _, rfl, hwr.obj⟩ (Nat.le_of_ble_eq_true rfl) (w_size (d + 1) hwr) ?_
  refine ar_st i_X6_rotate_10 rfl rfl ?_
  refine ar_ld i_X6_rotate_12 rfl rfl ?_
  refine ar_if i_X6_rotate_13 rfl (fun c13 => ?_) (fun c13 => ?_)
  · exact ar_thr i_X6_rotate_22 (Nat.le_of_ble_eq_true rfl) ⟨rfl, rfl⟩
  · refine ar_ld i_X6_rotate_16 rfl rfl ?_
    refine ar_ld i_X6_rotate_17 rfl rfl ?_
    refine ar_iff i_X6_rotate_19 rfl (fun z => absurd (Int32.le_trans (hn.resolve_left c13) z) (nI_ge (by omega) (by omega))) ?_
    exact ar_thr i_X6_rotate_22 (Nat.le_of_ble_eq_true rfl) ⟨rfl, rfl⟩
theorem x_rotate (d : Nat) {S : aq_S} {k r n : Nat} {hs : Int32} {N : Nat → Nat} {G : Nat → Nat → Int32} (h : hT S k hs) (hw : hWs S 2 N G) (hd : hD S) (hr : r < 4) (hn : n ≤ N r) : aX (d + 3) 78 [.ref 1, .int (nI r), .int (nI n)] S (fun o S' => o = .inl (some (.int (bI (∀ i, i < N r → G r ((i + n) % N r) = G r i)))) ∧ isW S' (6 + 2 * r) (N r) (fun i => G r ((i + n) % N r)) ∧ isW S' 43 (N r) (G r) ∧ aq_fr S S' (fun c => c = 6 + 2 * r + 1 ∨ c = 43 ∨ c = 44)) := by
  have hwr := hw r hr
  have h1 := hwr.le
  refine ar_run (Nat.le_of_ble_eq_true rfl) (fun o S1 h => h.2.2.2.le) ?_
  refine ar_ld i_X6_rotate_0 rfl rfl ?_
  refine ar_ld i_X6_rotate_1 rfl rfl ?_
  refine ar_cr i_X6_rotate_2 rfl ⟨_, _, _, rfl, (h.1)⟩ (Nat.le_of_ble_eq_true rfl) (x_wordIn d h hr) ?_
  refine ar_st i_X6_rotate_5 rfl rfl ?_
  refine ar_ld i_X6_rotate_6 rfl rfl ?_
  refine ar_cr i_X6_rotate_7 rfl ⟨_, _, _, rfl, hwr.obj⟩ (Nat.le_of_ble_eq_true rfl) (w_size (d + 1) hwr) ?_
  refine ar_st i_X6_rotate_10 rfl rfl ?_
  refine ar_ld i_X6_rotate_12 rfl rfl ?_
  refine ar_iff i_X6_rotate_13 rfl (nI_pos (by omega)) ?_
  refine ar_ld i_X6_rotate_16 rfl rfl ?_
  refine ar_ld i_X6_rotate_17 rfl rfl ?_
  refine ar_ift i_X6_rotate_19 rfl (nI_le hn (by omega)) ?_
  refine ar_ld i_X6_rotate_32 rfl rfl ?_
  refine ar_gf i_X6_rotate_33 (h.1) rfl ?_
  refine ar_ld i_X6_rotate_36 rfl rfl ?_
  obtain ⟨dn, dg, hdw⟩ := hd.1
  refine av_cv i_X6_rotate_37 rfl ⟨_, _, _, rfl, hdw.obj⟩ (Nat.le_of_ble_eq_true rfl) (w_copyFrom d hdw hwr) (fun S1 hc => ?_)
  refine ar_push i_X6_rotate_40 ?_
  refine ar_st i_X6_rotate_41 rfl rfl ?_
  suffices key : ∀ j i (S1 : aq_S) (F : Nat → Int32), i + j = N r → isW S1 (6 + 2 * r) (N r) F → (∀ x, x < i → F x = G r ((x + n) % N r)) → isW S1 43 (N r) (G r) → aq_fr S S1 (fun c => c = 6 + 2 * r + 1 ∨ c = 43 ∨ c = 44) → aG (d + 2) 78 (fun o S' => o = .inl (some (.int (bI (∀ i, i < N r → G r ((i + n) % N r) = G r i)))) ∧ isW S' (6 + 2 * r) (N r) (fun i => G r ((i + n) % N r)) ∧ isW S' 43 (N r) (G r) ∧ aq_fr S S' (fun c => c = 6 + 2 * r + 1 ∨ c = 43 ∨ c = 44)) 43 [(0, .ref 1), (1, .int (nI r)), (2, .int (nI n)), (3, .ref (6 + 2 * r)), (4, .int (nI (N r))), (5, .int (nI i))] [] S1 by
    refine key (N r) 0 S1 (G r) (by omega) (hwr.fr hc.2 (by omega) (by omega)) (fun x hx => absurd hx (Nat.not_lt_zero x)) hc.1 (hc.2.mono (fun q z => by omega))
  intro j
  induction j with
  | zero =>
    intro i S1 F hi hF hag hG hfr
    have hX1 := h.1.fr hfr (by omega)
    refine ar_ld i_X6_rotate_43 rfl rfl ?_
    refine ar_ld i_X6_rotate_45 rfl rfl ?_
    refine ar_ift i_X6_rotate_47 rfl (nI_le (by omega) (by omega)) ?_
    refine ar_ld i_X6_rotate_92 rfl rfl ?_
    refine ar_ld i_X6_rotate_93 rfl rfl ?_
    refine ar_gf i_X6_rotate_94 (hX1) rfl ?_
    refine ar_cr i_X6_rotate_97 rfl ⟨_, _, _, rfl, hF.obj⟩ (Nat.le_of_ble_eq_true rfl) (w_isSameAs d hF hG) ?_
    have hcg := hF.cg (g := fun i => G r ((i + n) % N r)) (fun x hx => hag x (by omega))
    exact ar_ret i_X6_rotate_100 ((bI_01 _)) ⟨by rw [bI_cg (P' := ∀ i, i < N r → G r ((i + n) % N r) = G r i) ⟨fun z x hx => (hag x (by omega)).symm.trans (z.2 x hx), fun z => ⟨rfl, fun x hx => (hag x (by omega)).trans (z x hx)⟩⟩], hcg, hG, hfr⟩
  | succ j ih =>
    intro i S1 F hi hF hag hG hfr
    have hX1 := h.1.fr hfr (by omega)
    have fin : aG (d + 2) 78 (fun o S' => o = .inl (some (.int (bI (∀ i, i < N r → G r ((i + n) % N r) = G r i)))) ∧ isW S' (6 + 2 * r) (N r) (fun i => G r ((i + n) % N r)) ∧ isW S' 43 (N r) (G r) ∧ aq_fr S S' (fun c => c = 6 + 2 * r + 1 ∨ c = 43 ∨ c = 44)) 80 [(0, .ref 1), (1, .int (nI r)), (2, .int (nI n)), (3, .ref (6 + 2 * r)), (4, .int (nI (N r))), (5, .int (nI i))] [.int (nI ((i + n) % N r)), .ref 43, .int (nI i), .ref (6 + 2 * r)] S1 := by
      refine ar_cr i_X6_rotate_80 rfl ⟨_, _, _, rfl, hG.obj⟩ (Nat.le_of_ble_eq_true rfl) (w_atj (d + 1) hG ((i + n) % N r) (Nat.mod_lt _ (by omega))) ?_
      refine av_cv i_X6_rotate_83 rfl ⟨_, _, _, rfl, hF.obj⟩ (Nat.le_of_ble_eq_true rfl) (w_put (d + 1) hF i (by omega) (G r ((i + n) % N r))) (fun S2 h2 => ?_)
      refine ar_inc i_X6_rotate_86 rfl rfl ?_
      refine ar_go i_X6_rotate_89 ?_
      have := ih (i + 1) S2 (upd F i (G r ((i + n) % N r))) (by omega) h2.1 (fun x hx => by
        by_cases e : x = i
        · rw [e, upd_eq]
        · rw [upd_ne e]; exact hag x (by omega)) (hG.fr h2.2 (by omega) (by omega)) (hfr.tr (h2.2.mono (fun q z => Or.inl z)))
      rw [← nI_1] at this
      exact this
    refine ar_ld i_X6_rotate_43 rfl rfl ?_
    refine ar_ld i_X6_rotate_45 rfl rfl ?_
    refine ar_iff i_X6_rotate_47 rfl (nI_ge (by omega) (by omega)) ?_
    refine ar_ld i_X6_rotate_50 rfl rfl ?_
    refine ar_ld i_X6_rotate_51 rfl rfl ?_
    refine ar_ld i_X6_rotate_53 rfl rfl ?_
    refine ar_gf i_X6_rotate_54 (hX1) rfl ?_
    refine ar_ld i_X6_rotate_57 rfl rfl ?_
    refine ar_ld i_X6_rotate_59 rfl rfl ?_
    refine ar_ar i_X6_rotate_60 rfl ?_
    rw [nI_add]
    refine ar_ld i_X6_rotate_61 rfl rfl ?_
    by_cases hlt : i + n < N r
    · refine ar_iff i_X6_rotate_63 rfl (nI_ge hlt (by omega)) ?_
      refine ar_ld i_X6_rotate_66 rfl rfl ?_
      refine ar_ld i_X6_rotate_68 rfl rfl ?_
      refine ar_ar i_X6_rotate_69 rfl ?_
      rw [nI_add]
      refine ar_go i_X6_rotate_70 ?_
      rw [Nat.mod_eq_of_lt hlt] at fin
      exact fin
    · refine ar_ift i_X6_rotate_63 rfl (nI_le (by omega) (by omega)) ?_
      refine ar_ld i_X6_rotate_73 rfl rfl ?_
      refine ar_ld i_X6_rotate_75 rfl rfl ?_
      refine ar_ar i_X6_rotate_76 rfl ?_
      rw [nI_add]
      refine ar_ld i_X6_rotate_77 rfl rfl ?_
      refine ar_ar i_X6_rotate_79 rfl ?_
      rw [pk_sub (by omega)]
      rw [Nat.mod_eq_sub_mod (by omega), Nat.mod_eq_of_lt (by omega)] at fin
      exact fin
end
