/-! ===== setLetters, snapshots ===== -/
section
theorem x_startWith (d : Nat) {S : aq_S} {k k' c : Nat} {N N' : Nat → Nat} {G G' : Nat → Nat → Int32} {pn pn' : Nat → Nat} {pg pg' : Nat → Nat → Int32} (h : hS S 2 k) (ha : hA S 2) (hw : hWs S 2 N G) (hp : hP S 4 c pn pg) (hN : ∀ r, r < 4 → N' r = 0) : aX (d + 2) 20 [.ref 2, .int (nI k')] S (fun o S' => o = .inl none ∧ (hS S' 2 k' ∧ hWs S' 2 N' G' ∧ hP S' 4 0 pn' pg') ∧ aq_fr S S' (fun q => q = 2 ∨ (4 ≤ q ∧ q ≤ 13))) := by
  obtain ⟨f, hf, hg⟩ := ha
  refine ar_run (Nat.le_of_ble_eq_true rfl) (fun o S1 h => h.2.2.le) ?_
  refine ar_ld i_X2_startWith_0 rfl rfl ?_
  refine ar_ld i_X2_startWith_1 rfl rfl ?_
  refine av_pf i_X2_startWith_2 (h) (Nat.le_of_ble_eq_true rfl) (rfl) rfl (fun S1 g1 k1 => ?_)
  refine ar_ld i_X2_startWith_5 rfl rfl ?_
  refine ar_gf i_X2_startWith_6 (g1) rfl ?_
  have hp1 := hp.fr k1 (by omega) (by omega)
  have hp1' := hp1
  obtain ⟨E0, acc0, hp2, -⟩ := hp1'
  refine av_cv i_X2_startWith_9 rfl ⟨_, _, _, rfl, hp2⟩ (Nat.le_of_ble_eq_true rfl) (p_removeAll d (pn' := pn') (pg' := pg') hp1) (fun S2 h2 => ?_)
  refine ar_push i_X2_startWith_12 ?_
  refine ar_st i_X2_startWith_13 rfl rfl ?_
  have hS2 : hS S2 2 k' := (h2.2.2.2.2 2 (by omega)).trans g1
  have hf2 := (h2.2.2.2.2 3 (by omega)).trans ((k1.2.2.2 3 (by omega)).trans hf)
  have hfr2 : aq_fr S S2 (fun q => q = 2 ∨ (4 ≤ q ∧ q ≤ 13)) := (k1.mono (fun q z => by omega)).tr (h2.2.mono (fun q z => by omega))
  have hw2 : hWs S2 2 N G := fun r hr => ((hw r hr).fr k1 (by omega) (by omega)).fr h2.2 (by omega) (by omega)
  suffices key : ∀ j i (S2 : aq_S) (L3 : List (Nat × Value)), i + j = 4 → (L3 = [] ∨ ∃ v, L3 = [(3, .ref v)]) → hS S2 2 k' → S2.2.2.2 3 = some (.inl (5, (4, .inr (.inr (.inr (.inr f)))))) → hP S2 4 0 pn' pg' → (∀ r, r < i → isW S2 (6 + 2 * r) 0 (G' r)) → (∀ r, i ≤ r → r < 4 → isW S2 (6 + 2 * r) (N r) (G r)) → aq_fr S S2 (fun q => q = 2 ∨ (4 ≤ q ∧ q ≤ 13)) → aG (d + 1) 20 (fun o S' => o = .inl none ∧ (hS S' 2 k' ∧ hWs S' 2 N' G' ∧ hP S' 4 0 pn' pg') ∧ aq_fr S S' (fun q => q = 2 ∨ (4 ≤ q ∧ q ≤ 13))) 14 ((0, .ref 2) :: (1, .int (nI k')) :: (2, .int (nI i)) :: L3) [] S2 from key 4 0 S2 [] (by omega) (Or.inl rfl) hS2 hf2 h2.1 (fun r hr => absurd hr (Nat.not_lt_zero r)) (fun r _ hr => hw2 r hr) hfr2
  intro j
  induction j with
  | zero =>
    intro i S2 L3 hi hL q1 q2 hpp hdn hre hfr
    refine ar_ld i_X2_startWith_14 rfl rfl ?_
    refine ar_ld i_X2_startWith_15 rfl rfl ?_
    refine ar_gf i_X2_startWith_16 (q1) rfl ?_
    refine ar_len i_X2_startWith_19 (by decide) (q2) ?_
    refine ar_ift i_X2_startWith_20 rfl (nI_le (a := 4) (by omega) (by omega)) ?_
    exact ar_retv i_X2_startWith_44 ⟨rfl, ⟨q1, fun r hr => by rw [hN r hr]; exact hdn r (by omega), hpp⟩, hfr⟩
  | succ j ih =>
    intro i S2 L3 hi hL q1 q2 hpp hdn hre hfr
    refine ar_ld i_X2_startWith_14 rfl rfl ?_
    refine ar_ld i_X2_startWith_15 rfl rfl ?_
    refine ar_gf i_X2_startWith_16 (q1) rfl ?_
    refine ar_len i_X2_startWith_19 (by decide) (q2) ?_
    refine ar_iff i_X2_startWith_20 rfl (nI_ge (b := 4) (by omega) (by omega)) ?_
    refine ar_ld i_X2_startWith_23 rfl rfl ?_
    refine ar_gf i_X2_startWith_24 (q1) rfl ?_
    refine ar_ld i_X2_startWith_27 rfl rfl ?_
    refine av_lda i_X2_startWith_28 (q2) (by omega) (by omega) ?_
    rw [hg i (by omega)]
    have hwi := hre i (Nat.le_refl i) (by omega)
    have fin : aG (d + 1) 20 (fun o S' => o = .inl none ∧ (hS S' 2 k' ∧ hWs S' 2 N' G' ∧ hP S' 4 0 pn' pg') ∧ aq_fr S S' (fun q => q = 2 ∨ (4 ≤ q ∧ q ≤ 13))) 30 [(0, .ref 2), (1, .int (nI k')), (2, .int (nI i)), (3, .ref (6 + 2 * i))] [] S2 := by
      refine ar_ld i_X2_startWith_30 rfl rfl ?_
      refine ar_iff i_X2_startWith_31 rfl (id) ?_
      refine ar_ld i_X2_startWith_34 rfl rfl ?_
      refine av_cv i_X2_startWith_35 rfl ⟨_, _, _, rfl, hwi.obj⟩ (Nat.le_of_ble_eq_true rfl) (w_makeEmpty (g' := G' i) d hwi) (fun S3 h3 => ?_)
      refine ar_inc i_X2_startWith_38 rfl rfl ?_
      refine ar_go i_X2_startWith_41 ?_
      have := ih (i + 1) S3 [(3, .ref (6 + 2 * i))] (by omega) (Or.inr ⟨_, rfl⟩) ((h3.2.2.2.2 2 (by omega)).trans q1) ((h3.2.2.2.2 3 (by omega)).trans q2) (hpp.fr h3.2 (by omega) (by omega)) (fun r hr => by
        by_cases e : r = i
        · subst e; exact h3.1
        · exact (hdn r (by omega)).fr h3.2 (by omega) (by omega)) (fun r hr hr4 => (hre r (by omega) hr4).fr h3.2 (by omega) (by omega)) (hfr.tr (h3.2.mono (fun q z => by omega)))
      rw [← nI_1] at this
      exact this
    rcases hL with e | ⟨v, e⟩
    · subst e
      refine ar_st i_X2_startWith_29 rfl rfl ?_
      exact fin
    · subst e
      refine ar_st i_X2_startWith_29 rfl rfl ?_
      exact fin
theorem x_setLetters_no (d : Nat) {S : aq_S} {p : Int32} (hp : p < 1 ∨ nI 4 ≤ p) : aX (d + 3) 67 [.ref 1, .int p] S (fun o S' => o = .inr "java/lang/IllegalArgumentException" ∧ S' = aq_thrown S) := by
  refine ar_run (Nat.le_of_ble_eq_true rfl) (fun o S1 h => aq_le_of (aq_le_thr S) h) ?_
  refine ar_ld i_X6_setLetters_0 rfl rfl ?_
  refine ar_push i_X6_setLetters_1 ?_
  refine ar_if i_X6_setLetters_2 rfl (fun c2 => ?_) (fun c2 => ?_)
  · exact ar_thr i_X6_setLetters_10 (Nat.le_of_ble_eq_true rfl) ⟨rfl, rfl⟩
  · refine ar_ld i_X6_setLetters_5 rfl rfl ?_
    refine ar_push i_X6_setLetters_6 ?_
    refine ar_iff i_X6_setLetters_7 rfl (fun z => absurd (Int32.le_trans (hp.resolve_left c2) z) (by decide +kernel)) ?_
    exact ar_thr i_X6_setLetters_10 (Nat.le_of_ble_eq_true rfl) ⟨rfl, rfl⟩
theorem x_setLetters (d : Nat) {S : aq_S} {k k' c : Nat} {hs : Int32} {N N' : Nat → Nat} {G G' : Nat → Nat → Int32} {pn pn' : Nat → Nat} {pg pg' : Nat → Nat → Int32} (h : hT S k hs) (hw : hWs S 2 N G) (hp : hP S 4 c pn pg) (hk0 : 0 < k') (hk : k' ≤ 3) (hN : ∀ r, r < 4 → N' r = 0) : aX (d + 3) 67 [.ref 1, .int (nI k')] S (fun o S' => o = .inl (some (.int (nI k))) ∧ (hS S' 2 k' ∧ hWs S' 2 N' G' ∧ hP S' 4 0 pn' pg') ∧ aq_fr S S' (fun q => q = 2 ∨ (4 ≤ q ∧ q ≤ 13))) := by
  refine ar_run (Nat.le_of_ble_eq_true rfl) (fun o S1 h => h.2.2.le) ?_
  refine ar_ld i_X6_setLetters_0 rfl rfl ?_
  refine ar_push i_X6_setLetters_1 ?_
  refine ar_iff i_X6_setLetters_2 rfl (nI_nlt (b := 1) hk0 (by omega)) ?_
  refine ar_ld i_X6_setLetters_5 rfl rfl ?_
  refine ar_push i_X6_setLetters_6 ?_
  refine ar_ift i_X6_setLetters_7 rfl (nI_le (b := 3) hk (by omega)) ?_
  refine ar_ld i_X6_setLetters_20 rfl rfl ?_
  refine ar_gf i_X6_setLetters_21 (h.1) rfl ?_
  refine ar_gf i_X6_setLetters_24 (h.2.1) rfl ?_
  refine ar_st i_X6_setLetters_27 rfl rfl ?_
  refine ar_ld i_X6_setLetters_28 rfl rfl ?_
  refine ar_gf i_X6_setLetters_29 (h.1) rfl ?_
  refine ar_ld i_X6_setLetters_32 rfl rfl ?_
  refine av_cv i_X6_setLetters_33 rfl ⟨_, _, _, rfl, h.2.1⟩ (Nat.le_of_ble_eq_true rfl) (x_startWith d (k' := k') (N' := N') (G' := G') (pn' := pn') (pg' := pg') h.2.1 h.2.2 hw hp hN) (fun S2 h2 => ?_)
  refine ar_ld i_X6_setLetters_36 rfl rfl ?_
  exact ar_ret i_X6_setLetters_37 rfl ⟨rfl, h2⟩
theorem p_copyFrom (d : Nat) {S : aq_S} {b b2 c c2 : Nat} {pn pn2 : Nat → Nat} {pg pg2 : Nat → Nat → Int32} (h : hP S b c pn pg) (h' : hP S b2 c2 pn2 pg2) (hb : b ≠ b2 ∧ b + 1 ≠ b2 ∧ b ≠ b2 + 1) : aX (d + 1) 5 [.ref b, .ref b2] S (fun o S' => o = .inl none ∧ hP S' b c2 pn2 pg2 ∧ aq_fr S S' (fun q => q = b ∨ q = b + 1)) := by
  obtain ⟨E, acc, h1, h2, h0, h3, h4⟩ := h
  obtain ⟨E2, acc2, u1, u2, u0, u3, u4⟩ := h'
  refine ar_run (Nat.le_of_ble_eq_true rfl) (fun o S1 h => h.2.2.le) ?_
  refine ar_ld i_X0_copyFrom_0 rfl rfl ?_
  refine ar_ld i_X0_copyFrom_1 rfl rfl ?_
  refine ar_gf i_X0_copyFrom_2 (u1) rfl ?_
  refine av_pf i_X0_copyFrom_5 (h1) (Nat.le_of_ble_eq_true rfl) (rfl) rfl (fun S1 g1 k1 => ?_)
  refine ar_ld i_X0_copyFrom_8 rfl rfl ?_
  refine ar_ld i_X0_copyFrom_9 rfl rfl ?_
  refine ar_gf i_X0_copyFrom_10 ((k1.2.2.2 b2 (by omega)).trans u1) rfl ?_
  refine av_pf i_X0_copyFrom_13 (g1) (Nat.le_of_ble_eq_true rfl) (rfl) rfl (fun S2 g2 k2 => ?_)
  refine ar_push i_X0_copyFrom_16 ?_
  refine ar_st i_X0_copyFrom_17 rfl rfl ?_
  have hfr : aq_fr S S2 (fun q => q = b ∨ q = b + 1) := (k1.tr k2).mono (fun q z => Or.inl z)
  have g3 := (k2.2.2.2 (b + 1) (by omega)).trans ((k1.2.2.2 (b + 1) (by omega)).trans h2)
  suffices key : ∀ j i (S2 : aq_S) (F : Nat → Int64), i + j = 3 → S2.2.2.2 b = some (.inr (0, [.ref (b + 1), .long E2, .int (nI c2)])) → S2.2.2.2 (b + 1) = some (.inl (1, (3, .inr (.inl F)))) → (∀ x, x < i → F x = acc2 x) → aq_fr S S2 (fun q => q = b ∨ q = b + 1) → aG d 5 (fun o S' => o = .inl none ∧ hP S' b c2 pn2 pg2 ∧ aq_fr S S' (fun q => q = b ∨ q = b + 1)) 18 [(0, .ref b), (1, .ref b2), (2, .int (nI i))] [] S2 from key 3 0 S2 acc (by omega) g2 g3 (fun x hx => absurd hx (Nat.not_lt_zero x)) hfr
  intro j
  induction j with
  | zero =>
    intro i S2 F hi q1 q2 hag hf
    refine ar_ld i_X0_copyFrom_18 rfl rfl ?_
    refine ar_ld i_X0_copyFrom_19 rfl rfl ?_
    refine ar_gf i_X0_copyFrom_20 (q1) rfl ?_
    refine ar_len i_X0_copyFrom_23 (by decide) (q2) ?_
    refine ar_ift i_X0_copyFrom_24 rfl (nI_le (a := 3) (by omega) (by omega)) ?_
    exact ar_retv i_X0_copyFrom_54 ⟨rfl, ⟨E2, F, q1, q2, h0, fun l hl t ht => by rw [hag l (by omega)]; exact u3 l hl t ht, u4⟩, hf⟩
  | succ j ih =>
    intro i S2 F hi q1 q2 hag hf
    refine ar_ld i_X0_copyFrom_18 rfl rfl ?_
    refine ar_ld i_X0_copyFrom_19 rfl rfl ?_
    refine ar_gf i_X0_copyFrom_20 (q1) rfl ?_
    refine ar_len i_X0_copyFrom_23 (by decide) (q2) ?_
    refine ar_iff i_X0_copyFrom_24 rfl (nI_ge (b := 3) (by omega) (by omega)) ?_
    refine ar_ld i_X0_copyFrom_27 rfl rfl ?_
    refine ar_ld i_X0_copyFrom_28 rfl rfl ?_
    refine ar_gf i_X0_copyFrom_29 ((hf.2.2.2 b2 (by omega)).trans u1) rfl ?_
    have q3 := (hf.2.2.2 (b2 + 1) (by omega)).trans u2
    refine ar_len i_X0_copyFrom_32 (by decide) (q3) ?_
    refine ar_iff i_X0_copyFrom_33 rfl (nI_ge (b := 3) (by omega) (by omega)) ?_
    refine ar_ld i_X0_copyFrom_36 rfl rfl ?_
    refine ar_gf i_X0_copyFrom_37 (q1) rfl ?_
    refine ar_ld i_X0_copyFrom_40 rfl rfl ?_
    refine ar_ld i_X0_copyFrom_41 rfl rfl ?_
    refine ar_gf i_X0_copyFrom_42 ((hf.2.2.2 b2 (by omega)).trans u1) rfl ?_
    refine ar_ld i_X0_copyFrom_45 rfl rfl ?_
    refine av_ldl i_X0_copyFrom_46 (q3) (by omega) (by omega) ?_
    refine av_stl i_X0_copyFrom_47 (by omega) (q2) (by omega) (by omega) (fun S3 g3 k3 => ?_)
    refine ar_inc i_X0_copyFrom_48 rfl rfl ?_
    refine ar_go i_X0_copyFrom_51 ?_
    have := ih (i + 1) S3 _ (by omega) ((k3.2.2.2 b (by omega)).trans q1) g3 (fun x hx => by
      by_cases e : x = i
      · rw [e, updL_eq]
      · rw [updL_ne e]; exact hag x (by omega)) (hf.tr (k3.mono (fun q z => Or.inr z)))
    rw [← nI_1] at this
    exact this
theorem x_copyStore (d : Nat) {S : aq_S} {b b2 k k2 c c2 : Nat} {N N2 : Nat → Nat} {G G2 : Nat → Nat → Int32} {pn pn2 : Nat → Nat} {pg pg2 : Nat → Nat → Int32} (h : hS S b k) (ha : hA S b) (hw : hWs S b N G) (hp : hP S (b + 2) c pn pg) (h' : hS S b2 k2) (ha' : hA S b2) (hw' : hWs S b2 N2 G2) (hp' : hP S (b2 + 2) c2 pn2 pg2) (hap : b + 11 < b2 ∨ b2 + 11 < b) : aX (d + 3) 21 [.ref b, .ref b2] S (fun o S' => o = .inl none ∧ (hS S' b k2 ∧ hWs S' b N2 G2 ∧ hP S' (b + 2) c2 pn2 pg2) ∧ aq_fr S S' (fun q => q = b ∨ (b + 2 ≤ q ∧ q ≤ b + 11))) := by
  have ha0 := ha
  obtain ⟨f, hf, hg⟩ := ha
  refine ar_run (Nat.le_of_ble_eq_true rfl) (fun o S1 h => h.2.2.le) ?_
  refine ar_ld i_X2_copyFrom_0 rfl rfl ?_
  refine ar_ld i_X2_copyFrom_1 rfl rfl ?_
  refine ar_gf i_X2_copyFrom_2 (h') rfl ?_
  refine av_pf i_X2_copyFrom_5 (h) (Nat.le_of_ble_eq_true rfl) (rfl) rfl (fun S1 g1 k1 => ?_)
  refine ar_ld i_X2_copyFrom_8 rfl rfl ?_
  refine ar_gf i_X2_copyFrom_9 (g1) rfl ?_
  refine ar_ld i_X2_copyFrom_12 rfl rfl ?_
  refine ar_gf i_X2_copyFrom_13 ((k1.2.2.2 b2 (by omega)).trans h') rfl ?_
  have hp1 := hp.fr k1 (by omega) (by omega)
  have hp1' := hp'.fr k1 (by omega) (by omega)
  have hp9 := hp1
  obtain ⟨E0, acc0, hp2, -⟩ := hp9
  refine av_cv i_X2_copyFrom_16 rfl ⟨_, _, _, rfl, hp2⟩ (Nat.le_of_ble_eq_true rfl) (p_copyFrom (d + 1) hp1 hp1' (by omega)) (fun S2 h2 => ?_)
  refine ar_push i_X2_copyFrom_19 ?_
  refine ar_st i_X2_copyFrom_20 rfl rfl ?_
  have hS2 : hS S2 b k2 := (h2.2.2.2.2 b (by omega)).trans g1
  have hf2 := (h2.2.2.2.2 (b + 1) (by omega)).trans ((k1.2.2.2 (b + 1) (by omega)).trans hf)
  have hfr2 : aq_fr S S2 (fun q => q = b ∨ (b + 2 ≤ q ∧ q ≤ b + 11)) := (k1.mono (fun q z => by omega)).tr (h2.2.mono (fun q z => by omega))
  suffices key : ∀ j i (S2 : aq_S) (L3 : List (Nat × Value)), i + j = 4 → (L3 = [] ∨ ∃ v u, L3 = [(3, .ref v), (4, .ref u)]) → hS S2 b k2 → S2.2.2.2 (b + 1) = some (.inl (5, (4, .inr (.inr (.inr (.inr f)))))) → hP S2 (b + 2) c2 pn2 pg2 → (∀ r, r < i → isW S2 (b + 4 + 2 * r) (N2 r) (G2 r)) → (∀ r, i ≤ r → r < 4 → isW S2 (b + 4 + 2 * r) (N r) (G r)) → aq_fr S S2 (fun q => q = b ∨ (b + 2 ≤ q ∧ q ≤ b + 11)) → aG (d + 2) 21 (fun o S' => o = .inl none ∧ (hS S' b k2 ∧ hWs S' b N2 G2 ∧ hP S' (b + 2) c2 pn2 pg2) ∧ aq_fr S S' (fun q => q = b ∨ (b + 2 ≤ q ∧ q ≤ b + 11))) 21 ((0, .ref b) :: (1, .ref b2) :: (2, .int (nI i)) :: L3) [] S2 from key 4 0 S2 [] (by omega) (Or.inl rfl) hS2 hf2 h2.1 (fun r hr => absurd hr (Nat.not_lt_zero r)) (fun r _ hr => ((hw r hr).fr k1 (by omega) (by omega)).fr h2.2 (by omega) (by omega)) hfr2
  intro j
  induction j with
  | zero =>
    intro i S2 L3 hi hL q1 q2 hpp hdn hre hfr
    refine ar_ld i_X2_copyFrom_21 rfl rfl ?_
    refine ar_ld i_X2_copyFrom_22 rfl rfl ?_
    refine ar_gf i_X2_copyFrom_23 (q1) rfl ?_
    refine ar_len i_X2_copyFrom_26 (by decide) (q2) ?_
    refine ar_ift i_X2_copyFrom_27 rfl (nI_le (a := 4) (by omega) (by omega)) ?_
    exact ar_retv i_X2_copyFrom_65 ⟨rfl, ⟨q1, fun r hr => hdn r (by omega), hpp⟩, hfr⟩
  | succ j ih =>
    intro i S2 L3 hi hL q1 q2 hpp hdn hre hfr
    have hwi := hre i (Nat.le_refl i) (by omega)
    have hvi := (hw' i (by omega)).fr hfr (by omega) (by omega)
    have v1 := h'.fr hfr (by omega)
    have v2 := ha'.fr hfr (by omega)
    have fin : aG (d + 2) 21 (fun o S' => o = .inl none ∧ (hS S' b k2 ∧ hWs S' b N2 G2 ∧ hP S' (b + 2) c2 pn2 pg2) ∧ aq_fr S S' (fun q => q = b ∨ (b + 2 ≤ q ∧ q ≤ b + 11))) 44 [(0, .ref b), (1, .ref b2), (2, .int (nI i)), (3, .ref (b + 4 + 2 * i)), (4, .ref (b2 + 4 + 2 * i))] [] S2 := by
      refine ar_ld i_X2_copyFrom_44 rfl rfl ?_
      refine ar_iff i_X2_copyFrom_45 rfl (id) ?_
      refine ar_ld i_X2_copyFrom_48 rfl rfl ?_
      refine ar_iff i_X2_copyFrom_50 rfl (id) ?_
      refine ar_ld i_X2_copyFrom_53 rfl rfl ?_
      refine ar_ld i_X2_copyFrom_54 rfl rfl ?_
      refine av_cv i_X2_copyFrom_56 rfl ⟨_, _, _, rfl, hwi.obj⟩ (Nat.le_of_ble_eq_true rfl) (w_copyFrom d hwi hvi) (fun S3 h3 => ?_)
      refine ar_inc i_X2_copyFrom_59 rfl rfl ?_
      refine ar_go i_X2_copyFrom_62 ?_
      have := ih (i + 1) S3 [(3, .ref (b + 4 + 2 * i)), (4, .ref (b2 + 4 + 2 * i))] (by omega) (Or.inr ⟨_, _, rfl⟩) ((h3.2.2.2.2 b (by omega)).trans q1) ((h3.2.2.2.2 (b + 1) (by omega)).trans q2) (hpp.fr h3.2 (by omega) (by omega)) (fun r hr => by
        by_cases e : r = i
        · subst e; exact h3.1
        · exact (hdn r (by omega)).fr h3.2 (by omega) (by omega)) (fun r hr hr4 => (hre r (by omega) hr4).fr h3.2 (by omega) (by omega)) (hfr.tr (h3.2.mono (fun q z => by omega)))
      rw [← nI_1] at this
      exact this
    refine ar_ld i_X2_copyFrom_21 rfl rfl ?_
    refine ar_ld i_X2_copyFrom_22 rfl rfl ?_
    refine ar_gf i_X2_copyFrom_23 (q1) rfl ?_
    refine ar_len i_X2_copyFrom_26 (by decide) (q2) ?_
    refine ar_iff i_X2_copyFrom_27 rfl (nI_ge (b := 4) (by omega) (by omega)) ?_
    refine ar_ld i_X2_copyFrom_30 rfl rfl ?_
    refine ar_gf i_X2_copyFrom_31 (q1) rfl ?_
    refine ar_ld i_X2_copyFrom_34 rfl rfl ?_
    refine av_lda i_X2_copyFrom_35 (q2) (by omega) (by omega) ?_
    rw [hg i (by omega)]
    rcases hL with e | ⟨v, u, e⟩
    · subst e
      refine ar_st i_X2_copyFrom_36 rfl rfl ?_
      refine ar_ld i_X2_copyFrom_37 rfl rfl ?_
      refine ar_ld i_X2_copyFrom_38 rfl rfl ?_
      refine ar_cr i_X2_copyFrom_39 rfl ⟨_, _, _, rfl, v1⟩ (Nat.le_of_ble_eq_true rfl) (x_wordOrNull (d + 1) v1 v2 (r := i) (by omega)) ?_
      refine ar_st i_X2_copyFrom_42 rfl rfl ?_
      exact fin
    · subst e
      refine ar_st i_X2_copyFrom_36 rfl rfl ?_
      refine ar_ld i_X2_copyFrom_37 rfl rfl ?_
      refine ar_ld i_X2_copyFrom_38 rfl rfl ?_
      refine ar_cr i_X2_copyFrom_39 rfl ⟨_, _, _, rfl, v1⟩ (Nat.le_of_ble_eq_true rfl) (x_wordOrNull (d + 1) v1 v2 (r := i) (by omega)) ?_
      refine ar_st i_X2_copyFrom_42 rfl rfl ?_
      exact fin
theorem x_saveSnapshot (d : Nat) {S : aq_S} {k k2 c c2 : Nat} {hs : Int32} {N N2 : Nat → Nat} {G G2 : Nat → Nat → Int32} {pn pn2 : Nat → Nat} {pg pg2 : Nat → Nat → Int32} (h : hT S k hs) (hw : hWs S 2 N G) (hp : hP S 4 c pn pg) (h' : hS S 14 k2) (ha' : hA S 14) (hw' : hWs S 14 N2 G2) (hp' : hP S 16 c2 pn2 pg2) : aX (d + 4) 108 [.ref 1] S (fun o S' => o = .inl (some (.int (nI c))) ∧ (hX S' 1 ∧ hS S' 14 k ∧ hWs S' 14 N G ∧ hP S' 16 c pn pg) ∧ aq_fr S S' (fun q => q = 1 ∨ q = 14 ∨ (16 ≤ q ∧ q ≤ 25))) := by
  refine ar_run (Nat.le_of_ble_eq_true rfl) (fun o S1 h => h.2.2.le) ?_
  refine ar_ld i_X6_saveSnapshot_0 rfl rfl ?_
  refine ar_gf i_X6_saveSnapshot_1 (h.1) rfl ?_
  refine ar_ld i_X6_saveSnapshot_4 rfl rfl ?_
  refine ar_gf i_X6_saveSnapshot_5 (h.1) rfl ?_
  refine av_cv i_X6_saveSnapshot_8 rfl ⟨_, _, _, rfl, h'⟩ (Nat.le_of_ble_eq_true rfl) (x_copyStore d h' ha' hw' hp' h.2.1 h.2.2 hw hp (by omega)) (fun S2 h2 => ?_)
  have hT2 := h.fr h2.2 (by omega)
  refine ar_ld i_X6_saveSnapshot_11 rfl rfl ?_
  refine ar_push i_X6_saveSnapshot_12 ?_
  refine av_pf i_X6_saveSnapshot_13 (hT2.1) (Nat.le_of_ble_eq_true rfl) (Or.inr rfl) rfl (fun S3 g3 k3 => ?_)
  refine ar_ld i_X6_saveSnapshot_16 rfl rfl ?_
  refine ar_gf i_X6_saveSnapshot_17 (g3) rfl ?_
  refine ar_gf i_X6_saveSnapshot_20 ((k3.2.2.2 2 (by omega)).trans hT2.2.1) rfl ?_
  have hp3 := (hp.fr h2.2 (by omega) (by omega)).fr k3 (by omega) (by omega)
  have hp9 := hp3
  obtain ⟨E0, acc0, hp2, -⟩ := hp9
  refine ar_cr i_X6_saveSnapshot_23 rfl ⟨_, _, _, rfl, hp2⟩ (Nat.le_of_ble_eq_true rfl) (p_count (d + 2) hp3) ?_
  exact ar_ret i_X6_saveSnapshot_26 rfl ⟨rfl, ⟨g3, h2.1.1.fr k3 (by omega), fun r hr => (h2.1.2.1 r hr).fr k3 (by omega) (by omega), h2.1.2.2.fr k3 (by omega) (by omega)⟩, (h2.2.mono (fun q z => by omega)).tr (k3.mono (fun q z => Or.inl z))⟩
theorem x_restoreSnapshot_no (d : Nat) {S : aq_S} {k : Nat} (h : hT S k 0) : aX (d + 4) 109 [.ref 1] S (fun o S' => o = .inr "java/lang/IllegalStateException" ∧ S' = aq_thrown S) := by
  refine ar_run (Nat.le_of_ble_eq_true rfl) (fun o S1 h => aq_le_of (aq_le_thr S) h) ?_
  refine ar_ld i_X6_restoreSnapshot_0 rfl rfl ?_
  refine ar_gf i_X6_restoreSnapshot_1 (h.1) rfl ?_
  refine ar_iff i_X6_restoreSnapshot_4 rfl (fun z => z rfl) ?_
  exact ar_thr i_X6_restoreSnapshot_7 (Nat.le_of_ble_eq_true rfl) ⟨rfl, rfl⟩
theorem x_restoreSnapshot (d : Nat) {S : aq_S} {k k2 c c2 : Nat} {N N2 : Nat → Nat} {G G2 : Nat → Nat → Int32} {pn pn2 : Nat → Nat} {pg pg2 : Nat → Nat → Int32} (h : hT S k 1) (hw : hWs S 2 N G) (hp : hP S 4 c pn pg) (h' : hS S 14 k2) (ha' : hA S 14) (hw' : hWs S 14 N2 G2) (hp' : hP S 16 c2 pn2 pg2) : aX (d + 4) 109 [.ref 1] S (fun o S' => o = .inl (some (.int (nI c2))) ∧ (hS S' 2 k2 ∧ hWs S' 2 N2 G2 ∧ hP S' 4 c2 pn2 pg2) ∧ aq_fr S S' (fun q => q = 2 ∨ (4 ≤ q ∧ q ≤ 13))) := by
  refine ar_run (Nat.le_of_ble_eq_true rfl) (fun o S1 h => h.2.2.le) ?_
  refine ar_ld i_X6_restoreSnapshot_0 rfl rfl ?_
  refine ar_gf i_X6_restoreSnapshot_1 (h.1) rfl ?_
  refine ar_ift i_X6_restoreSnapshot_4 rfl (by decide) ?_
  refine ar_ld i_X6_restoreSnapshot_18 rfl rfl ?_
  refine ar_gf i_X6_restoreSnapshot_19 (h.1) rfl ?_
  refine ar_ld i_X6_restoreSnapshot_22 rfl rfl ?_
  refine ar_gf i_X6_restoreSnapshot_23 (h.1) rfl ?_
  refine av_cv i_X6_restoreSnapshot_26 rfl ⟨_, _, _, rfl, h.2.1⟩ (Nat.le_of_ble_eq_true rfl) (x_copyStore d h.2.1 h.2.2 hw hp h' ha' hw' hp' (by omega)) (fun S2 h2 => ?_)
  refine ar_ld i_X6_restoreSnapshot_29 rfl rfl ?_
  refine ar_gf i_X6_restoreSnapshot_30 (h.1.fr h2.2 (by omega)) rfl ?_
  refine ar_gf i_X6_restoreSnapshot_33 (h2.1.1) rfl ?_
  have hp9 := h2.1.2.2
  obtain ⟨E0, acc0, hp2, -⟩ := hp9
  refine ar_cr i_X6_restoreSnapshot_36 rfl ⟨_, _, _, rfl, hp2⟩ (Nat.le_of_ble_eq_true rfl) (p_count (d + 2) h2.1.2.2) ?_
  exact ar_ret i_X6_restoreSnapshot_39 rfl ⟨rfl, h2⟩
end
