/-! ===== the class: newRow, fillDensities, takeRemainder, elementBits ===== -/
section
theorem x_newRow_r (d : Nat) {S : aq_S} {p t s hs : Int32} (h : hX S hs) (ha : hRA S) (hp : p < 0 ∨ nI 2 ≤ p) : aX (d + 2) 104 [.ref 1, .int p, .int t, .int s] S (fun o S' => o = .inr "java/lang/IllegalArgumentException" ∧ S' = aq_thrown S) := by
  refine ar_run (Nat.le_of_ble_eq_true rfl) (fun o S1 h => aq_le_of (aq_le_thr S) h) ?_
  refine ar_ld i_X6_newRow_0 rfl rfl ?_
  refine ar_ld i_X6_newRow_1 rfl rfl ?_
  exact av_cx i_X6_newRow_2 rfl ⟨_, _, _, rfl, (h)⟩ (Nat.le_of_ble_eq_true rfl) (x_rowAt_no d h ha hp) (fun S1 h => ⟨rfl, h⟩)
theorem x_newRow_t (d : Nat) {S : aq_S} {r : Nat} {t s hs : Int32} (h : hX S hs) (ha : hRA S) (hr : r < 2) (hb : ¬ ((0 ≤ t ∧ t ≤ 1) ∧ (0 ≤ s ∧ s ≤ 41))) : aX (d + 2) 104 [.ref 1, .int (nI r), .int t, .int s] S (fun o S' => o = .inr "java/lang/IllegalArgumentException" ∧ S' = aq_thrown S) := by
  refine ar_run (Nat.le_of_ble_eq_true rfl) (fun o S1 h => aq_le_of (aq_le_thr S) h) ?_
  refine ar_ld i_X6_newRow_0 rfl rfl ?_
  refine ar_ld i_X6_newRow_1 rfl rfl ?_
  refine ar_cr i_X6_newRow_2 rfl ⟨_, _, _, rfl, (h)⟩ (Nat.le_of_ble_eq_true rfl) (x_rowAt d h ha hr) ?_
  refine ar_st i_X6_newRow_5 rfl rfl ?_
  refine ar_ld i_X6_newRow_7 rfl rfl ?_
  refine ar_if i_X6_newRow_8 rfl (fun c8 => ?_) (fun c8 => ?_)
  · exact ar_thr i_X6_newRow_16 (Nat.le_of_ble_eq_true rfl) ⟨rfl, rfl⟩
  · refine ar_ld i_X6_newRow_11 rfl rfl ?_
    refine ar_push i_X6_newRow_12 ?_
    refine ar_if i_X6_newRow_13 rfl (fun c13 => ?_) (fun c13 => ?_)
    · refine ar_ld i_X6_newRow_27 rfl rfl ?_
      refine ar_if i_X6_newRow_28 rfl (fun c28 => ?_) (fun c28 => ?_)
      · exact ar_thr i_X6_newRow_37 (Nat.le_of_ble_eq_true rfl) ⟨rfl, rfl⟩
      · refine ar_ld i_X6_newRow_31 rfl rfl ?_
        refine ar_push i_X6_newRow_32 ?_
        refine ar_iff i_X6_newRow_34 rfl (fun z => hb ⟨⟨Int32.not_lt.mp c8, c13⟩, Int32.not_lt.mp c28, z⟩) ?_
        exact ar_thr i_X6_newRow_37 (Nat.le_of_ble_eq_true rfl) ⟨rfl, rfl⟩
    · exact ar_thr i_X6_newRow_16 (Nat.le_of_ble_eq_true rfl) ⟨rfl, rfl⟩
theorem x_newRow (d : Nat) {S : aq_S} {r s sz : Nat} {t hs ty : Int32} {v : Nat → UInt64} (h : hX S hs) (ha : hRA S) (hw : hRow S (48 + 2 * r) ty sz v) (hr : r < 2) (ht : t = 0 ∨ t = 1) (hsz : s ≤ 41) : aX (d + 2) 104 [.ref 1, .int (nI r), .int t, .int (nI s)] S (fun o S' => o = .inl (some (.int (nI s))) ∧ hRow S' (48 + 2 * r) t s (fun _ => 0) ∧ aq_fr S S' (fun q => q = 48 + 2 * r ∨ q = 48 + 2 * r + 1)) := by
  refine ar_run (Nat.le_of_ble_eq_true rfl) (fun o S1 h => h.2.2.le) ?_
  refine ar_ld i_X6_newRow_0 rfl rfl ?_
  refine ar_ld i_X6_newRow_1 rfl rfl ?_
  refine ar_cr i_X6_newRow_2 rfl ⟨_, _, _, rfl, (h)⟩ (Nat.le_of_ble_eq_true rfl) (x_rowAt d h ha hr) ?_
  refine ar_st i_X6_newRow_5 rfl rfl ?_
  refine ar_ld i_X6_newRow_7 rfl rfl ?_
  have ht0 : ¬ t < 0 := by rcases ht with e | e <;> rw [e] <;> decide
  have ht1 : t ≤ 1 := by rcases ht with e | e <;> rw [e] <;> decide
  have htm : ¬ t = -1 := by rcases ht with e | e <;> rw [e] <;> decide
  refine ar_iff i_X6_newRow_8 rfl (ht0) ?_
  refine ar_ld i_X6_newRow_11 rfl rfl ?_
  refine ar_push i_X6_newRow_12 ?_
  refine ar_ift i_X6_newRow_13 rfl (ht1) ?_
  refine ar_ld i_X6_newRow_27 rfl rfl ?_
  refine ar_iff i_X6_newRow_28 rfl (nI_pos (by omega)) ?_
  refine ar_ld i_X6_newRow_31 rfl rfl ?_
  refine ar_push i_X6_newRow_32 ?_
  refine ar_ift i_X6_newRow_34 rfl (nI_le (b := 41) hsz (by omega)) ?_
  refine ar_ld i_X6_newRow_48 rfl rfl ?_
  refine ar_ld i_X6_newRow_50 rfl rfl ?_
  refine ar_push i_X6_newRow_51 ?_
  have fin : ∀ b, b = bI (t = 1) → aG (d + 1) 104 (fun o S' => o = .inl (some (.int (nI s))) ∧ hRow S' (48 + 2 * r) t s (fun _ => 0) ∧ aq_fr S S' (fun q => q = 48 + 2 * r ∨ q = 48 + 2 * r + 1)) 60 [(0, .ref 1), (1, .int (nI r)), (2, .int t), (3, .int (nI s)), (4, .ref (48 + 2 * r))] [.int b, .ref (48 + 2 * r)] S := by
    intro b hb
    refine ar_ld i_X6_newRow_60 rfl rfl ?_
    refine av_cv i_X6_newRow_61 rfl ⟨_, _, _, rfl, hw.1⟩ (Nat.le_of_ble_eq_true rfl) (r_renew d hw hsz hb htm) (fun S2 q2 => ?_)
    refine ar_ld i_X6_newRow_64 rfl rfl ?_
    exact ar_ret i_X6_newRow_65 rfl ⟨rfl, q2⟩
  rcases ht with e | e
  · subst e
    refine ar_ift i_X6_newRow_52 rfl (by decide) ?_
    refine ar_push i_X6_newRow_59 ?_
    exact fin 0 (bI_f (by decide)).symm
  · subst e
    refine ar_iff i_X6_newRow_52 rfl (fun z => z rfl) ?_
    refine ar_push i_X6_newRow_55 ?_
    refine ar_go i_X6_newRow_56 ?_
    exact fin 1 (bI_t rfl).symm
theorem x_fillDensities_r (d : Nat) {S : aq_S} {p q hs : Int32} (h : hX S hs) (ha : hRA S) (hp : p < 0 ∨ nI 2 ≤ p) : aX (d + 2) 105 [.ref 1, .int p, .int q] S (fun o S' => o = .inr "java/lang/IllegalArgumentException" ∧ S' = aq_thrown S) := by
  refine ar_run (Nat.le_of_ble_eq_true rfl) (fun o S1 h => aq_le_of (aq_le_thr S) h) ?_
  refine ar_ld i_X6_fillDensities_0 rfl rfl ?_
  refine ar_ld i_X6_fillDensities_1 rfl rfl ?_
  exact av_cx i_X6_fillDensities_2 rfl ⟨_, _, _, rfl, (h)⟩ (Nat.le_of_ble_eq_true rfl) (x_rowAt_no d h ha hp) (fun S1 h => ⟨rfl, h⟩)
theorem x_fillDensities_q (d : Nat) {S : aq_S} {r k : Nat} {q hs : Int32} (h : hT S k hs) (ha : hRA S) (hr : r < 2) (hq : q < 0 ∨ nI 4 ≤ q) : aX (d + 3) 105 [.ref 1, .int (nI r), .int q] S (fun o S' => o = .inr "java/lang/IllegalArgumentException" ∧ S' = aq_thrown S) := by
  refine ar_run (Nat.le_of_ble_eq_true rfl) (fun o S1 h => aq_le_of (aq_le_thr S) h) ?_
  refine ar_ld i_X6_fillDensities_0 rfl rfl ?_
  refine ar_ld i_X6_fillDensities_1 rfl rfl ?_
  refine ar_cr i_X6_fillDensities_2 rfl ⟨_, _, _, rfl, (h.1)⟩ (Nat.le_of_ble_eq_true rfl) (x_rowAt (d + 1) h.1 ha hr) ?_
  refine ar_st i_X6_fillDensities_5 rfl rfl ?_
  refine ar_ld i_X6_fillDensities_6 rfl rfl ?_
  refine ar_ld i_X6_fillDensities_7 rfl rfl ?_
  exact av_cx i_X6_fillDensities_8 rfl ⟨_, _, _, rfl, (h.1)⟩ (Nat.le_of_ble_eq_true rfl) (x_wordIn_no d h hq) (fun S1 h => ⟨rfl, h⟩)
theorem x_fillDensities_n (d : Nat) {S : aq_S} {r q k sz : Nat} {hs ty : Int32} {v : Nat → UInt64} {N : Nat → Nat} {G : Nat → Nat → Int32} (h : hT S k hs) (ha : hRA S) (hw : hRow S (48 + 2 * r) ty sz v) (hW : hWs S 2 N G) (hr : r < 2) (hq : q < 4) (hb : ty = -1 ∨ sz < N q) : aX (d + 3) 105 [.ref 1, .int (nI r), .int (nI q)] S (fun o S' => o = .inr "java/lang/IllegalStateException" ∧ S' = aq_thrown S) := by
  have hwq := hW q hq
  have hn := hwq.le
  refine ar_run (Nat.le_of_ble_eq_true rfl) (fun o S1 h => aq_le_of (aq_le_thr S) h) ?_
  refine ar_ld i_X6_fillDensities_0 rfl rfl ?_
  refine ar_ld i_X6_fillDensities_1 rfl rfl ?_
  refine ar_cr i_X6_fillDensities_2 rfl ⟨_, _, _, rfl, (h.1)⟩ (Nat.le_of_ble_eq_true rfl) (x_rowAt (d + 1) h.1 ha hr) ?_
  refine ar_st i_X6_fillDensities_5 rfl rfl ?_
  refine ar_ld i_X6_fillDensities_6 rfl rfl ?_
  refine ar_ld i_X6_fillDensities_7 rfl rfl ?_
  refine ar_cr i_X6_fillDensities_8 rfl ⟨_, _, _, rfl, (h.1)⟩ (Nat.le_of_ble_eq_true rfl) (x_wordIn d h hq) ?_
  refine ar_st i_X6_fillDensities_11 rfl rfl ?_
  refine ar_ld i_X6_fillDensities_13 rfl rfl ?_
  by_cases ht : ty = -1
  · exact av_cx i_X6_fillDensities_14 rfl trivial (Nat.le_of_ble_eq_true rfl) (x_requireRow_no d hw ht) (fun S1 h => ⟨rfl, h⟩)
  · refine ar_cv i_X6_fillDensities_14 rfl trivial (Nat.le_of_ble_eq_true rfl) (x_requireRow d hw ht) ?_
    refine ar_ld i_X6_fillDensities_17 rfl rfl ?_
    refine ar_cr i_X6_fillDensities_18 rfl ⟨_, _, _, rfl, hw.1⟩ (Nat.le_of_ble_eq_true rfl) (r_size (d + 1) hw) ?_
    refine ar_ld i_X6_fillDensities_21 rfl rfl ?_
    refine ar_cr i_X6_fillDensities_23 rfl ⟨_, _, _, rfl, hwq.obj⟩ (Nat.le_of_ble_eq_true rfl) (w_size (d + 1) hwq) ?_
    refine ar_iff i_X6_fillDensities_26 rfl (nI_ge (hb.resolve_left ht) (by omega)) ?_
    exact ar_thr i_X6_fillDensities_29 (Nat.le_of_ble_eq_true rfl) ⟨rfl, rfl⟩
theorem x_fillDensities (d : Nat) {S : aq_S} {r q k sz : Nat} {hs ty : Int32} {v : Nat → UInt64} {N : Nat → Nat} {G : Nat → Nat → Int32} (h : hT S k hs) (ha : hRA S) (hw : hRow S (48 + 2 * r) ty sz v) (hW : hWs S 2 N G) (hr : r < 2) (hq : q < 4) (ht : ¬ ty = -1) (hsz : N q ≤ sz) : aX (d + 5) 105 [.ref 1, .int (nI r), .int (nI q)] S (fun o S' => o = .inl (some (.int (nI (N q)))) ∧ hRow S' (48 + 2 * r) ty sz (fun i => if i < N q then dq ty (wholes (G q) (i + 1)) (i + 1) (fper 1 (N q) (G q)) else v i) ∧ aq_fr S S' (fun c => c = 48 + 2 * r + 1)) := by
  have hwq := hW q hq
  have hn := hwq.le
  have hpl := fper_le 1 (N q) (G q)
  have hp0 : 0 < N q → 0 < fper 1 (N q) (G q) := fun z => by
    have e : fper 1 (N q) (G q) = leastP (perV 1 (N q) (G q)) (N q - 1) 1 := if_neg (by omega)
    rw [e]
    exact leastP_ge (N q - 1) 1
  refine ar_run (Nat.le_of_ble_eq_true rfl) (fun o S1 h => h.2.2.le) ?_
  refine ar_ld i_X6_fillDensities_0 rfl rfl ?_
  refine ar_ld i_X6_fillDensities_1 rfl rfl ?_
  refine ar_cr i_X6_fillDensities_2 rfl ⟨_, _, _, rfl, (h.1)⟩ (Nat.le_of_ble_eq_true rfl) (x_rowAt (d + 3) h.1 ha hr) ?_
  refine ar_st i_X6_fillDensities_5 rfl rfl ?_
  refine ar_ld i_X6_fillDensities_6 rfl rfl ?_
  refine ar_ld i_X6_fillDensities_7 rfl rfl ?_
  refine ar_cr i_X6_fillDensities_8 rfl ⟨_, _, _, rfl, (h.1)⟩ (Nat.le_of_ble_eq_true rfl) (x_wordIn (d + 2) h hq) ?_
  refine ar_st i_X6_fillDensities_11 rfl rfl ?_
  refine ar_ld i_X6_fillDensities_13 rfl rfl ?_
  refine ar_cv i_X6_fillDensities_14 rfl trivial (Nat.le_of_ble_eq_true rfl) (x_requireRow (d + 2) hw ht) ?_
  refine ar_ld i_X6_fillDensities_17 rfl rfl ?_
  refine ar_cr i_X6_fillDensities_18 rfl ⟨_, _, _, rfl, hw.1⟩ (Nat.le_of_ble_eq_true rfl) (r_size (d + 3) hw) ?_
  refine ar_ld i_X6_fillDensities_21 rfl rfl ?_
  refine ar_cr i_X6_fillDensities_23 rfl ⟨_, _, _, rfl, hwq.obj⟩ (Nat.le_of_ble_eq_true rfl) (w_size (d + 3) hwq) ?_
  refine ar_ift i_X6_fillDensities_26 rfl (nI_le hsz (by have := hw.2.2.1; omega)) ?_
  refine ar_ld i_X6_fillDensities_40 rfl rfl ?_
  refine ar_push i_X6_fillDensities_42 ?_
  refine ar_cr i_X6_fillDensities_43 rfl ⟨_, _, _, rfl, hwq.obj⟩ (Nat.le_of_ble_eq_true rfl) (w_firstPeriod d hwq 1) ?_
  refine ar_st i_X6_fillDensities_46 rfl rfl ?_
  refine ar_push i_X6_fillDensities_48 ?_
  refine ar_st i_X6_fillDensities_49 rfl rfl ?_
  refine ar_push i_X6_fillDensities_51 ?_
  refine ar_st i_X6_fillDensities_52 rfl rfl ?_
  suffices key : ∀ j i (S1 : aq_S) (v1 : Nat → UInt64), i + j = N q → isW S1 (6 + 2 * q) (N q) (G q) → hRow S1 (48 + 2 * r) ty sz v1 → (∀ x, x < 41 → v1 x = if x < i then dq ty (wholes (G q) (x + 1)) (x + 1) (fper 1 (N q) (G q)) else v x) → aq_fr S S1 (fun c => c = 48 + 2 * r + 1) → aG (d + 4) 105 (fun o S' => o = .inl (some (.int (nI (N q)))) ∧ hRow S' (48 + 2 * r) ty sz (fun i => if i < N q then dq ty (wholes (G q) (i + 1)) (i + 1) (fper 1 (N q) (G q)) else v i) ∧ aq_fr S S' (fun c => c = 48 + 2 * r + 1)) 54 [(0, .ref 1), (1, .int (nI r)), (2, .int (nI q)), (3, .ref (48 + 2 * r)), (4, .ref (6 + 2 * q)), (5, .int (nI (fper 1 (N q) (G q)))), (6, .int (nI (wholes (G q) i))), (7, .int (nI (i + 1)))] [] S1 from key (N q) 0 S v (by omega) hwq hw (fun x hx => (if_neg (Nat.not_lt_zero x)).symm) aq_fr.rf
  intro j
  induction j with
  | zero =>
    intro i S1 v1 hi hq1 hw1 hag hfr
    have ei : i = N q := by omega
    refine ar_ld i_X6_fillDensities_54 rfl rfl ?_
    refine ar_ld i_X6_fillDensities_56 rfl rfl ?_
    refine ar_cr i_X6_fillDensities_58 rfl ⟨_, _, _, rfl, hq1.obj⟩ (Nat.le_of_ble_eq_true rfl) (w_size (d + 3) hq1) ?_
    refine ar_ift i_X6_fillDensities_61 rfl (nI_lt (by omega) (by omega)) ?_
    refine ar_ld i_X6_fillDensities_100 rfl rfl ?_
    refine ar_cr i_X6_fillDensities_102 rfl ⟨_, _, _, rfl, hq1.obj⟩ (Nat.le_of_ble_eq_true rfl) (w_size (d + 3) hq1) ?_
    refine ar_ret i_X6_fillDensities_105 rfl ⟨rfl, ?_, hfr⟩
    obtain ⟨b1, b2, b3, f, b4, b5⟩ := hw1
    refine ⟨b1, b2, b3, f, b4, fun x hx => ?_⟩
    rw [b5 x hx, hag x hx, ei]
  | succ j ih =>
    intro i S1 v1 hi hq1 hw1 hag hfr
    have hwl := wholes_le (G q) (i + 1)
    have hfp := hp0 (by omega)
    refine ar_ld i_X6_fillDensities_54 rfl rfl ?_
    refine ar_ld i_X6_fillDensities_56 rfl rfl ?_
    refine ar_cr i_X6_fillDensities_58 rfl ⟨_, _, _, rfl, hq1.obj⟩ (Nat.le_of_ble_eq_true rfl) (w_size (d + 3) hq1) ?_
    refine ar_iff i_X6_fillDensities_61 rfl (nI_nlt (show i + 1 ≤ N q by omega) (by omega)) ?_
    refine ar_ld i_X6_fillDensities_64 rfl rfl ?_
    refine ar_ld i_X6_fillDensities_66 rfl rfl ?_
    refine ar_push i_X6_fillDensities_68 ?_
    refine ar_ar i_X6_fillDensities_69 rfl ?_
    rw [nI_pred]
    refine ar_cr i_X6_fillDensities_70 rfl ⟨_, _, _, rfl, hq1.obj⟩ (Nat.le_of_ble_eq_true rfl) (w_atj (d + 3) hq1 i (by omega)) ?_
    refine ar_push i_X6_fillDensities_73 ?_
    have fin : aG (d + 4) 105 (fun o S' => o = .inl (some (.int (nI (N q)))) ∧ hRow S' (48 + 2 * r) ty sz (fun i => if i < N q then dq ty (wholes (G q) (i + 1)) (i + 1) (fper 1 (N q) (G q)) else v i) ∧ aq_fr S S' (fun c => c = 48 + 2 * r + 1)) 80 [(0, .ref 1), (1, .int (nI r)), (2, .int (nI q)), (3, .ref (48 + 2 * r)), (4, .ref (6 + 2 * q)), (5, .int (nI (fper 1 (N q) (G q)))), (6, .int (nI (wholes (G q) (i + 1)))), (7, .int (nI (i + 1)))] [] S1 := by
      refine ar_ld i_X6_fillDensities_80 rfl rfl ?_
      refine ar_ld i_X6_fillDensities_81 rfl rfl ?_
      refine ar_push i_X6_fillDensities_83 ?_
      refine ar_ar i_X6_fillDensities_84 rfl ?_
      rw [nI_pred]
      refine ar_ld i_X6_fillDensities_85 rfl rfl ?_
      refine ar_ld i_X6_fillDensities_87 rfl rfl ?_
      refine ar_ld i_X6_fillDensities_89 rfl rfl ?_
      refine av_cv i_X6_fillDensities_91 rfl ⟨_, _, _, rfl, hw1.1⟩ (Nat.le_of_ble_eq_true rfl) (r_putQuotient (d + 2) hw1 hwl (show i < 40 by omega) hfp (by omega)) (fun S2 q2 => ?_)
      refine ar_inc i_X6_fillDensities_94 rfl rfl ?_
      refine ar_go i_X6_fillDensities_97 ?_
      have := ih (i + 1) S2 _ (by omega) (hq1.fr q2.2 (by omega) (by omega)) q2.1 (fun x hx => by
        by_cases e : x = i
        · rw [e, vf_upd_eq, if_pos (by omega)]
        · rw [vf_upd_ne e, hag x hx]
          by_cases e2 : x < i
          · rw [if_pos e2, if_pos (by omega)]
          · rw [if_neg e2, if_neg (by omega)]) (hfr.tr q2.2)
      rw [← nI_1 (i + 1)] at this
      exact this
    by_cases c : G q i = -1
    · refine ar_iff i_X6_fillDensities_74 rfl (fun z => z c) ?_
      refine ar_inc i_X6_fillDensities_77 rfl rfl ?_
      rw [wholes_y c, ← nI_1 (wholes (G q) i)] at fin
      exact fin
    · refine ar_ift i_X6_fillDensities_74 rfl (c) ?_
      rw [wholes_n c] at fin
      exact fin
/-- what takeRemainder answers -/
def tR (x : UInt64) : Int32 := FP.d2i (FP.dmul x 4696837146684686336)
theorem dU.fin {a : UInt64} {n : Nat} (h : dU a n) : FP.Core.DFin a := by
  obtain ⟨c, i, h1, -⟩ := h
  exact ⟨_, _, _, h1⟩
theorem mil_vf {a : UInt64} {n : Nat} (h : dU a n) : vf_n64 (FP.dmul a 4696837146684686336) := vf_of ((FP.Core.notNaN_iff _).mp (FP.Core.dmul_out h.fin ((FP.Core.fin_bits _).mpr (by decide))))
theorem x_takeRemainder_r (d : Nat) {S : aq_S} {p i j hs : Int32} (h : hX S hs) (ha : hRA S) (hp : p < 0 ∨ nI 2 ≤ p) : aX (d + 2) 106 [.ref 1, .int p, .int i, .int j] S (fun o S' => o = .inr "java/lang/IllegalArgumentException" ∧ S' = aq_thrown S) := by
  refine ar_run (Nat.le_of_ble_eq_true rfl) (fun o S1 h => aq_le_of (aq_le_thr S) h) ?_
  refine ar_ld i_X6_takeRemainder_0 rfl rfl ?_
  refine ar_ld i_X6_takeRemainder_1 rfl rfl ?_
  exact av_cx i_X6_takeRemainder_2 rfl ⟨_, _, _, rfl, (h)⟩ (Nat.le_of_ble_eq_true rfl) (x_rowAt_no d h ha hp) (fun S1 h => ⟨rfl, h⟩)
theorem x_takeRemainder_m (d : Nat) {S : aq_S} {r sz : Nat} {i j hs ty : Int32} {v : Nat → UInt64} (h : hX S hs) (ha : hRA S) (hw : hRow S (48 + 2 * r) ty sz v) (hr : r < 2) (ht : ty = -1) : aX (d + 3) 106 [.ref 1, .int (nI r), .int i, .int j] S (fun o S' => o = .inr "java/lang/IllegalStateException" ∧ S' = aq_thrown S) := by
  refine ar_run (Nat.le_of_ble_eq_true rfl) (fun o S1 h => aq_le_of (aq_le_thr S) h) ?_
  refine ar_ld i_X6_takeRemainder_0 rfl rfl ?_
  refine ar_ld i_X6_takeRemainder_1 rfl rfl ?_
  refine ar_cr i_X6_takeRemainder_2 rfl ⟨_, _, _, rfl, (h)⟩ (Nat.le_of_ble_eq_true rfl) (x_rowAt (d + 1) h ha hr) ?_
  refine ar_st i_X6_takeRemainder_5 rfl rfl ?_
  refine ar_ld i_X6_takeRemainder_7 rfl rfl ?_
  exact av_cx i_X6_takeRemainder_9 rfl trivial (Nat.le_of_ble_eq_true rfl) (x_requireRow_no d hw ht) (fun S1 h => ⟨rfl, h⟩)
theorem x_takeRemainder_i (d : Nat) {S : aq_S} {r sz : Nat} {i j hs ty : Int32} {v : Nat → UInt64} (h : hX S hs) (ha : hRA S) (hw : hRow S (48 + 2 * r) ty sz v) (hr : r < 2) (ht : ¬ ty = -1) (hb : (i < 0 ∨ nI sz ≤ i) ∨ (j < 0 ∨ nI sz ≤ j)) : aX (d + 3) 106 [.ref 1, .int (nI r), .int i, .int j] S (fun o S' => o = .inr "java/lang/IndexOutOfBoundsException" ∧ S' = aq_thrown S) := by
  have h41 := hw.2.2.1
  refine ar_run (Nat.le_of_ble_eq_true rfl) (fun o S1 h => aq_le_of (aq_le_thr S) h) ?_
  refine ar_ld i_X6_takeRemainder_0 rfl rfl ?_
  refine ar_ld i_X6_takeRemainder_1 rfl rfl ?_
  refine ar_cr i_X6_takeRemainder_2 rfl ⟨_, _, _, rfl, (h)⟩ (Nat.le_of_ble_eq_true rfl) (x_rowAt (d + 1) h ha hr) ?_
  refine ar_st i_X6_takeRemainder_5 rfl rfl ?_
  refine ar_ld i_X6_takeRemainder_7 rfl rfl ?_
  refine ar_cv i_X6_takeRemainder_9 rfl trivial (Nat.le_of_ble_eq_true rfl) (x_requireRow d hw ht) ?_
  refine ar_ld i_X6_takeRemainder_12 rfl rfl ?_
  refine ar_ld i_X6_takeRemainder_14 rfl rfl ?_
  by_cases hi : i < 0 ∨ nI sz ≤ i
  · exact av_cx i_X6_takeRemainder_15 rfl trivial (Nat.le_of_ble_eq_true rfl) (x_requireElement_no d hw hi) (fun S1 h => ⟨rfl, h⟩)
  · obtain ⟨i', hi', rfl⟩ : ∃ x, x < sz ∧ i = nI x := by
      rcases pk_ix i (n := sz) (by omega) with z | z | z
      · exact absurd (Or.inl z) hi
      · exact absurd (Or.inr z) hi
      · exact z
    refine ar_cv i_X6_takeRemainder_15 rfl trivial (Nat.le_of_ble_eq_true rfl) (x_requireElement d hw hi') ?_
    refine ar_ld i_X6_takeRemainder_18 rfl rfl ?_
    refine ar_ld i_X6_takeRemainder_20 rfl rfl ?_
    exact av_cx i_X6_takeRemainder_21 rfl trivial (Nat.le_of_ble_eq_true rfl) (x_requireElement_no d hw (hb.resolve_left hi)) (fun S1 h => ⟨rfl, h⟩)
theorem x_takeRemainder_0 (d : Nat) {S : aq_S} {r sz i j : Nat} {hs ty : Int32} {v : Nat → UInt64} (h : hX S hs) (ha : hRA S) (hw : hRow S (48 + 2 * r) ty sz v) (hr : r < 2) (ht : ¬ ty = -1) (hi : i < sz) (hj : j < sz) (h0 : dU (v j) 0) : aX (d + 3) 106 [.ref 1, .int (nI r), .int (nI i), .int (nI j)] S (fun o S' => o = .inr "java/lang/ArithmeticException" ∧ S' = aq_thrown S) := by
  have h41 := hw.2.2.1
  refine ar_run (Nat.le_of_ble_eq_true rfl) (fun o S1 h => aq_le_of (aq_le_thr S) h) ?_
  refine ar_ld i_X6_takeRemainder_0 rfl rfl ?_
  refine ar_ld i_X6_takeRemainder_1 rfl rfl ?_
  refine ar_cr i_X6_takeRemainder_2 rfl ⟨_, _, _, rfl, (h)⟩ (Nat.le_of_ble_eq_true rfl) (x_rowAt (d + 1) h ha hr) ?_
  refine ar_st i_X6_takeRemainder_5 rfl rfl ?_
  refine ar_ld i_X6_takeRemainder_7 rfl rfl ?_
  refine ar_cv i_X6_takeRemainder_9 rfl trivial (Nat.le_of_ble_eq_true rfl) (x_requireRow d hw ht) ?_
  refine ar_ld i_X6_takeRemainder_12 rfl rfl ?_
  refine ar_ld i_X6_takeRemainder_14 rfl rfl ?_
  refine ar_cv i_X6_takeRemainder_15 rfl trivial (Nat.le_of_ble_eq_true rfl) (x_requireElement d hw hi) ?_
  refine ar_ld i_X6_takeRemainder_18 rfl rfl ?_
  refine ar_ld i_X6_takeRemainder_20 rfl rfl ?_
  refine ar_cv i_X6_takeRemainder_21 rfl trivial (Nat.le_of_ble_eq_true rfl) (x_requireElement d hw hj) ?_
  refine ar_ld i_X6_takeRemainder_24 rfl rfl ?_
  refine ar_ld i_X6_takeRemainder_26 rfl rfl ?_
  refine ar_cr i_X6_takeRemainder_27 rfl ⟨_, _, _, rfl, hw.1⟩ (Nat.le_of_ble_eq_true rfl) (r_at (d + 1) hw (show j < 41 by omega)) ?_
  refine ar_st i_X6_takeRemainder_30 rfl rfl ?_
  refine ar_ld i_X6_takeRemainder_32 rfl rfl ?_
  refine ar_push i_X6_takeRemainder_34 ?_
  refine ar_ar i_X6_takeRemainder_35 rfl ?_
  refine ar_iff i_X6_takeRemainder_36 rfl (fun z => z ((cv_eq h0 dU_0 _).mpr rfl)) ?_
  exact ar_thr i_X6_takeRemainder_39 (Nat.le_of_ble_eq_true rfl) ⟨rfl, rfl⟩
theorem x_takeRemainder (d : Nat) {S : aq_S} {r sz i j m : Nat} {hs ty : Int32} {v : Nat → UInt64} (h : hX S hs) (ha : hRA S) (hw : hRow S (48 + 2 * r) ty sz v) (hr : r < 2) (ht : ¬ ty = -1) (hi : i < sz) (hj : j < sz) (h1 : eI ty (v i)) (h2 : eI ty (v j)) (h0 : dU (v j) m) (hm : 0 < m) : aX (d + 3) 106 [.ref 1, .int (nI r), .int (nI i), .int (nI j)] S (fun o S' => o = .inl (some (.int (tR (FP.drem (v i) (v j))))) ∧ hRow S' (48 + 2 * r) ty sz (vf_upd v i (FP.drem (v i) (v j))) ∧ aq_fr S S' (fun c => c = 48 + 2 * r + 1)) := by
  have h41 := hw.2.2.1
  obtain ⟨n1, g1, l1⟩ := h1.d
  obtain ⟨n2, g2, l2⟩ := h2.d
  have em := g2.uniq h0
  refine ar_run (Nat.le_of_ble_eq_true rfl) (fun o S1 h => h.2.2.le) ?_
  refine ar_ld i_X6_takeRemainder_0 rfl rfl ?_
  refine ar_ld i_X6_takeRemainder_1 rfl rfl ?_
  refine ar_cr i_X6_takeRemainder_2 rfl ⟨_, _, _, rfl, (h)⟩ (Nat.le_of_ble_eq_true rfl) (x_rowAt (d + 1) h ha hr) ?_
  refine ar_st i_X6_takeRemainder_5 rfl rfl ?_
  refine ar_ld i_X6_takeRemainder_7 rfl rfl ?_
  refine ar_cv i_X6_takeRemainder_9 rfl trivial (Nat.le_of_ble_eq_true rfl) (x_requireRow d hw ht) ?_
  refine ar_ld i_X6_takeRemainder_12 rfl rfl ?_
  refine ar_ld i_X6_takeRemainder_14 rfl rfl ?_
  refine ar_cv i_X6_takeRemainder_15 rfl trivial (Nat.le_of_ble_eq_true rfl) (x_requireElement d hw hi) ?_
  refine ar_ld i_X6_takeRemainder_18 rfl rfl ?_
  refine ar_ld i_X6_takeRemainder_20 rfl rfl ?_
  refine ar_cv i_X6_takeRemainder_21 rfl trivial (Nat.le_of_ble_eq_true rfl) (x_requireElement d hw hj) ?_
  refine ar_ld i_X6_takeRemainder_24 rfl rfl ?_
  refine ar_ld i_X6_takeRemainder_26 rfl rfl ?_
  refine ar_cr i_X6_takeRemainder_27 rfl ⟨_, _, _, rfl, hw.1⟩ (Nat.le_of_ble_eq_true rfl) (r_at (d + 1) hw (show j < 41 by omega)) ?_
  refine ar_st i_X6_takeRemainder_30 rfl rfl ?_
  refine ar_ld i_X6_takeRemainder_32 rfl rfl ?_
  refine ar_push i_X6_takeRemainder_34 ?_
  refine ar_ar i_X6_takeRemainder_35 rfl ?_
  refine ar_ift i_X6_takeRemainder_36 rfl (fun z => absurd ((cv_eq h0 dU_0 _).mp z) (by omega)) ?_
  refine ar_ld i_X6_takeRemainder_50 rfl rfl ?_
  refine ar_ld i_X6_takeRemainder_52 rfl rfl ?_
  refine ar_cr i_X6_takeRemainder_53 rfl ⟨_, _, _, rfl, hw.1⟩ (Nat.le_of_ble_eq_true rfl) (r_at (d + 1) hw (show i < 41 by omega)) ?_
  refine ar_ld i_X6_takeRemainder_56 rfl rfl ?_
  refine ar_cr i_X6_takeRemainder_58 rfl trivial (Nat.le_of_ble_eq_true rfl) (x_remainder (d + 1) g1 h0 hm l1 (em ▸ l2)) ?_
  refine ar_st i_X6_takeRemainder_61 rfl rfl ?_
  refine ar_ld i_X6_takeRemainder_63 rfl rfl ?_
  refine ar_ld i_X6_takeRemainder_65 rfl rfl ?_
  refine ar_ld i_X6_takeRemainder_66 rfl rfl ?_
  refine av_cv i_X6_takeRemainder_68 rfl ⟨_, _, _, rfl, hw.1⟩ (Nat.le_of_ble_eq_true rfl) (r_put (d + 1) hw (show i < 41 by omega) _) (fun S2 q2 => ?_)
  refine ar_ld i_X6_takeRemainder_71 rfl rfl ?_
  refine ar_push i_X6_takeRemainder_73 ?_
  refine ar_arc i_X6_takeRemainder_76 rfl (mil_vf (dU_rem g1 h0 hm)) ?_
  refine ar_ar i_X6_takeRemainder_77 rfl ?_
  exact ar_ret i_X6_takeRemainder_78 rfl ⟨rfl, q2⟩
theorem x_elementBits_r (d : Nat) {S : aq_S} {p i hs : Int32} (h : hX S hs) (ha : hRA S) (hp : p < 0 ∨ nI 2 ≤ p) : aX (d + 2) 107 [.ref 1, .int p, .int i] S (fun o S' => o = .inr "java/lang/IllegalArgumentException" ∧ S' = aq_thrown S) := by
  refine ar_run (Nat.le_of_ble_eq_true rfl) (fun o S1 h => aq_le_of (aq_le_thr S) h) ?_
  refine ar_ld i_X6_elementBits_0 rfl rfl ?_
  refine ar_ld i_X6_elementBits_1 rfl rfl ?_
  exact av_cx i_X6_elementBits_2 rfl ⟨_, _, _, rfl, (h)⟩ (Nat.le_of_ble_eq_true rfl) (x_rowAt_no d h ha hp) (fun S1 h => ⟨rfl, h⟩)
theorem x_elementBits_m (d : Nat) {S : aq_S} {r sz : Nat} {i hs ty : Int32} {v : Nat → UInt64} (h : hX S hs) (ha : hRA S) (hw : hRow S (48 + 2 * r) ty sz v) (hr : r < 2) (ht : ty = -1) : aX (d + 3) 107 [.ref 1, .int (nI r), .int i] S (fun o S' => o = .inr "java/lang/IllegalStateException" ∧ S' = aq_thrown S) := by
  refine ar_run (Nat.le_of_ble_eq_true rfl) (fun o S1 h => aq_le_of (aq_le_thr S) h) ?_
  refine ar_ld i_X6_elementBits_0 rfl rfl ?_
  refine ar_ld i_X6_elementBits_1 rfl rfl ?_
  refine ar_cr i_X6_elementBits_2 rfl ⟨_, _, _, rfl, (h)⟩ (Nat.le_of_ble_eq_true rfl) (x_rowAt (d + 1) h ha hr) ?_
  refine ar_st i_X6_elementBits_5 rfl rfl ?_
  refine ar_ld i_X6_elementBits_6 rfl rfl ?_
  exact av_cx i_X6_elementBits_7 rfl trivial (Nat.le_of_ble_eq_true rfl) (x_requireRow_no d hw ht) (fun S1 h => ⟨rfl, h⟩)
theorem x_elementBits_i (d : Nat) {S : aq_S} {r sz : Nat} {i hs ty : Int32} {v : Nat → UInt64} (h : hX S hs) (ha : hRA S) (hw : hRow S (48 + 2 * r) ty sz v) (hr : r < 2) (ht : ¬ ty = -1) (hb : i < 0 ∨ nI sz ≤ i) : aX (d + 3) 107 [.ref 1, .int (nI r), .int i] S (fun o S' => o = .inr "java/lang/IndexOutOfBoundsException" ∧ S' = aq_thrown S) := by
  refine ar_run (Nat.le_of_ble_eq_true rfl) (fun o S1 h => aq_le_of (aq_le_thr S) h) ?_
  refine ar_ld i_X6_elementBits_0 rfl rfl ?_
  refine ar_ld i_X6_elementBits_1 rfl rfl ?_
  refine ar_cr i_X6_elementBits_2 rfl ⟨_, _, _, rfl, (h)⟩ (Nat.le_of_ble_eq_true rfl) (x_rowAt (d + 1) h ha hr) ?_
  refine ar_st i_X6_elementBits_5 rfl rfl ?_
  refine ar_ld i_X6_elementBits_6 rfl rfl ?_
  refine ar_cv i_X6_elementBits_7 rfl trivial (Nat.le_of_ble_eq_true rfl) (x_requireRow d hw ht) ?_
  refine ar_ld i_X6_elementBits_10 rfl rfl ?_
  refine ar_ld i_X6_elementBits_11 rfl rfl ?_
  exact av_cx i_X6_elementBits_12 rfl trivial (Nat.le_of_ble_eq_true rfl) (x_requireElement_no d hw hb) (fun S1 h => ⟨rfl, h⟩)
theorem x_elementBits (d : Nat) {S : aq_S} {r sz i : Nat} {hs ty : Int32} {v : Nat → UInt64} (h : hX S hs) (ha : hRA S) (hw : hRow S (48 + 2 * r) ty sz v) (hr : r < 2) (ht : ty = 0 ∨ ty = 1) (hi : i < sz) (h1 : eI ty (v i)) : aX (d + 3) 107 [.ref 1, .int (nI r), .int (nI i)] S (fun o S' => o = .inl (some (.long (eB ty (v i)))) ∧ S' = S) := by
  have h41 := hw.2.2.1
  have htm : ¬ ty = -1 := by rcases ht with e | e <;> rw [e] <;> decide
  refine ar_run (Nat.le_of_ble_eq_true rfl) (fun o S1 h => aq_le_of (aq_le_refl S) h) ?_
  refine ar_ld i_X6_elementBits_0 rfl rfl ?_
  refine ar_ld i_X6_elementBits_1 rfl rfl ?_
  refine ar_cr i_X6_elementBits_2 rfl ⟨_, _, _, rfl, (h)⟩ (Nat.le_of_ble_eq_true rfl) (x_rowAt (d + 1) h ha hr) ?_
  refine ar_st i_X6_elementBits_5 rfl rfl ?_
  refine ar_ld i_X6_elementBits_6 rfl rfl ?_
  refine ar_cv i_X6_elementBits_7 rfl trivial (Nat.le_of_ble_eq_true rfl) (x_requireRow d hw htm) ?_
  refine ar_ld i_X6_elementBits_10 rfl rfl ?_
  refine ar_ld i_X6_elementBits_11 rfl rfl ?_
  refine ar_cv i_X6_elementBits_12 rfl trivial (Nat.le_of_ble_eq_true rfl) (x_requireElement d hw hi) ?_
  refine ar_ld i_X6_elementBits_15 rfl rfl ?_
  refine ar_cr i_X6_elementBits_16 rfl ⟨_, _, _, rfl, hw.1⟩ (Nat.le_of_ble_eq_true rfl) (r_isDouble (d + 1) hw) ?_
  rcases ht with e | e
  · subst e
    refine ar_ift i_X6_elementBits_19 rfl (bI_f (by decide)) ?_
    refine ar_ld i_X6_elementBits_38 rfl rfl ?_
    refine ar_ld i_X6_elementBits_39 rfl rfl ?_
    refine ar_cr i_X6_elementBits_40 rfl ⟨_, _, _, rfl, hw.1⟩ (Nat.le_of_ble_eq_true rfl) (r_at (d + 1) hw (show i < 41 by omega)) ?_
    refine ar_push i_X6_elementBits_43 ?_
    refine ar_push i_X6_elementBits_45 ?_
    refine ar_cr i_X6_elementBits_47 rfl trivial (Nat.le_of_ble_eq_true rfl) (x_bits_f (d + 1) h1) ?_
    exact ar_ret i_X6_elementBits_50 rfl ⟨rfl, rfl⟩
  · subst e
    refine ar_iff i_X6_elementBits_19 rfl (fun z => absurd z (bI_nz.mpr rfl)) ?_
    refine ar_ld i_X6_elementBits_22 rfl rfl ?_
    refine ar_ld i_X6_elementBits_23 rfl rfl ?_
    refine ar_cr i_X6_elementBits_24 rfl ⟨_, _, _, rfl, hw.1⟩ (Nat.le_of_ble_eq_true rfl) (r_at (d + 1) hw (show i < 41 by omega)) ?_
    refine ar_push i_X6_elementBits_27 ?_
    refine ar_push i_X6_elementBits_30 ?_
    refine ar_cr i_X6_elementBits_32 rfl trivial (Nat.le_of_ble_eq_true rfl) (x_bits_d (d + 1) h1) ?_
    refine ar_go i_X6_elementBits_35 ?_
    exact ar_ret i_X6_elementBits_50 rfl ⟨rfl, rfl⟩
end
