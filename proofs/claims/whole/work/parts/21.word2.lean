/-! ===== walks of HoleWords$Word, the rest ===== -/
section
/-- a condition as the machine's boolean -/
noncomputable def bI (P : Prop) : Int32 := @ite Int32 P (Classical.propDecidable P) 1 0
theorem bI_t {P : Prop} (h : P) : bI P = 1 := if_pos h
theorem bI_f {P : Prop} (h : ¬ P) : bI P = 0 := if_neg h
theorem bI_01 (P : Prop) : bI P = 0 ∨ bI P = 1 := by
  rcases Classical.em P with h | h
  · exact Or.inr (bI_t h)
  · exact Or.inl (bI_f h)
theorem bI_z {P : Prop} : bI P = 0 ↔ ¬ P := by
  refine ⟨fun h q => ?_, bI_f⟩
  rw [bI_t q] at h
  exact absurd h (by decide)
theorem bI_nz {P : Prop} : (¬ bI P = 0) ↔ P := by
  rw [bI_z]
  exact Classical.not_not
theorem bI_one {P : Prop} : bI P = 1 ↔ P := by
  refine ⟨fun h => Classical.byContradiction fun q => ?_, bI_t⟩
  rw [bI_f q] at h
  exact absurd h (by decide)
theorem bI_cg {P P' : Prop} (h : P ↔ P') : bI P = bI P' := by
  rcases Classical.em P with q | q
  · rw [bI_t q, bI_t (h.mp q)]
  · rw [bI_f q, bI_f (fun z => q (h.mpr z))]
theorem bR_t {P : Prop} (h : P) : (.inl (some (.int 1)) : aq_O) = .inl (some (.int (bI P))) := by rw [bI_t h]
theorem bR_f {P : Prop} (h : ¬ P) : (.inl (some (.int 0)) : aq_O) = .inl (some (.int (bI P))) := by rw [bI_f h]
theorem s_differ (d : Nat) {S : aq_S} (a b : Int32) : aX (d + 1) 116 [.int a, .int b] S (fun o S' => o = .inl (some (.int (bI (wdf a b)))) ∧ S' = S) := by
  rcases Classical.em (wdf a b) with h | h
  · rw [bI_t h]; exact s_differ_t d h
  · rw [bI_f h]; exact s_differ_f d h
theorem wdf_symm {a b : Int32} (h : wdf a b) : wdf b a := ⟨h.2.1, h.1, fun e => h.2.2 e.symm⟩
theorem w_copyFrom (d : Nat) {S : aq_S} {w v n m : Nat} {f g : Nat → Int32} (hw : isW S w n f) (hv : isW S v m g) : aX (d + 2) 54 [.ref w, .ref v] S (fun o S' => o = .inl none ∧ isW S' w m g ∧ aq_fr S S' (fun q => q = w ∨ q = w + 1)) := by
  have hm := hv.le
  have hap := hw.apart hv
  refine ar_run (Nat.le_of_ble_eq_true rfl) (fun o S1 h => h.2.2.le) ?_
  refine ar_ld i_X5_copyFrom_0 rfl rfl ?_
  refine ar_ld i_X5_copyFrom_1 rfl rfl ?_
  refine ar_gf i_X5_copyFrom_2 (hv.obj) rfl ?_
  refine av_pf i_X5_copyFrom_5 (hw.obj) (Nat.le_of_ble_eq_true rfl) (rfl) rfl (fun S1 g1 k1 => ?_)
  refine ar_push i_X5_copyFrom_8 ?_
  refine ar_st i_X5_copyFrom_9 rfl rfl ?_
  have hfr1 : aq_fr S S1 (fun q => q = w ∨ q = w + 1) := k1.mono (fun q h => Or.inl h)
  have hv1 : isW S1 v m g := by
    by_cases hwv : v = w
    · subst hwv
      obtain ⟨f9, hf9, hg9⟩ := hv
      exact ⟨f9, ⟨g1, (k1.2.2.2 _ (by omega)).trans hf9.2.1, hf9.2.2⟩, hg9⟩
    · exact hv.fr k1 hwv (fun e => hap.1 e.symm)
  have hw1 : ∃ F, rW S1 w m F := by
    obtain ⟨f9, hf9, -⟩ := hw
    exact ⟨f9, g1, (k1.2.2.2 _ (by omega)).trans hf9.2.1, hm, hf9.2.2.2⟩
  suffices key : ∀ j i (S1 : aq_S) (F : Nat → Int32), i + j = m → isW S1 v m g → rW S1 w m F → (∀ x, x < i → F x = g x) → aq_fr S S1 (fun q => q = w ∨ q = w + 1) → aG (d + 1) 54 (fun o S' => o = .inl none ∧ isW S' w m g ∧ aq_fr S S' (fun q => q = w ∨ q = w + 1)) 10 [(0, .ref w), (1, .ref v), (2, .int (nI i))] [] S1 by
    obtain ⟨F, hF⟩ := hw1
    exact key m 0 S1 F (by omega) hv1 hF (fun x h => absurd h (Nat.not_lt_zero x)) hfr1
  clear hw1 hv1 hfr1 g1 k1 S1
  intro j
  induction j with
  | zero =>
    intro i S1 F hi hv1 hw1 hag hfr
    refine ar_ld i_X5_copyFrom_10 rfl rfl ?_
    refine ar_ld i_X5_copyFrom_11 rfl rfl ?_
    refine ar_gf i_X5_copyFrom_12 (hw1.1) rfl ?_
    refine ar_ift i_X5_copyFrom_15 rfl (nI_le (by omega) (by omega)) ?_
    exact ar_retv i_X5_copyFrom_34 ⟨rfl, ⟨F, hw1, fun x hx => hag x (by omega)⟩, hfr⟩
  | succ j ih =>
    intro i S1 F hi hv1 hw1 hag hfr
    refine ar_ld i_X5_copyFrom_10 rfl rfl ?_
    refine ar_ld i_X5_copyFrom_11 rfl rfl ?_
    refine ar_gf i_X5_copyFrom_12 (hw1.1) rfl ?_
    refine ar_iff i_X5_copyFrom_15 rfl (nI_ge (by omega) (by omega)) ?_
    refine ar_ld i_X5_copyFrom_18 rfl rfl ?_
    refine ar_ld i_X5_copyFrom_19 rfl rfl ?_
    refine ar_ld i_X5_copyFrom_20 rfl rfl ?_
    refine ar_ld i_X5_copyFrom_21 rfl rfl ?_
    refine ar_cr i_X5_copyFrom_22 rfl ⟨_, _, _, rfl, hv1.obj⟩ (Nat.le_of_ble_eq_true rfl) (w_atj d hv1 i (by omega)) ?_
    have hwm : isW S1 w m F := ⟨F, hw1, fun _ _ => rfl⟩
    have hi40 : i < 40 := by omega
    have hput := s_X5_put d hw1 (nI i) (g i)
    have hwp : wput m F (nI i) (g i) = upd F i (g i) := by
      unfold wput
      rw [if_neg (nI_pos (by omega)), if_neg (nI_ge (by omega) (by omega)), nI_clamp (by omega)]
    rw [hwp] at hput
    refine av_cv i_X5_copyFrom_25 rfl ⟨_, _, _, rfl, (hw1.1)⟩ (Nat.le_of_ble_eq_true rfl) (hput) (fun S2 h2 => ?_)
    refine ar_inc i_X5_copyFrom_28 rfl rfl ?_
    refine ar_go i_X5_copyFrom_31 ?_
    have := ih (i + 1) S2 (upd F i (g i)) (by omega)
    rw [← nI_1] at this
    refine this ?_ h2.1 (fun x hx => ?_) (hfr.tr (h2.2.mono (fun q h => Or.inr h)))
    · by_cases hwv : v = w
      · subst hwv
        obtain ⟨f9, hf9, hg9⟩ := hv1
        have e : f9 = F := by
          have := hf9.2.1.symm.trans hw1.2.1
          simp only [Option.some.injEq, Sum.inl.injEq, Prod.mk.injEq, true_and] at this
          exact this
        subst e
        refine ⟨_, h2.1, fun x hx => ?_⟩
        unfold upd
        split
        · rename_i hxi
          rw [hxi]
        · exact hg9 x hx
      · exact hv1.fr h2.2 (fun e => hap.2 e) (by omega)
    · unfold upd
      split
      · rename_i hxi
        rw [hxi]
      · exact hag x (by omega)
theorem w_isSameAs (d : Nat) {S : aq_S} {w v n m : Nat} {f g : Nat → Int32} (hw : isW S w n f) (hv : isW S v m g) : aX (d + 2) 55 [.ref w, .ref v] S (fun o S' => o = .inl (some (.int (bI (n = m ∧ ∀ i, i < n → f i = g i)))) ∧ S' = S) := by
  have hn := hw.le
  have hm := hv.le
  refine ar_run (Nat.le_of_ble_eq_true rfl) (fun o S1 h => aq_le_of (aq_le_refl S) h) ?_
  refine ar_push i_X5_isSameAs_0 ?_
  refine ar_st i_X5_isSameAs_1 rfl rfl ?_
  suffices key : ∀ j i, i + j = n → (∀ x, x < i → n = m → f x = g x) → aG (d + 1) 55 (fun o S' => o = .inl (some (.int (bI (n = m ∧ ∀ i, i < n → f i = g i)))) ∧ S' = S) 2 [(0, .ref w), (1, .ref v), (2, .int (nI i))] [] S from key n 0 (by omega) (fun x h => absurd h (Nat.not_lt_zero x))
  intro j
  induction j with
  | zero =>
    intro i hi hag
    refine ar_ld i_X5_isSameAs_2 rfl rfl ?_
    refine ar_ld i_X5_isSameAs_3 rfl rfl ?_
    refine ar_gf i_X5_isSameAs_4 (hw.obj) rfl ?_
    refine ar_ift i_X5_isSameAs_7 rfl (nI_le (by omega) (by omega)) ?_
    refine ar_ld i_X5_isSameAs_31 rfl rfl ?_
    refine ar_gf i_X5_isSameAs_32 (hw.obj) rfl ?_
    refine ar_ld i_X5_isSameAs_35 rfl rfl ?_
    refine ar_gf i_X5_isSameAs_36 (hv.obj) rfl ?_
    by_cases hnm : n = m
    · refine ar_iff i_X5_isSameAs_39 rfl (fun z => z (by rw [hnm])) ?_
      refine ar_push i_X5_isSameAs_42 ?_
      refine ar_go i_X5_isSameAs_43 ?_
      exact ar_ret i_X5_isSameAs_47 ((Or.inr rfl)) ⟨bR_t (⟨hnm, fun x hx => hag x (by omega) hnm⟩), rfl⟩
    · refine ar_ift i_X5_isSameAs_39 rfl (fun z => hnm (nI_inj (by omega) (by omega) z)) ?_
      refine ar_push i_X5_isSameAs_46 ?_
      exact ar_ret i_X5_isSameAs_47 ((Or.inl rfl)) ⟨bR_f ((fun z => hnm z.1)), rfl⟩
  | succ j ih =>
    intro i hi hag
    refine ar_ld i_X5_isSameAs_2 rfl rfl ?_
    refine ar_ld i_X5_isSameAs_3 rfl rfl ?_
    refine ar_gf i_X5_isSameAs_4 (hw.obj) rfl ?_
    refine ar_iff i_X5_isSameAs_7 rfl (nI_ge (by omega) (by omega)) ?_
    refine ar_ld i_X5_isSameAs_10 rfl rfl ?_
    refine ar_ld i_X5_isSameAs_11 rfl rfl ?_
    refine ar_cr i_X5_isSameAs_12 rfl ⟨_, _, _, rfl, (hw.obj)⟩ (Nat.le_of_ble_eq_true rfl) (w_atj d hw i (by omega)) ?_
    refine ar_ld i_X5_isSameAs_15 rfl rfl ?_
    refine ar_ld i_X5_isSameAs_16 rfl rfl ?_
    refine ar_cr i_X5_isSameAs_17 rfl ⟨_, _, _, rfl, hv.obj⟩ (Nat.le_of_ble_eq_true rfl) (w_at d hv (nI i)) ?_
    refine ar_if i_X5_isSameAs_20 rfl (fun c20 => ?_) (fun c20 => ?_)
    · refine ar_inc i_X5_isSameAs_25 rfl rfl ?_
      refine ar_go i_X5_isSameAs_28 ?_
      have := ih (i + 1) (by omega) (fun x hx hnm => by
        by_cases hxi : x = i
        · subst hxi
          rw [wat_in (by omega) (by omega)] at c20
          exact c20
        · exact hag x (by omega) hnm)
      rw [← nI_1] at this
      exact this
    · refine ar_push i_X5_isSameAs_23 ?_
      exact ar_ret i_X5_isSameAs_24 ((Or.inl rfl)) ⟨bR_f ((fun z => c20 (by rw [wat_in (by omega) (by omega)]; exact z.2 i (by omega)))), rfl⟩
/-- shorter, or as long and smaller at the first place that differs -/
def wlt (n m : Nat) (f g : Nat → Int32) : Prop := n < m ∨ (n = m ∧ ∃ i, i < n ∧ (∀ j, j < i → f j = g j) ∧ f i < g i)
theorem w_isBefore (d : Nat) {S : aq_S} {w v n m : Nat} {f g : Nat → Int32} (hw : isW S w n f) (hv : isW S v m g) : aX (d + 2) 56 [.ref w, .ref v] S (fun o S' => o = .inl (some (.int (bI (wlt n m f g)))) ∧ S' = S) := by
  have hn := hw.le
  have hm := hv.le
  refine ar_run (Nat.le_of_ble_eq_true rfl) (fun o S1 h => aq_le_of (aq_le_refl S) h) ?_
  refine ar_ld i_X5_isBefore_0 rfl rfl ?_
  refine ar_gf i_X5_isBefore_1 (hw.obj) rfl ?_
  refine ar_ld i_X5_isBefore_4 rfl rfl ?_
  refine ar_gf i_X5_isBefore_5 (hv.obj) rfl ?_
  by_cases hnm : n = m
  · subst hnm
    refine ar_ift i_X5_isBefore_8 rfl (rfl) ?_
    refine ar_push i_X5_isBefore_28 ?_
    refine ar_st i_X5_isBefore_29 rfl rfl ?_
    suffices key : ∀ j i, i + j = n → (∀ x, x < i → f x = g x) → aG (d + 1) 56 (fun o S' => o = .inl (some (.int (bI (wlt n n f g)))) ∧ S' = S) 30 [(0, .ref w), (1, .ref v), (2, .int (nI i))] [] S from key n 0 (by omega) (fun x h => absurd h (Nat.not_lt_zero x))
    intro j
    induction j with
    | zero =>
      intro i hi hag
      refine ar_ld i_X5_isBefore_30 rfl rfl ?_
      refine ar_ld i_X5_isBefore_31 rfl rfl ?_
      refine ar_gf i_X5_isBefore_32 (hw.obj) rfl ?_
      refine ar_ift i_X5_isBefore_35 rfl (nI_le (by omega) (by omega)) ?_
      refine ar_push i_X5_isBefore_76 ?_
      exact ar_ret i_X5_isBefore_77 ((Or.inl rfl)) ⟨bR_f (by intro z; rcases z with z | ⟨-, x, hx, -, hl⟩; exact absurd z (Nat.lt_irrefl n); rw [hag x (by omega)] at hl; exact (Int32.lt_irrefl hl).elim), rfl⟩
    | succ j ih =>
      intro i hi hag
      refine ar_ld i_X5_isBefore_30 rfl rfl ?_
      refine ar_ld i_X5_isBefore_31 rfl rfl ?_
      refine ar_gf i_X5_isBefore_32 (hw.obj) rfl ?_
      refine ar_iff i_X5_isBefore_35 rfl (nI_ge (by omega) (by omega)) ?_
      refine ar_ld i_X5_isBefore_38 rfl rfl ?_
      refine ar_ld i_X5_isBefore_39 rfl rfl ?_
      refine ar_cr i_X5_isBefore_40 rfl ⟨_, _, _, rfl, (hw.obj)⟩ (Nat.le_of_ble_eq_true rfl) (w_atj d hw i (by omega)) ?_
      refine ar_ld i_X5_isBefore_43 rfl rfl ?_
      refine ar_ld i_X5_isBefore_44 rfl rfl ?_
      refine ar_cr i_X5_isBefore_45 rfl ⟨_, _, _, rfl, hv.obj⟩ (Nat.le_of_ble_eq_true rfl) (w_atj d hv i (by omega)) ?_
      refine ar_if i_X5_isBefore_48 rfl (fun c48 => ?_) (fun c48 => ?_)
      · refine ar_inc i_X5_isBefore_70 rfl rfl ?_
        refine ar_go i_X5_isBefore_73 ?_
        have := ih (i + 1) (by omega) (fun x hx => by
          by_cases hxi : x = i
          · rw [hxi]; exact c48
          · exact hag x (by omega))
        rw [← nI_1] at this
        exact this
      · refine ar_ld i_X5_isBefore_51 rfl rfl ?_
        refine ar_ld i_X5_isBefore_52 rfl rfl ?_
        refine ar_cr i_X5_isBefore_53 rfl ⟨_, _, _, rfl, (hw.obj)⟩ (Nat.le_of_ble_eq_true rfl) (w_atj d hw i (by omega)) ?_
        refine ar_ld i_X5_isBefore_56 rfl rfl ?_
        refine ar_ld i_X5_isBefore_57 rfl rfl ?_
        refine ar_cr i_X5_isBefore_58 rfl ⟨_, _, _, rfl, hv.obj⟩ (Nat.le_of_ble_eq_true rfl) (w_atj d hv i (by omega)) ?_
        refine ar_if i_X5_isBefore_61 rfl (fun c61 => ?_) (fun c61 => ?_)
        · refine ar_push i_X5_isBefore_68 ?_
          exact ar_ret i_X5_isBefore_69 ((Or.inl rfl)) ⟨bR_f (by
            intro z
            rcases z with z | ⟨-, x, hx, hxa, hl⟩
            · exact absurd z (Nat.lt_irrefl n)
            · rcases Nat.lt_trichotomy x i with h | h | h
              · rw [hag x h] at hl; exact (Int32.lt_irrefl hl).elim
              · rw [h] at hl; exact absurd hl (Int32.not_lt.mpr c61)
              · exact c48 (hxa i h)), rfl⟩
        · refine ar_push i_X5_isBefore_64 ?_
          refine ar_go i_X5_isBefore_65 ?_
          exact ar_ret i_X5_isBefore_69 ((Or.inr rfl)) ⟨bR_t ((Or.inr ⟨rfl, i, by omega, hag, Int32.not_le.mp c61⟩)), rfl⟩
  · refine ar_iff i_X5_isBefore_8 rfl (fun z => hnm (nI_inj (by omega) (by omega) z)) ?_
    refine ar_ld i_X5_isBefore_11 rfl rfl ?_
    refine ar_gf i_X5_isBefore_12 (hw.obj) rfl ?_
    refine ar_ld i_X5_isBefore_15 rfl rfl ?_
    refine ar_gf i_X5_isBefore_16 (hv.obj) rfl ?_
    by_cases hlt : n < m
    · refine ar_iff i_X5_isBefore_19 rfl (nI_ge hlt (by omega)) ?_
      refine ar_push i_X5_isBefore_22 ?_
      refine ar_go i_X5_isBefore_23 ?_
      exact ar_ret i_X5_isBefore_27 ((Or.inr rfl)) ⟨bR_t ((Or.inl hlt)), rfl⟩
    · refine ar_ift i_X5_isBefore_19 rfl (nI_le (by omega) (by omega)) ?_
      refine ar_push i_X5_isBefore_26 ?_
      exact ar_ret i_X5_isBefore_27 ((Or.inl rfl)) ⟨bR_f (by intro z; rcases z with z | ⟨z, -⟩ <;> omega), rfl⟩
/-- the word g, of length m, fits f from the place p on -/
def wfit (f : Nat → Int32) (p m : Nat) (g : Nat → Int32) : Prop := ∀ i, i < m → ¬ wdf (f (p + i)) (g i)
theorem w_agreesAt (d : Nat) {S : aq_S} {w v n m : Nat} {f g : Nat → Int32} (hw : isW S w n f) (hv : isW S v m g) (p : Nat) (hp : p + m ≤ n) : aX (d + 2) 59 [.ref w, .int (nI p), .ref v] S (fun o S' => o = .inl (some (.int (bI (wfit f p m g)))) ∧ S' = S) := by
  have hn := hw.le
  have hm := hv.le
  refine ar_run (Nat.le_of_ble_eq_true rfl) (fun o S1 h => aq_le_of (aq_le_refl S) h) ?_
  refine ar_push i_X5_agreesAt_0 ?_
  refine ar_st i_X5_agreesAt_1 rfl rfl ?_
  suffices key : ∀ j i, i + j = m → (∀ x, x < i → ¬ wdf (f (p + x)) (g x)) → aG (d + 1) 59 (fun o S' => o = .inl (some (.int (bI (wfit f p m g)))) ∧ S' = S) 2 [(0, .ref w), (1, .int (nI p)), (2, .ref v), (3, .int (nI i))] [] S from key m 0 (by omega) (fun x h => absurd h (Nat.not_lt_zero x))
  intro j
  induction j with
  | zero =>
    intro i hi hag
    refine ar_ld i_X5_agreesAt_2 rfl rfl ?_
    refine ar_ld i_X5_agreesAt_3 rfl rfl ?_
    refine ar_gf i_X5_agreesAt_4 (hv.obj) rfl ?_
    refine ar_ift i_X5_agreesAt_7 rfl (nI_le (by omega) (by omega)) ?_
    refine ar_push i_X5_agreesAt_36 ?_
    exact ar_ret i_X5_agreesAt_37 ((Or.inr rfl)) ⟨bR_t ((fun x hx => hag x (by omega))), rfl⟩
  | succ j ih =>
    intro i hi hag
    refine ar_ld i_X5_agreesAt_2 rfl rfl ?_
    refine ar_ld i_X5_agreesAt_3 rfl rfl ?_
    refine ar_gf i_X5_agreesAt_4 (hv.obj) rfl ?_
    refine ar_iff i_X5_agreesAt_7 rfl (nI_ge (by omega) (by omega)) ?_
    refine ar_ld i_X5_agreesAt_10 rfl rfl ?_
    refine ar_ld i_X5_agreesAt_11 rfl rfl ?_
    refine ar_ld i_X5_agreesAt_12 rfl rfl ?_
    refine ar_ar i_X5_agreesAt_13 rfl ?_
    rw [nI_add]
    refine ar_cr i_X5_agreesAt_14 rfl ⟨_, _, _, rfl, hw.obj⟩ (Nat.le_of_ble_eq_true rfl) (w_atj d hw (p + i) (by omega)) ?_
    refine ar_ld i_X5_agreesAt_17 rfl rfl ?_
    refine ar_ld i_X5_agreesAt_18 rfl rfl ?_
    refine ar_cr i_X5_agreesAt_19 rfl ⟨_, _, _, rfl, (hv.obj)⟩ (Nat.le_of_ble_eq_true rfl) (w_atj d hv i (by omega)) ?_
    refine ar_cr i_X5_agreesAt_22 rfl trivial (Nat.le_of_ble_eq_true rfl) (s_differ d (f (p + i)) (g i)) ?_
    by_cases hd : wdf (f (p + i)) (g i)
    · refine ar_iff i_X5_agreesAt_25 rfl (bI_nz.mpr hd) ?_
      refine ar_push i_X5_agreesAt_28 ?_
      exact ar_ret i_X5_agreesAt_29 ((Or.inl rfl)) ⟨bR_f ((fun z => z i (by omega) hd)), rfl⟩
    · refine ar_ift i_X5_agreesAt_25 rfl (bI_f hd) ?_
      refine ar_inc i_X5_agreesAt_30 rfl rfl ?_
      refine ar_go i_X5_agreesAt_33 ?_
      have := ih (i + 1) (by omega) (fun x hx => by
        by_cases hxi : x = i
        · rw [hxi]; exact hd
        · exact hag x (by omega))
      rw [← nI_1] at this
      exact this
theorem w_agreesWith (d : Nat) {S : aq_S} {w v n m : Nat} {f g : Nat → Int32} (hw : isW S w n f) (hv : isW S v m g) : aX (d + 3) 58 [.ref w, .ref v] S (fun o S' => o = .inl (some (.int (bI (n = m ∧ wfit f 0 m g)))) ∧ S' = S) := by
  have hn := hw.le
  have hm := hv.le
  refine ar_run (Nat.le_of_ble_eq_true rfl) (fun o S1 h => aq_le_of (aq_le_refl S) h) ?_
  refine ar_ld i_X5_agreesWith_0 rfl rfl ?_
  refine ar_gf i_X5_agreesWith_1 (hw.obj) rfl ?_
  refine ar_ld i_X5_agreesWith_4 rfl rfl ?_
  refine ar_gf i_X5_agreesWith_5 (hv.obj) rfl ?_
  by_cases hnm : n = m
  · refine ar_iff i_X5_agreesWith_8 rfl (fun z => z (by rw [hnm])) ?_
    refine ar_ld i_X5_agreesWith_11 rfl rfl ?_
    refine ar_push i_X5_agreesWith_12 ?_
    refine ar_ld i_X5_agreesWith_13 rfl rfl ?_
    refine ar_cr i_X5_agreesWith_14 rfl ⟨_, _, _, rfl, hw.obj⟩ (Nat.le_of_ble_eq_true rfl) (w_agreesAt d hw hv 0 (by omega)) ?_
    by_cases hd : wfit f 0 m g
    · refine ar_iff i_X5_agreesWith_17 rfl (bI_nz.mpr hd) ?_
      refine ar_push i_X5_agreesWith_20 ?_
      refine ar_go i_X5_agreesWith_21 ?_
      exact ar_ret i_X5_agreesWith_25 ((Or.inr rfl)) ⟨bR_t (⟨hnm, hd⟩), rfl⟩
    · refine ar_ift i_X5_agreesWith_17 rfl (bI_f hd) ?_
      refine ar_push i_X5_agreesWith_24 ?_
      exact ar_ret i_X5_agreesWith_25 ((Or.inl rfl)) ⟨bR_f ((fun z => hd z.2)), rfl⟩
  · refine ar_ift i_X5_agreesWith_8 rfl (fun z => hnm (nI_inj (by omega) (by omega) z)) ?_
    refine ar_push i_X5_agreesWith_24 ?_
    exact ar_ret i_X5_agreesWith_25 ((Or.inl rfl)) ⟨bR_f ((fun z => hnm z.1)), rfl⟩
theorem w_isHoleAtEach (d : Nat) {S : aq_S} {w n : Nat} {f : Nat → Int32} (hw : isW S w n f) (s t : Nat) (ht : 0 < t) (hs : s ≤ 1000) (ht2 : t ≤ 1000) : aX (d + 2) 60 [.ref w, .int (nI s), .int (nI t)] S (fun o S' => o = .inl (some (.int (bI (∀ k, s + k * t < n → f (s + k * t) = -1)))) ∧ S' = S) := by
  have hn := hw.le
  refine ar_run (Nat.le_of_ble_eq_true rfl) (fun o S1 h => aq_le_of (aq_le_refl S) h) ?_
  refine ar_ld i_X5_isHoleAtEach_0 rfl rfl ?_
  refine ar_st i_X5_isHoleAtEach_1 rfl rfl ?_
  suffices key : ∀ j k, n ≤ k + j → s + k * t ≤ 2040 → (∀ x, x < k → s + x * t < n → f (s + x * t) = -1) → aG (d + 1) 60 (fun o S' => o = .inl (some (.int (bI (∀ k, s + k * t < n → f (s + k * t) = -1)))) ∧ S' = S) 2 [(0, .ref w), (1, .int (nI s)), (2, .int (nI t)), (3, .int (nI (s + k * t)))] [] S by
    have := key n 0 (by omega) (by omega) (fun x h => absurd h (Nat.not_lt_zero x))
    rw [Nat.zero_mul, Nat.add_zero] at this
    exact this
  have fin : ∀ k, n ≤ s + k * t → s + k * t ≤ 2040 → (∀ x, x < k → s + x * t < n → f (s + x * t) = -1) → aG (d + 1) 60 (fun o S' => o = .inl (some (.int (bI (∀ k, s + k * t < n → f (s + k * t) = -1)))) ∧ S' = S) 2 [(0, .ref w), (1, .int (nI s)), (2, .int (nI t)), (3, .int (nI (s + k * t)))] [] S := by
    intro k hk hb hag
    refine ar_ld i_X5_isHoleAtEach_2 rfl rfl ?_
    refine ar_ld i_X5_isHoleAtEach_3 rfl rfl ?_
    refine ar_gf i_X5_isHoleAtEach_4 (hw.obj) rfl ?_
    refine ar_ift i_X5_isHoleAtEach_7 rfl (nI_le hk (by omega)) ?_
    refine ar_push i_X5_isHoleAtEach_32 ?_
    exact ar_ret i_X5_isHoleAtEach_33 ((Or.inr rfl)) ⟨bR_t (by
      intro x hx
      refine hag x (Classical.byContradiction fun hxk => ?_) hx
      have : k * t ≤ x * t := Nat.mul_le_mul_right t (by omega)
      omega), rfl⟩
  intro j
  induction j with
  | zero =>
    intro k hk hb hag
    have : k ≤ k * t := Nat.le_mul_of_pos_right k ht
    exact fin k (by omega) hb hag
  | succ j ih =>
    intro k hk hb hag
    by_cases hlt : s + k * t < n
    · refine ar_ld i_X5_isHoleAtEach_2 rfl rfl ?_
      refine ar_ld i_X5_isHoleAtEach_3 rfl rfl ?_
      refine ar_gf i_X5_isHoleAtEach_4 (hw.obj) rfl ?_
      refine ar_iff i_X5_isHoleAtEach_7 rfl (nI_ge hlt (by omega)) ?_
      refine ar_ld i_X5_isHoleAtEach_10 rfl rfl ?_
      refine ar_iff i_X5_isHoleAtEach_11 rfl (nI_nle ht (by omega)) ?_
      refine ar_ld i_X5_isHoleAtEach_14 rfl rfl ?_
      refine ar_ld i_X5_isHoleAtEach_15 rfl rfl ?_
      refine ar_cr i_X5_isHoleAtEach_16 rfl ⟨_, _, _, rfl, (hw.obj)⟩ (Nat.le_of_ble_eq_true rfl) (w_atj d hw (s + k * t) hlt) ?_
      refine ar_push i_X5_isHoleAtEach_19 ?_
      refine ar_if i_X5_isHoleAtEach_20 rfl (fun c20 => ?_) (fun c20 => ?_)
      · refine ar_ld i_X5_isHoleAtEach_25 rfl rfl ?_
        refine ar_ld i_X5_isHoleAtEach_26 rfl rfl ?_
        refine ar_ar i_X5_isHoleAtEach_27 rfl ?_
        rw [nI_add]
        refine ar_st i_X5_isHoleAtEach_28 rfl rfl ?_
        refine ar_go i_X5_isHoleAtEach_29 ?_
        have e : s + (k + 1) * t = s + k * t + t := by rw [Nat.add_mul]; omega
        have := ih (k + 1) (by omega) (by omega) (fun x hx hxn => by
          by_cases hxk : x = k
          · rw [hxk]; exact c20
          · exact hag x (by omega) hxn)
        rw [e] at this
        exact this
      · refine ar_push i_X5_isHoleAtEach_23 ?_
        exact ar_ret i_X5_isHoleAtEach_24 ((Or.inl rfl)) ⟨bR_f ((fun z => c20 (z k hlt))), rfl⟩
    · exact fin k (by omega) hb hag
/-- a weak period -/
def perW (n : Nat) (f : Nat → Int32) (p : Nat) : Prop := ∀ i, i + p < n → ¬ wdf (f i) (f (i + p))
theorem w_agreesAfter (d : Nat) {S : aq_S} {w n : Nat} {f : Nat → Int32} (hw : isW S w n f) (p : Nat) (hp : p ≤ 1000) : aX (d + 2) 63 [.ref w, .int (nI p)] S (fun o S' => o = .inl (some (.int (bI (perW n f p)))) ∧ S' = S) := by
  have hn := hw.le
  refine ar_run (Nat.le_of_ble_eq_true rfl) (fun o S1 h => aq_le_of (aq_le_refl S) h) ?_
  refine ar_ld i_X5_agreesAfter_0 rfl rfl ?_
  refine ar_st i_X5_agreesAfter_1 rfl rfl ?_
  suffices key : ∀ j i, n ≤ i + p + j → i + p ≤ 2040 → (∀ x, x < i → x + p < n → ¬ wdf (f x) (f (x + p))) → aG (d + 1) 63 (fun o S' => o = .inl (some (.int (bI (perW n f p)))) ∧ S' = S) 2 [(0, .ref w), (1, .int (nI p)), (2, .int (nI (i + p)))] [] S by
    have := key n 0 (by omega) (by omega) (fun x h => absurd h (Nat.not_lt_zero x))
    rw [Nat.zero_add] at this
    exact this
  have fin : ∀ i, n ≤ i + p → i + p ≤ 2040 → (∀ x, x < i → x + p < n → ¬ wdf (f x) (f (x + p))) → aG (d + 1) 63 (fun o S' => o = .inl (some (.int (bI (perW n f p)))) ∧ S' = S) 2 [(0, .ref w), (1, .int (nI p)), (2, .int (nI (i + p)))] [] S := by
    intro i hi hb hag
    refine ar_ld i_X5_agreesAfter_2 rfl rfl ?_
    refine ar_ld i_X5_agreesAfter_3 rfl rfl ?_
    refine ar_gf i_X5_agreesAfter_4 (hw.obj) rfl ?_
    refine ar_ift i_X5_agreesAfter_7 rfl (nI_le hi (by omega)) ?_
    refine ar_push i_X5_agreesAfter_36 ?_
    exact ar_ret i_X5_agreesAfter_37 ((Or.inr rfl)) ⟨bR_t ((fun x hx => hag x (by omega) hx)), rfl⟩
  intro j
  induction j with
  | zero =>
    intro i hi hb hag
    exact fin i (by omega) hb hag
  | succ j ih =>
    intro i hi hb hag
    by_cases hlt : i + p < n
    · refine ar_ld i_X5_agreesAfter_2 rfl rfl ?_
      refine ar_ld i_X5_agreesAfter_3 rfl rfl ?_
      refine ar_gf i_X5_agreesAfter_4 (hw.obj) rfl ?_
      refine ar_iff i_X5_agreesAfter_7 rfl (nI_ge hlt (by omega)) ?_
      refine ar_ld i_X5_agreesAfter_10 rfl rfl ?_
      refine ar_ld i_X5_agreesAfter_11 rfl rfl ?_
      refine ar_ld i_X5_agreesAfter_12 rfl rfl ?_
      refine ar_ar i_X5_agreesAfter_13 rfl ?_
      rw [pk_sub (by omega : p ≤ i + p), Nat.add_sub_cancel]
      refine ar_cr i_X5_agreesAfter_14 rfl ⟨_, _, _, rfl, (hw.obj)⟩ (Nat.le_of_ble_eq_true rfl) (w_atj d hw i (by omega)) ?_
      refine ar_ld i_X5_agreesAfter_17 rfl rfl ?_
      refine ar_ld i_X5_agreesAfter_18 rfl rfl ?_
      refine ar_cr i_X5_agreesAfter_19 rfl ⟨_, _, _, rfl, (hw.obj)⟩ (Nat.le_of_ble_eq_true rfl) (w_atj d hw (i + p) hlt) ?_
      refine ar_cr i_X5_agreesAfter_22 rfl trivial (Nat.le_of_ble_eq_true rfl) (s_differ d (f i) (f (i + p))) ?_
      by_cases hd : wdf (f i) (f (i + p))
      · refine ar_iff i_X5_agreesAfter_25 rfl (bI_nz.mpr hd) ?_
        refine ar_push i_X5_agreesAfter_28 ?_
        exact ar_ret i_X5_agreesAfter_29 ((Or.inl rfl)) ⟨bR_f ((fun z => z i hlt hd)), rfl⟩
      · refine ar_ift i_X5_agreesAfter_25 rfl (bI_f hd) ?_
        refine ar_inc i_X5_agreesAfter_30 rfl rfl ?_
        refine ar_go i_X5_agreesAfter_33 ?_
        have := ih (i + 1) (by omega) (by omega) (fun x hx hxn => by
          by_cases hxi : x = i
          · rw [hxi]; exact hd
          · exact hag x (by omega) hxn)
        rw [show i + 1 + p = i + p + 1 by omega, ← nI_1] at this
        exact this
    · exact fin i (by omega) hb hag
end
