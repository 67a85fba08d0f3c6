/-! ===== the class: rows ===== -/
section
def da (S : aq_S) (a m : Nat) (f : Nat → UInt64) : Prop := S.2.2.2 a = some (.inl (2, (m, .inr (.inr (.inr (.inl f))))))
theorem da.fr {S S' : aq_S} {a m : Nat} {f : Nat → UInt64} {P : Nat → Prop} (h : da S a m f) (q : aq_fr S S' P) (h1 : ¬ P a) : da S' a m f := (q.2.2.2 a h1).trans h
theorem vf_upd_eq {A : Type} {f : Nat → A} {k : Nat} {x : A} : vf_upd f k x k = x := if_pos rfl
theorem vf_upd_ne {A : Type} {f : Nat → A} {k j : Nat} {x : A} (h : j ≠ k) : vf_upd f k x j = f j := if_neg h
/-- the object of a row, what it holds -/
def hRow (S : aq_S) (a : Nat) (ty : Int32) (sz : Nat) (v : Nat → UInt64) : Prop := S.2.2.2 a = some (.inr (1, [.ref (a + 1), .int (bI (ty = -1)), .int (bI (ty = 1)), .int (nI sz)])) ∧ a ≠ 0 ∧ sz ≤ 41 ∧ ∃ f, da S (a + 1) 41 f ∧ ∀ i, i < 41 → f i = v i
theorem hRow.fr {S S' : aq_S} {a sz : Nat} {ty : Int32} {v : Nat → UInt64} {P : Nat → Prop} (h : hRow S a ty sz v) (q : aq_fr S S' P) (h1 : ¬ P a) (h2 : ¬ P (a + 1)) : hRow S' a ty sz v := by
  obtain ⟨a1, a2, a3, f, a4, a5⟩ := h
  exact ⟨(q.2.2.2 a h1).trans a1, a2, a3, f, a4.fr q h2, a5⟩
/-- the two rows -/
def hRA (S : aq_S) : Prop := ∃ f, S.2.2.2 42 = some (.inl (4, (2, .inr (.inr (.inr (.inr f)))))) ∧ ∀ j, j < 2 → f j = some (48 + 2 * j)
theorem hRA.fr {S S' : aq_S} {P : Nat → Prop} (h : hRA S) (q : aq_fr S S' P) (h1 : ¬ P 42) : hRA S' := by
  obtain ⟨f, hf, hg⟩ := h
  exact ⟨f, (q.2.2.2 _ h1).trans hf, hg⟩
def hRs (S : aq_S) (ty : Nat → Int32) (sz : Nat → Nat) (v : Nat → Nat → UInt64) : Prop := ∀ r, r < 2 → hRow S (48 + 2 * r) (ty r) (sz r) (v r)
theorem r_isMissing (d : Nat) {S : aq_S} {a sz : Nat} {ty : Int32} {v : Nat → UInt64} (h : hRow S a ty sz v) : aX (d + 1) 11 [.ref a] S (fun o S' => o = .inl (some (.int (bI (ty = -1)))) ∧ S' = S) := by
  refine ar_run (Nat.le_of_ble_eq_true rfl) (fun o S1 h => aq_le_of (aq_le_refl S) h) ?_
  refine ar_ld i_X1_isMissing_0 rfl rfl ?_
  refine ar_gf i_X1_isMissing_1 (h.1) rfl ?_
  exact ar_ret i_X1_isMissing_4 ((bI_01 _)) ⟨rfl, rfl⟩
theorem r_isDouble (d : Nat) {S : aq_S} {a sz : Nat} {ty : Int32} {v : Nat → UInt64} (h : hRow S a ty sz v) : aX (d + 1) 12 [.ref a] S (fun o S' => o = .inl (some (.int (bI (ty = 1)))) ∧ S' = S) := by
  refine ar_run (Nat.le_of_ble_eq_true rfl) (fun o S1 h => aq_le_of (aq_le_refl S) h) ?_
  refine ar_ld i_X1_isDouble_0 rfl rfl ?_
  refine ar_gf i_X1_isDouble_1 (h.1) rfl ?_
  exact ar_ret i_X1_isDouble_4 ((bI_01 _)) ⟨rfl, rfl⟩
theorem r_size (d : Nat) {S : aq_S} {a sz : Nat} {ty : Int32} {v : Nat → UInt64} (h : hRow S a ty sz v) : aX (d + 1) 13 [.ref a] S (fun o S' => o = .inl (some (.int (nI sz))) ∧ S' = S) := by
  refine ar_run (Nat.le_of_ble_eq_true rfl) (fun o S1 h => aq_le_of (aq_le_refl S) h) ?_
  refine ar_ld i_X1_size_0 rfl rfl ?_
  refine ar_gf i_X1_size_1 (h.1) rfl ?_
  exact ar_ret i_X1_size_4 rfl ⟨rfl, rfl⟩
theorem r_at (d : Nat) {S : aq_S} {a sz i : Nat} {ty : Int32} {v : Nat → UInt64} (h : hRow S a ty sz v) (hi : i < 41) : aX (d + 1) 15 [.ref a, .int (nI i)] S (fun o S' => o = .inl (some (.double (v i))) ∧ S' = S) := by
  obtain ⟨h1, h2, h3, f, h4, h5⟩ := h
  refine ar_run (Nat.le_of_ble_eq_true rfl) (fun o S1 h => aq_le_of (aq_le_refl S) h) ?_
  refine ar_ld i_X1_at_0 rfl rfl ?_
  refine ar_iff i_X1_at_1 rfl (nI_pos (by omega)) ?_
  refine ar_ld i_X1_at_4 rfl rfl ?_
  refine ar_ld i_X1_at_5 rfl rfl ?_
  refine ar_gf i_X1_at_6 (h1) rfl ?_
  refine ar_len i_X1_at_9 (by decide) (h4) ?_
  refine ar_iff i_X1_at_10 rfl (nI_ge (a := i) (b := 41) hi (by omega)) ?_
  refine ar_ld i_X1_at_13 rfl rfl ?_
  refine ar_gf i_X1_at_14 (h1) rfl ?_
  refine ar_ld i_X1_at_17 rfl rfl ?_
  refine av_ldd i_X1_at_18 (h4) (by omega) (by omega) ?_
  rw [h5 i hi]
  refine ar_go i_X1_at_19 ?_
  exact ar_ret i_X1_at_23 rfl ⟨rfl, rfl⟩
theorem r_put (d : Nat) {S : aq_S} {a sz i : Nat} {ty : Int32} {v : Nat → UInt64} (h : hRow S a ty sz v) (hi : i < 41) (x : UInt64) : aX (d + 1) 16 [.ref a, .int (nI i), .double x] S (fun o S' => o = .inl none ∧ hRow S' a ty sz (vf_upd v i x) ∧ aq_fr S S' (fun q => q = a + 1)) := by
  obtain ⟨h1, h2, h3, f, h4, h5⟩ := h
  refine ar_run (Nat.le_of_ble_eq_true rfl) (fun o S1 h => h.2.2.le) ?_
  refine ar_ld i_X1_put_0 rfl rfl ?_
  refine ar_iff i_X1_put_1 rfl (nI_pos (by omega)) ?_
  refine ar_ld i_X1_put_4 rfl rfl ?_
  refine ar_ld i_X1_put_5 rfl rfl ?_
  refine ar_gf i_X1_put_6 (h1) rfl ?_
  refine ar_len i_X1_put_9 (by decide) (h4) ?_
  refine ar_iff i_X1_put_10 rfl (nI_ge (a := i) (b := 41) hi (by omega)) ?_
  refine ar_ld i_X1_put_13 rfl rfl ?_
  refine ar_gf i_X1_put_14 (h1) rfl ?_
  refine ar_ld i_X1_put_17 rfl rfl ?_
  refine ar_ld i_X1_put_18 rfl rfl ?_
  refine av_std i_X1_put_19 (by omega) (h4) (by omega) (by omega) (fun S2 g2 k2 => ?_)
  refine ar_retv i_X1_put_20 ⟨rfl, ⟨(k2.2.2.2 a (by omega)).trans h1, h2, h3, _, g2, fun j hj => ?_⟩, k2⟩
  by_cases e : j = i
  · rw [e, vf_upd_eq, vf_upd_eq]
  · rw [vf_upd_ne e, vf_upd_ne e]
    exact h5 j hj
theorem r_renew (d : Nat) {S : aq_S} {a sz sz' : Nat} {ty ty' b : Int32} {v : Nat → UInt64} (h : hRow S a ty sz v) (hs : sz' ≤ 41) (hb : b = bI (ty' = 1)) (ht : ¬ ty' = -1) : aX (d + 1) 14 [.ref a, .int b, .int (nI sz')] S (fun o S' => o = .inl none ∧ hRow S' a ty' sz' (fun _ => 0) ∧ aq_fr S S' (fun q => q = a ∨ q = a + 1)) := by
  obtain ⟨h1, h2, h3, f, h4, h5⟩ := h
  refine ar_run (Nat.le_of_ble_eq_true rfl) (fun o S1 h => h.2.2.le) ?_
  refine ar_ld i_X1_renew_0 rfl rfl ?_
  refine ar_push i_X1_renew_1 ?_
  refine av_pf i_X1_renew_2 (h1) (Nat.le_of_ble_eq_true rfl) (Or.inl rfl) rfl (fun S1 g1 k1 => ?_)
  refine ar_ld i_X1_renew_5 rfl rfl ?_
  refine ar_ld i_X1_renew_6 rfl rfl ?_
  refine av_pf i_X1_renew_7 (g1) (Nat.le_of_ble_eq_true rfl) (hb ▸ bI_01 _) rfl (fun S2 g2 k2 => ?_)
  refine ar_ld i_X1_renew_10 rfl rfl ?_
  refine ar_ld i_X1_renew_11 rfl rfl ?_
  refine av_pf i_X1_renew_12 (g2) (Nat.le_of_ble_eq_true rfl) (rfl) rfl (fun S3 g3 k3 => ?_)
  refine ar_push i_X1_renew_15 ?_
  refine ar_st i_X1_renew_16 rfl rfl ?_
  have hfr := (((k1.tr k2).tr k3).mono (P' := fun q => q = a ∨ q = a + 1) (fun q z => Or.inl z))
  have g3' : S3.2.2.2 a = some (.inr (1, [.ref (a + 1), .int 0, .int b, .int (nI sz')])) := g3
  have h4' : da S3 (a + 1) 41 f := h4.fr ((k1.tr k2).tr k3) (by omega)
  clear g3 k3 g2 k2 g1 k1
  suffices key : ∀ j i (S3 : aq_S) (f : Nat → UInt64), i + j = 41 → S3.2.2.2 a = some (.inr (1, [.ref (a + 1), .int 0, .int b, .int (nI sz')])) → da S3 (a + 1) 41 f → (∀ x, x < i → f x = 0) → aq_fr S S3 (fun q => q = a ∨ q = a + 1) → aG d 14 (fun o S' => o = .inl none ∧ hRow S' a ty' sz' (fun _ => 0) ∧ aq_fr S S' (fun q => q = a ∨ q = a + 1)) 17 [(0, .ref a), (1, .int b), (2, .int (nI sz')), (3, .int (nI i))] [] S3 from key 41 0 S3 f (by omega) g3' h4' (fun x hx => absurd hx (Nat.not_lt_zero x)) hfr
  clear hfr h4' g3' S3 S2 S1
  intro j
  induction j with
  | zero =>
    intro i S3 f hi g3 h4 hag hfr
    refine ar_ld i_X1_renew_17 rfl rfl ?_
    refine ar_ld i_X1_renew_18 rfl rfl ?_
    refine ar_gf i_X1_renew_19 (g3) rfl ?_
    refine ar_len i_X1_renew_22 (by decide) (h4) ?_
    refine ar_ift i_X1_renew_23 rfl (nI_le (a := 41) (by omega) (by omega)) ?_
    refine ar_retv i_X1_renew_39 ⟨rfl, ⟨?_, h2, hs, f, h4, fun x hx => hag x (by omega)⟩, hfr⟩
    rw [bI_f ht, ← hb]
    exact g3
  | succ j ih =>
    intro i S3 f hi g3 h4 hag hfr
    refine ar_ld i_X1_renew_17 rfl rfl ?_
    refine ar_ld i_X1_renew_18 rfl rfl ?_
    refine ar_gf i_X1_renew_19 (g3) rfl ?_
    refine ar_len i_X1_renew_22 (by decide) (h4) ?_
    refine ar_iff i_X1_renew_23 rfl (nI_ge (b := 41) (by omega) (by omega)) ?_
    refine ar_ld i_X1_renew_26 rfl rfl ?_
    refine ar_gf i_X1_renew_27 (g3) rfl ?_
    refine ar_ld i_X1_renew_30 rfl rfl ?_
    refine ar_push i_X1_renew_31 ?_
    refine av_std i_X1_renew_32 (by omega) (h4) (by omega) (by omega) (fun S4 g4 k4 => ?_)
    refine ar_inc i_X1_renew_33 rfl rfl ?_
    refine ar_go i_X1_renew_36 ?_
    have := ih (i + 1) S4 _ (by omega) ((k4.2.2.2 a (by omega)).trans g3) g4 (fun x hx => by
      by_cases e : x = i
      · rw [e, vf_upd_eq]; rfl
      · rw [vf_upd_ne e]; exact hag x (by omega)) (hfr.tr (k4.mono (fun q z => Or.inr z)))
    rw [← nI_1 i] at this
    exact this
/-- a quotient in the row's type -/
def dq (ty : Int32) (h i p : Nat) : UInt64 := if ty = 1 then FP.ddiv (FP.ddiv (FP.i2d (nI h)) (FP.i2d (nI i))) (FP.i2d (nI p)) else FP.f2d (FP.fdiv (FP.fdiv (FP.i2f (nI h)) (FP.i2f (nI i))) (FP.i2f (nI p)))
theorem dq_eI {ty : Int32} {h i p : Nat} (ht : ty = 0 ∨ ty = 1) (hh : h ≤ i) (hi0 : 0 < i) (hi : i ≤ 40) (hp0 : 0 < p) (hp : p ≤ 40) : eI ty (dq ty h i p) := by
  obtain ⟨i, rfl⟩ : ∃ x, i = x + 1 := ⟨i - 1, by omega⟩
  obtain ⟨p, rfl⟩ : ∃ x, p = x + 1 := ⟨p - 1, by omega⟩
  rcases ht with e | e
  · subst e
    exact Or.inr ⟨rfl, (fd_eIF (by omega) hh (by omega)).1⟩
  · subst e
    exact Or.inl ⟨rfl, fd_eID (by omega) hh (by omega)⟩
theorem dq_D {h i p : Nat} (hh : h ≤ i) (hi0 : 0 < i) (hi : i ≤ 40) (hp0 : 0 < p) (hp : p ≤ 40) : vf_n64 (FP.ddiv (FP.i2d (nI h)) (FP.i2d (nI i))) ∧ vf_n64 (FP.ddiv (FP.ddiv (FP.i2d (nI h)) (FP.i2d (nI i))) (FP.i2d (nI p))) := by
  obtain ⟨i, rfl⟩ : ∃ x, i = x + 1 := ⟨i - 1, by omega⟩
  obtain ⟨p, rfl⟩ : ∃ x, p = x + 1 := ⟨p - 1, by omega⟩
  refine ⟨vf_of ((FP.Core.notNaN_iff _).mp (fd_nanD i (by omega) h (by omega))), ?_⟩
  obtain ⟨k, hk, -⟩ := fd_eID (i := i) (h := h) (p := p) (by omega) hh (by omega)
  exact hk.vf
theorem dq_F {h i p : Nat} (hh : h ≤ i) (hi0 : 0 < i) (hi : i ≤ 40) (hp0 : 0 < p) (hp : p ≤ 40) : vf_n32 (FP.fdiv (FP.i2f (nI h)) (FP.i2f (nI i))) ∧ vf_n32 (FP.fdiv (FP.fdiv (FP.i2f (nI h)) (FP.i2f (nI i))) (FP.i2f (nI p))) ∧ vf_n64 (FP.f2d (FP.fdiv (FP.fdiv (FP.i2f (nI h)) (FP.i2f (nI i))) (FP.i2f (nI p)))) := by
  obtain ⟨i, rfl⟩ : ∃ x, i = x + 1 := ⟨i - 1, by omega⟩
  obtain ⟨p, rfl⟩ : ∃ x, p = x + 1 := ⟨p - 1, by omega⟩
  obtain ⟨⟨w, k, e, hk, -⟩, hv⟩ := fd_eIF (i := i) (h := h) (p := p) (by omega) hh (by omega)
  refine ⟨vf32_of ((FP.Core.notNaN_iff32 _).mp (fd_nanF i (by omega) h (by omega))), hv, ?_⟩
  rw [e]
  exact hk.d.vf
theorem r_putQuotient (d : Nat) {S : aq_S} {a sz h i p : Nat} {ty : Int32} {v : Nat → UInt64} (hr : hRow S a ty sz v) (hh : h ≤ i + 1) (hi : i < 40) (hp0 : 0 < p) (hp : p ≤ 40) : aX (d + 2) 17 [.ref a, .int (nI i), .int (nI h), .int (nI (i + 1)), .int (nI p)] S (fun o S' => o = .inl none ∧ hRow S' a ty sz (vf_upd v i (dq ty h (i + 1) p)) ∧ aq_fr S S' (fun q => q = a + 1)) := by
  refine ar_run (Nat.le_of_ble_eq_true rfl) (fun o S1 h => h.2.2.le) ?_
  refine ar_ld i_X1_putQuotient_0 rfl rfl ?_
  refine ar_push i_X1_putQuotient_1 ?_
  refine ar_iff i_X1_putQuotient_2 rfl (nI_nlt (b := 1) (by omega) (by omega)) ?_
  refine ar_ld i_X1_putQuotient_5 rfl rfl ?_
  refine ar_push i_X1_putQuotient_7 ?_
  refine ar_ift i_X1_putQuotient_8 rfl (nI_le (a := 1) (by omega) (by omega)) ?_
  refine ar_ld i_X1_putQuotient_12 rfl rfl ?_
  refine ar_gf i_X1_putQuotient_13 (hr.1) rfl ?_
  by_cases ht : ty = 1
  · obtain ⟨v1, v2⟩ := dq_D (h := h) (i := i + 1) (p := p) hh (by omega) (by omega) hp0 hp
    refine ar_iff i_X1_putQuotient_16 rfl (fun z => absurd z (bI_nz.mpr ht)) ?_
    refine ar_ld i_X1_putQuotient_19 rfl rfl ?_
    refine ar_ld i_X1_putQuotient_20 rfl rfl ?_
    refine ar_ld i_X1_putQuotient_21 rfl rfl ?_
    refine ar_ar i_X1_putQuotient_22 rfl ?_
    refine ar_ld i_X1_putQuotient_23 rfl rfl ?_
    refine ar_ar i_X1_putQuotient_24 rfl ?_
    refine ar_arc i_X1_putQuotient_25 rfl (v1) ?_
    refine ar_ld i_X1_putQuotient_26 rfl rfl ?_
    refine ar_ar i_X1_putQuotient_28 rfl ?_
    refine ar_arc i_X1_putQuotient_29 rfl (v2) ?_
    rw [show dq ty h (i + 1) p = FP.ddiv (FP.ddiv (FP.i2d (nI h)) (FP.i2d (nI (i + 1)))) (FP.i2d (nI p)) from if_pos ht]
    refine av_cv i_X1_putQuotient_30 rfl ⟨_, _, _, rfl, hr.1⟩ (Nat.le_of_ble_eq_true rfl) (r_put d hr (show i < 41 by omega) _) (fun S2 q2 => ?_)
    refine ar_go i_X1_putQuotient_33 ?_
    exact ar_retv i_X1_putQuotient_51 ⟨rfl, q2⟩
  · obtain ⟨v1, v2, v3⟩ := dq_F (h := h) (i := i + 1) (p := p) hh (by omega) (by omega) hp0 hp
    refine ar_ift i_X1_putQuotient_16 rfl (bI_f ht) ?_
    refine ar_ld i_X1_putQuotient_36 rfl rfl ?_
    refine ar_ld i_X1_putQuotient_37 rfl rfl ?_
    refine ar_ld i_X1_putQuotient_38 rfl rfl ?_
    refine ar_ar i_X1_putQuotient_39 rfl ?_
    refine ar_ld i_X1_putQuotient_40 rfl rfl ?_
    refine ar_ar i_X1_putQuotient_41 rfl ?_
    refine ar_arc i_X1_putQuotient_42 rfl (v1) ?_
    refine ar_ld i_X1_putQuotient_43 rfl rfl ?_
    refine ar_ar i_X1_putQuotient_45 rfl ?_
    refine ar_arc i_X1_putQuotient_46 rfl (v2) ?_
    refine ar_arc i_X1_putQuotient_47 rfl (v3) ?_
    rw [show dq ty h (i + 1) p = FP.f2d (FP.fdiv (FP.fdiv (FP.i2f (nI h)) (FP.i2f (nI (i + 1)))) (FP.i2f (nI p))) from if_neg ht]
    refine av_cv i_X1_putQuotient_48 rfl ⟨_, _, _, rfl, hr.1⟩ (Nat.le_of_ble_eq_true rfl) (r_put d hr (show i < 41 by omega) _) (fun S2 q2 => ?_)
    exact ar_retv i_X1_putQuotient_51 ⟨rfl, q2⟩
theorem x_rowAt (d : Nat) {S : aq_S} {r : Nat} {hs : Int32} (h : hX S hs) (ha : hRA S) (hr : r < 2) : aX (d + 1) 111 [.ref 1, .int (nI r)] S (fun o S' => o = .inl (some (.ref (48 + 2 * r))) ∧ S' = S) := by
  obtain ⟨f, hf, hg⟩ := ha
  refine ar_run (Nat.le_of_ble_eq_true rfl) (fun o S1 h => aq_le_of (aq_le_refl S) h) ?_
  refine ar_ld i_X6_rowAt_0 rfl rfl ?_
  refine ar_iff i_X6_rowAt_1 rfl (nI_pos (by omega)) ?_
  refine ar_ld i_X6_rowAt_4 rfl rfl ?_
  refine ar_ld i_X6_rowAt_5 rfl rfl ?_
  refine ar_gf i_X6_rowAt_6 (h) rfl ?_
  refine ar_len i_X6_rowAt_9 (by decide) (hf) ?_
  refine ar_ift i_X6_rowAt_10 rfl (nI_lt (a := r) (b := 2) (by omega) (by omega)) ?_
  refine ar_ld i_X6_rowAt_17 rfl rfl ?_
  refine ar_gf i_X6_rowAt_18 (h) rfl ?_
  refine ar_ld i_X6_rowAt_21 rfl rfl ?_
  refine av_lda i_X6_rowAt_22 (hf) (by omega) (by omega) ?_
  rw [hg r hr]
  refine ar_st i_X6_rowAt_23 rfl rfl ?_
  refine ar_ld i_X6_rowAt_24 rfl rfl ?_
  refine ar_ift i_X6_rowAt_25 rfl (trivial) ?_
  refine ar_ld i_X6_rowAt_39 rfl rfl ?_
  exact ar_ret i_X6_rowAt_40 rfl ⟨rfl, rfl⟩
theorem x_rowAt_no (d : Nat) {S : aq_S} {p hs : Int32} (h : hX S hs) (ha : hRA S) (hp : p < 0 ∨ nI 2 ≤ p) : aX (d + 1) 111 [.ref 1, .int p] S (fun o S' => o = .inr "java/lang/IllegalArgumentException" ∧ S' = aq_thrown S) := by
  obtain ⟨f, hf, hg⟩ := ha
  refine ar_run (Nat.le_of_ble_eq_true rfl) (fun o S1 h => aq_le_of (aq_le_thr S) h) ?_
  refine ar_ld i_X6_rowAt_0 rfl rfl ?_
  refine ar_if i_X6_rowAt_1 rfl (fun c1 => ?_) (fun c1 => ?_)
  · refine ar_push i_X6_rowAt_13 ?_
    refine ar_go i_X6_rowAt_14 ?_
    refine ar_st i_X6_rowAt_23 rfl rfl ?_
    refine ar_ld i_X6_rowAt_24 rfl rfl ?_
    refine ar_iff i_X6_rowAt_25 rfl (id) ?_
    exact ar_thr i_X6_rowAt_28 (Nat.le_of_ble_eq_true rfl) ⟨rfl, rfl⟩
  · refine ar_ld i_X6_rowAt_4 rfl rfl ?_
    refine ar_ld i_X6_rowAt_5 rfl rfl ?_
    refine ar_gf i_X6_rowAt_6 (h) rfl ?_
    refine ar_len i_X6_rowAt_9 (by decide) (hf) ?_
    refine ar_iff i_X6_rowAt_10 rfl (fun z => absurd z (Int32.not_lt.mpr (hp.resolve_left c1))) ?_
    refine ar_push i_X6_rowAt_13 ?_
    refine ar_go i_X6_rowAt_14 ?_
    refine ar_st i_X6_rowAt_23 rfl rfl ?_
    refine ar_ld i_X6_rowAt_24 rfl rfl ?_
    refine ar_iff i_X6_rowAt_25 rfl (id) ?_
    exact ar_thr i_X6_rowAt_28 (Nat.le_of_ble_eq_true rfl) ⟨rfl, rfl⟩
theorem x_requireRow (d : Nat) {S : aq_S} {a sz : Nat} {ty : Int32} {v : Nat → UInt64} (h : hRow S a ty sz v) (ht : ¬ ty = -1) : aX (d + 2) 114 [.ref a] S (fun o S' => o = .inl none ∧ S' = S) := by
  refine ar_run (Nat.le_of_ble_eq_true rfl) (fun o S1 h => aq_le_of (aq_le_refl S) h) ?_
  refine ar_ld i_X6_requireRow_0 rfl rfl ?_
  refine ar_cr i_X6_requireRow_1 rfl ⟨_, _, _, rfl, h.1⟩ (Nat.le_of_ble_eq_true rfl) (r_isMissing d h) ?_
  refine ar_ift i_X6_requireRow_4 rfl (bI_f ht) ?_
  exact ar_retv i_X6_requireRow_18 ⟨rfl, rfl⟩
theorem x_requireRow_no (d : Nat) {S : aq_S} {a sz : Nat} {ty : Int32} {v : Nat → UInt64} (h : hRow S a ty sz v) (ht : ty = -1) : aX (d + 2) 114 [.ref a] S (fun o S' => o = .inr "java/lang/IllegalStateException" ∧ S' = aq_thrown S) := by
  refine ar_run (Nat.le_of_ble_eq_true rfl) (fun o S1 h => aq_le_of (aq_le_thr S) h) ?_
  refine ar_ld i_X6_requireRow_0 rfl rfl ?_
  refine ar_cr i_X6_requireRow_1 rfl ⟨_, _, _, rfl, h.1⟩ (Nat.le_of_ble_eq_true rfl) (r_isMissing d h) ?_
  refine ar_iff i_X6_requireRow_4 rfl (fun z => absurd z (bI_nz.mpr ht)) ?_
  exact ar_thr i_X6_requireRow_7 (Nat.le_of_ble_eq_true rfl) ⟨rfl, rfl⟩
theorem x_requireElement (d : Nat) {S : aq_S} {a sz i : Nat} {ty : Int32} {v : Nat → UInt64} (h : hRow S a ty sz v) (hi : i < sz) : aX (d + 2) 115 [.ref a, .int (nI i)] S (fun o S' => o = .inl none ∧ S' = S) := by
  have h41 := h.2.2.1
  refine ar_run (Nat.le_of_ble_eq_true rfl) (fun o S1 h => aq_le_of (aq_le_refl S) h) ?_
  refine ar_ld i_X6_requireElement_0 rfl rfl ?_
  refine ar_iff i_X6_requireElement_1 rfl (nI_pos (by omega)) ?_
  refine ar_ld i_X6_requireElement_4 rfl rfl ?_
  refine ar_ld i_X6_requireElement_5 rfl rfl ?_
  refine ar_cr i_X6_requireElement_6 rfl ⟨_, _, _, rfl, h.1⟩ (Nat.le_of_ble_eq_true rfl) (r_size d h) ?_
  refine ar_ift i_X6_requireElement_9 rfl (nI_lt hi (by omega)) ?_
  exact ar_retv i_X6_requireElement_23 ⟨rfl, rfl⟩
theorem x_requireElement_no (d : Nat) {S : aq_S} {a sz : Nat} {ty i : Int32} {v : Nat → UInt64} (h : hRow S a ty sz v) (hi : i < 0 ∨ nI sz ≤ i) : aX (d + 2) 115 [.ref a, .int i] S (fun o S' => o = .inr "java/lang/IndexOutOfBoundsException" ∧ S' = aq_thrown S) := by
  refine ar_run (Nat.le_of_ble_eq_true rfl) (fun o S1 h => aq_le_of (aq_le_thr S) h) ?_
  refine ar_ld i_X6_requireElement_0 rfl rfl ?_
  refine ar_if i_X6_requireElement_1 rfl (fun c1 => ?_) (fun c1 => ?_)
  · exact ar_thr i_X6_requireElement_12 (Nat.le_of_ble_eq_true rfl) ⟨rfl, rfl⟩
  · refine ar_ld i_X6_requireElement_4 rfl rfl ?_
    refine ar_ld i_X6_requireElement_5 rfl rfl ?_
    refine ar_cr i_X6_requireElement_6 rfl ⟨_, _, _, rfl, h.1⟩ (Nat.le_of_ble_eq_true rfl) (r_size d h) ?_
    refine ar_iff i_X6_requireElement_9 rfl (fun z => absurd z (Int32.not_lt.mpr (hi.resolve_left c1))) ?_
    exact ar_thr i_X6_requireElement_12 (Nat.le_of_ble_eq_true rfl) ⟨rfl, rfl⟩
end
