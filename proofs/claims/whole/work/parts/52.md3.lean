/-! ===== the reference: concatenate, reverse, rotate, holes, relations, join ===== -/
section
theorem m_replaces (d : Nat) {S : aq_S} {r n : Nat} {th k il err rd tl pc lo cur hs sv : Int32} {fl fw fp : Nat → Int32} (h : mO S th k il err rd tl pc lo cur hs sv) (w1 : ia S 53 4 fl) (w2 : ia S 54 160 fw) (w5 : ia S 55 40 fp) (hr : r < 4) (hl : fl r = nI n) (hn : n ≤ 40) : aX (d + 2) 147 [.ref 52, .int (nI r)] S (fun o S' => o = .inl (some (.int (bI (∀ i, i < n → fw (40 * r + i) = fp i)))) ∧ (∃ fw', ia S' 54 160 fw' ∧ (∀ i, i < n → fw' (40 * r + i) = fp i) ∧ ∀ x i, x ≠ r → i < 40 → fw' (40 * x + i) = fw (40 * x + i)) ∧ aq_fr S S' (fun q => q = 54)) := by
  refine ar_run (Nat.le_of_ble_eq_true rfl) (fun o S1 h => h.2.2.le) ?_
  refine ar_push i_X7_replaces_0 ?_
  refine ar_st i_X7_replaces_1 rfl rfl ?_
  refine ar_push i_X7_replaces_2 ?_
  refine ar_st i_X7_replaces_3 rfl rfl ?_
  suffices key : ∀ j i (S1 : aq_S) (F : Nat → Int32) (P : Prop), i + j = n → (P ↔ ∀ x, x < i → fw (40 * r + x) = fp x) → ia S1 54 160 F → (∀ x, x < i → F (40 * r + x) = fp x) → (∀ x, i ≤ x → x < 40 → F (40 * r + x) = fw (40 * r + x)) → (∀ x i, x ≠ r → i < 40 → F (40 * x + i) = fw (40 * x + i)) → aq_fr S S1 (fun q => q = 54) → aG (d + 1) 147 (fun o S' => o = .inl (some (.int (bI (∀ i, i < n → fw (40 * r + i) = fp i)))) ∧ (∃ fw', ia S' 54 160 fw' ∧ (∀ i, i < n → fw' (40 * r + i) = fp i) ∧ ∀ x i, x ≠ r → i < 40 → fw' (40 * x + i) = fw (40 * x + i)) ∧ aq_fr S S' (fun q => q = 54)) 4 [(0, .ref 52), (1, .int (nI r)), (2, .int (bI P)), (3, .int (nI i))] [] S1 by
    have := key n 0 S fw True (by omega) ⟨fun _ x hx => absurd hx (Nat.not_lt_zero x), fun _ => trivial⟩ w2 (fun x hx => absurd hx (Nat.not_lt_zero x)) (fun x _ _ => rfl) (fun x i _ _ => rfl) aq_fr.rf
    rw [bI_t trivial] at this
    exact this
  intro j
  induction j with
  | zero =>
    intro i S1 F P hi hP f1 f2 f3 f4 hfr
    have h1 := h.fr hfr (by omega)
    refine ar_ld i_X7_replaces_4 rfl rfl ?_
    refine ar_ld i_X7_replaces_5 rfl rfl ?_
    refine ar_gf i_X7_replaces_6 (h1) rfl ?_
    refine ar_ld i_X7_replaces_9 rfl rfl ?_
    refine av_ldi i_X7_replaces_10 (w1.fr hfr (by omega)) (by omega) (by omega) ?_
    rw [hl]
    refine ar_ift i_X7_replaces_11 rfl (nI_le (by omega) (by omega)) ?_
    refine ar_ld i_X7_replaces_62 rfl rfl ?_
    have e : i = n := by omega
    subst e
    exact ar_ret i_X7_replaces_63 ((bI_01 _)) ⟨by rw [bI_cg hP], ⟨F, f1, f2, f4⟩, hfr⟩
  | succ j ih =>
    intro i S1 F P hi hP f1 f2 f3 f4 hfr
    have h1 := h.fr hfr (by omega)
    have u1 := w1.fr hfr (by omega)
    have u5 := w5.fr hfr (by omega)
    have fin : aG (d + 1) 147 (fun o S' => o = .inl (some (.int (bI (∀ i, i < n → fw (40 * r + i) = fp i)))) ∧ (∃ fw', ia S' 54 160 fw' ∧ (∀ i, i < n → fw' (40 * r + i) = fp i) ∧ ∀ x i, x ≠ r → i < 40 → fw' (40 * x + i) = fw (40 * x + i)) ∧ aq_fr S S' (fun q => q = 54)) 38 [(0, .ref 52), (1, .int (nI r)), (2, .int (bI P)), (3, .int (nI i))] [.int (bI (P ∧ fw (40 * r + i) = fp i))] S1 := by
      refine ar_st i_X7_replaces_38 rfl rfl ?_
      refine ar_ld i_X7_replaces_39 rfl rfl ?_
      refine ar_gf i_X7_replaces_40 (h1) rfl ?_
      refine ar_push i_X7_replaces_43 ?_
      rw [show (40 : Int32) = nI 40 from rfl]
      refine ar_ld i_X7_replaces_45 rfl rfl ?_
      refine ar_ar i_X7_replaces_46 rfl ?_
      rw [pk_mul]
      refine ar_ld i_X7_replaces_47 rfl rfl ?_
      refine ar_ar i_X7_replaces_48 rfl ?_
      rw [nI_add]
      refine ar_ld i_X7_replaces_49 rfl rfl ?_
      refine ar_gf i_X7_replaces_50 (h1) rfl ?_
      refine ar_ld i_X7_replaces_53 rfl rfl ?_
      refine av_ldi i_X7_replaces_54 (u5) (by omega) (by omega) ?_
      refine av_sti i_X7_replaces_55 (by omega) (f1) (by omega) (by omega) (fun S2 g2 k2 => ?_)
      refine ar_inc i_X7_replaces_56 rfl rfl ?_
      refine ar_go i_X7_replaces_59 ?_
      have := ih (i + 1) S2 (upd F (40 * r + i) (fp i)) (P ∧ fw (40 * r + i) = fp i) (by omega) ⟨fun z x hx => by
        by_cases e : x = i
        · rw [e]; exact z.2
        · exact hP.mp z.1 x (by omega), fun z => ⟨hP.mpr (fun x hx => z x (by omega)), z i (by omega)⟩⟩ g2 (fun x hx => by
        by_cases e : x = i
        · rw [e, upd_eq]
        · rw [upd_ne (by omega)]; exact f2 x (by omega)) (fun x hx hx2 => by rw [upd_ne (by omega)]; exact f3 x (by omega) hx2) (fun x y hx hy => by rw [upd_ne (by omega)]; exact f4 x y hx hy) (hfr.tr k2)
      rw [← nI_1] at this
      exact this
    refine ar_ld i_X7_replaces_4 rfl rfl ?_
    refine ar_ld i_X7_replaces_5 rfl rfl ?_
    refine ar_gf i_X7_replaces_6 (h1) rfl ?_
    refine ar_ld i_X7_replaces_9 rfl rfl ?_
    refine av_ldi i_X7_replaces_10 (u1) (by omega) (by omega) ?_
    rw [hl]
    refine ar_iff i_X7_replaces_11 rfl (nI_ge (by omega) (by omega)) ?_
    refine ar_ld i_X7_replaces_14 rfl rfl ?_
    by_cases hPP : P
    · refine ar_iff i_X7_replaces_15 rfl (fun z => bI_nz.mpr hPP z) ?_
      refine ar_ld i_X7_replaces_18 rfl rfl ?_
      refine ar_ld i_X7_replaces_19 rfl rfl ?_
      refine ar_ld i_X7_replaces_20 rfl rfl ?_
      refine ar_cr i_X7_replaces_21 rfl ⟨_, _, _, rfl, h1⟩ (Nat.le_of_ble_eq_true rfl) (m_at d h1 f1 hr (i := i) (by omega)) ?_
      rw [f3 i (Nat.le_refl i) (by omega)]
      refine ar_ld i_X7_replaces_24 rfl rfl ?_
      refine ar_gf i_X7_replaces_25 (h1) rfl ?_
      refine ar_ld i_X7_replaces_28 rfl rfl ?_
      refine av_ldi i_X7_replaces_29 (u5) (by omega) (by omega) ?_
      refine ar_if i_X7_replaces_30 rfl (fun c30 => ?_) (fun c30 => ?_)
      · refine ar_push i_X7_replaces_37 ?_
        rw [bI_f (P := P ∧ fw (40 * r + i) = fp i) (fun z => c30 z.2)] at fin
        exact fin
      · refine ar_push i_X7_replaces_33 ?_
        refine ar_go i_X7_replaces_34 ?_
        rw [bI_t (P := P ∧ fw (40 * r + i) = fp i) ⟨hPP, Classical.byContradiction c30⟩] at fin
        exact fin
    · refine ar_ift i_X7_replaces_15 rfl (bI_f hPP) ?_
      refine ar_push i_X7_replaces_37 ?_
      rw [bI_f (P := P ∧ fw (40 * r + i) = fp i) (fun z => hPP z.1)] at fin
      exact fin
/-- the scratch row of the reference -/
def mP (S : aq_S) : Prop := ∃ f, ia S 55 40 f
theorem m_reverse_r (d : Nat) {S : aq_S} {th k il err rd tl pc lo cur hs sv : Int32} {a0 : Int32} (h : mO S th k il err rd tl pc lo cur hs sv) (hp : a0 < 0 ∨ nI 4 ≤ a0) : aX (d + 2) 148 [.ref 52, .int a0] S (fun o S' => o = .inl (some (.int 0)) ∧ mO S' (1) k il err rd tl pc lo cur hs sv ∧ aq_fr S S' (fun q => q = 52)) := by
  refine ar_run (Nat.le_of_ble_eq_true rfl) (fun o S1 h => h.2.2.le) ?_
  refine ar_ld i_X7_reverse_0 rfl rfl ?_
  refine ar_cr i_X7_reverse_1 rfl trivial (Nat.le_of_ble_eq_true rfl) (m_isReg_no d hp) ?_
  refine ar_iff i_X7_reverse_4 rfl (by decide) ?_
  refine ar_ld i_X7_reverse_7 rfl rfl ?_
  refine ar_push i_X7_reverse_8 ?_
  refine av_cr i_X7_reverse_9 rfl ⟨_, _, _, rfl, (h)⟩ (Nat.le_of_ble_eq_true rfl) (m_refuses d h 1) (fun S1 q1 => ?_)
  exact ar_ret i_X7_reverse_12 ((Or.inl rfl)) ⟨rfl, q1⟩
theorem m_reverse (d : Nat) {S : aq_S} {r : Nat} {th k il err rd tl pc lo cur hs sv : Int32} {N : Nat → Nat} {G : Nat → Nat → Int32} (h : mO S th k il err rd tl pc lo cur hs sv) (hw : mW S N G) (hp : mP S) (hr : r < 4) : aX (d + 3) 148 [.ref 52, .int (nI r)] S (fun o S' => o = .inl (some (.int (bI (∀ i, i < N r → G r (N r - 1 - i) = G r i)))) ∧ (mO S' (0) k il err rd tl pc lo cur hs sv ∧ mW S' (updN N r (N r)) (updG G r (fun i => G r (N r - 1 - i))) ∧ mP S') ∧ aq_fr S S' (fun q => 52 ≤ q ∧ q ≤ 55)) := by
  obtain ⟨fl, fw, w1, w2, w3, w4⟩ := hw
  obtain ⟨fp, w5⟩ := hp
  have hN := (w3 r hr).2
  refine ar_run (Nat.le_of_ble_eq_true rfl) (fun o S1 h => h.2.2.le) ?_
  refine ar_ld i_X7_reverse_0 rfl rfl ?_
  refine ar_cr i_X7_reverse_1 rfl trivial (Nat.le_of_ble_eq_true rfl) (m_isReg (d + 1) hr) ?_
  refine ar_ift i_X7_reverse_4 rfl (by decide) ?_
  refine ar_ld i_X7_reverse_13 rfl rfl ?_
  refine ar_push i_X7_reverse_14 ?_
  refine av_pf i_X7_reverse_15 (h) (Nat.le_of_ble_eq_true rfl) (rfl) rfl (fun S1 g1 k1 => ?_)
  have h1 : mO S1 (0) k il err rd tl pc lo cur hs sv := g1
  have u1 := w1.fr k1 (by omega)
  refine ar_ld i_X7_reverse_18 rfl rfl ?_
  refine ar_gf i_X7_reverse_19 (h1) rfl ?_
  refine ar_ld i_X7_reverse_22 rfl rfl ?_
  refine av_ldi i_X7_reverse_23 (u1) (by omega) (by omega) ?_
  rw [(w3 r hr).1]
  refine ar_st i_X7_reverse_24 rfl rfl ?_
  refine ar_push i_X7_reverse_25 ?_
  refine ar_st i_X7_reverse_26 rfl rfl ?_
  suffices key : ∀ j i (S1 : aq_S) (F : Nat → Int32), i + j = N r → mO S1 (0) k il err rd tl pc lo cur hs sv → ia S1 53 4 fl → ia S1 54 160 fw → ia S1 55 40 F → (∀ x, x < i → F x = G r (N r - 1 - x)) → aq_fr S S1 (fun q => 52 ≤ q ∧ q ≤ 55) → aG (d + 2) 148 (fun o S' => o = .inl (some (.int (bI (∀ i, i < N r → G r (N r - 1 - i) = G r i)))) ∧ (mO S' (0) k il err rd tl pc lo cur hs sv ∧ mW S' (updN N r (N r)) (updG G r (fun i => G r (N r - 1 - i))) ∧ mP S') ∧ aq_fr S S' (fun q => 52 ≤ q ∧ q ≤ 55)) 27 [(0, .ref 52), (1, .int (nI r)), (2, .int (nI (N r))), (3, .int (nI i))] [] S1 from key (N r) 0 S1 fp (by omega) h1 u1 (w2.fr k1 (by omega)) (w5.fr k1 (by omega)) (fun x hx => absurd hx (Nat.not_lt_zero x)) (k1.mono (fun q z => by omega))
  intro j
  induction j with
  | zero =>
    intro i S1 F hi h1 u1 u2 u5 hag hfr
    refine ar_ld i_X7_reverse_27 rfl rfl ?_
    refine ar_ld i_X7_reverse_28 rfl rfl ?_
    refine ar_ift i_X7_reverse_29 rfl (nI_le (by omega) (by omega)) ?_
    refine ar_ld i_X7_reverse_54 rfl rfl ?_
    refine ar_ld i_X7_reverse_55 rfl rfl ?_
    refine av_cr i_X7_reverse_56 rfl ⟨_, _, _, rfl, h1⟩ (Nat.le_of_ble_eq_true rfl) (m_replaces d h1 u1 u2 u5 hr (w3 r hr).1 hN) (fun S2 q2 => ?_)
    obtain ⟨⟨fw', q3, q4, q5⟩, q6⟩ := q2
    have e : (∀ i, i < N r → fw (40 * r + i) = F i) ↔ ∀ i, i < N r → G r (N r - 1 - i) = G r i := ⟨fun z x hx => by rw [← hag x (by omega), ← z x hx, w4 r hr x hx], fun z x hx => by rw [hag x (by omega), w4 r hr x hx]; exact (z x hx).symm⟩
    refine ar_ret i_X7_reverse_59 (bI_01 _) ⟨by rw [bI_cg e], ⟨h1.fr q6 (by omega), ⟨fl, fw', u1.fr q6 (by omega), q3, ?_⟩, F, u5.fr q6 (by omega)⟩, hfr.tr (q6.mono (fun q z => by omega))⟩
    exact mW_put hr hN w3 w4 (w3 r hr).1 (fun x hx e => rfl) (fun x hx => (q4 x hx).trans (hag x (by omega))) q5
  | succ j ih =>
    intro i S1 F hi h1 u1 u2 u5 hag hfr
    refine ar_ld i_X7_reverse_27 rfl rfl ?_
    refine ar_ld i_X7_reverse_28 rfl rfl ?_
    refine ar_iff i_X7_reverse_29 rfl (nI_ge (by omega) (by omega)) ?_
    refine ar_ld i_X7_reverse_32 rfl rfl ?_
    refine ar_gf i_X7_reverse_33 (h1) rfl ?_
    refine ar_ld i_X7_reverse_36 rfl rfl ?_
    refine ar_ld i_X7_reverse_37 rfl rfl ?_
    refine ar_ld i_X7_reverse_38 rfl rfl ?_
    refine ar_ld i_X7_reverse_39 rfl rfl ?_
    refine ar_push i_X7_reverse_40 ?_
    refine ar_ar i_X7_reverse_41 rfl ?_
    rw [nI_m1 (by omega)]
    refine ar_ld i_X7_reverse_42 rfl rfl ?_
    refine ar_ar i_X7_reverse_43 rfl ?_
    rw [pk_sub (by omega)]
    refine ar_cr i_X7_reverse_44 rfl ⟨_, _, _, rfl, h1⟩ (Nat.le_of_ble_eq_true rfl) (m_at (d + 1) h1 u2 hr (i := N r - 1 - i) (by omega)) ?_
    rw [w4 r hr _ (by omega)]
    refine av_sti i_X7_reverse_47 (by omega) (u5) (by omega) (by omega) (fun S2 g2 k2 => ?_)
    refine ar_inc i_X7_reverse_48 rfl rfl ?_
    refine ar_go i_X7_reverse_51 ?_
    have := ih (i + 1) S2 _ (by omega) (h1.fr k2 (by omega)) (u1.fr k2 (by omega)) (u2.fr k2 (by omega)) g2 (fun x hx => by
      by_cases e : x = i
      · rw [e, upd_eq]
      · rw [upd_ne e]; exact hag x (by omega)) (hfr.tr (k2.mono (fun q z => by omega)))
    rw [← nI_1] at this
    exact this
theorem m_rotate_r (d : Nat) {S : aq_S} {th k il err rd tl pc lo cur hs sv : Int32} {a0 : Int32} {a1 : Int32} (h : mO S th k il err rd tl pc lo cur hs sv) (hp : a0 < 0 ∨ nI 4 ≤ a0) : aX (d + 2) 149 [.ref 52, .int a0, .int a1] S (fun o S' => o = .inl (some (.int 0)) ∧ mO S' (1) k il err rd tl pc lo cur hs sv ∧ aq_fr S S' (fun q => q = 52)) := by
  refine ar_run (Nat.le_of_ble_eq_true rfl) (fun o S1 h => h.2.2.le) ?_
  refine ar_ld i_X7_rotate_0 rfl rfl ?_
  refine ar_cr i_X7_rotate_1 rfl trivial (Nat.le_of_ble_eq_true rfl) (m_isReg_no d hp) ?_
  refine ar_iff i_X7_rotate_4 rfl (by decide) ?_
  refine ar_ld i_X7_rotate_7 rfl rfl ?_
  refine ar_push i_X7_rotate_8 ?_
  refine av_cr i_X7_rotate_9 rfl ⟨_, _, _, rfl, (h)⟩ (Nat.le_of_ble_eq_true rfl) (m_refuses d h 1) (fun S1 q1 => ?_)
  exact ar_ret i_X7_rotate_12 ((Or.inl rfl)) ⟨rfl, q1⟩
theorem m_rotB {x : Int32} {n : Nat} (hn : n ≤ 40) : ((0 : Int64) ≤ x.toInt64 ∧ x.toInt64 ≤ (nI n).toInt64) ↔ ¬ (x < 0 ∨ nI (n + 1) ≤ x) := by
  rw [nI_l (by omega)]
  have a := i2l_ge (a := n) (by omega) x
  have b := i2l_le (b := 0) (a := 0) (by omega) x
  have c := le_succ_iff (x := x) (a := n) (by omega)
  refine ⟨fun z u => ?_, fun z => ⟨b.mpr (Int32.not_lt.mp (fun u => z (Or.inl u))), a.mpr (c.mpr (fun u => z (Or.inr u)))⟩⟩
  rcases u with u | u
  · exact absurd u (Int32.not_lt.mpr (b.mp z.1))
  · exact c.mp (a.mp z.2) u
theorem m_rotate_n (d : Nat) {S : aq_S} {r : Nat} {x : Int32} {th k il err rd tl pc lo cur hs sv : Int32} {N : Nat → Nat} {G : Nat → Nat → Int32} (h : mO S th k il err rd tl pc lo cur hs sv) (hw : mW S N G) (hr : r < 4) (hx : x < 0 ∨ nI (N r + 1) ≤ x) : aX (d + 3) 149 [.ref 52, .int (nI r), .int x] S (fun o S' => o = .inl (some (.int 0)) ∧ mO S' (2) k il err rd tl pc lo cur hs sv ∧ aq_fr S S' (fun q => q = 52)) := by
  obtain ⟨fl, fw, w1, w2, w3, w4⟩ := hw
  have hN := (w3 r hr).2
  refine ar_run (Nat.le_of_ble_eq_true rfl) (fun o S1 h => h.2.2.le) ?_
  refine ar_ld i_X7_rotate_0 rfl rfl ?_
  refine ar_cr i_X7_rotate_1 rfl trivial (Nat.le_of_ble_eq_true rfl) (m_isReg (d + 1) hr) ?_
  refine ar_ift i_X7_rotate_4 rfl (by decide) ?_
  refine ar_ld i_X7_rotate_13 rfl rfl ?_
  refine ar_gf i_X7_rotate_14 (h) rfl ?_
  refine ar_ld i_X7_rotate_17 rfl rfl ?_
  refine av_ldi i_X7_rotate_18 (w1) (by omega) (by omega) ?_
  rw [(w3 r hr).1]
  refine ar_st i_X7_rotate_19 rfl rfl ?_
  refine ar_ld i_X7_rotate_20 rfl rfl ?_
  refine ar_ar i_X7_rotate_21 rfl ?_
  refine ar_push i_X7_rotate_22 ?_
  refine ar_ld i_X7_rotate_23 rfl rfl ?_
  refine ar_ar i_X7_rotate_24 rfl ?_
  refine ar_cr i_X7_rotate_25 rfl trivial (Nat.le_of_ble_eq_true rfl) (m_isBetween (d + 1)) ?_
  refine ar_iff i_X7_rotate_28 rfl (fun z => z (bI_f (fun u => (m_rotB hN).mp u hx))) ?_
  refine ar_ld i_X7_rotate_31 rfl rfl ?_
  refine ar_push i_X7_rotate_32 ?_
  refine av_cr i_X7_rotate_33 rfl ⟨_, _, _, rfl, (h)⟩ (Nat.le_of_ble_eq_true rfl) (m_refuses (d + 1) h 2) (fun S1 q1 => ?_)
  exact ar_ret i_X7_rotate_36 ((Or.inl rfl)) ⟨rfl, q1⟩
theorem m_rotate (d : Nat) {S : aq_S} {r n : Nat} {th k il err rd tl pc lo cur hs sv : Int32} {N : Nat → Nat} {G : Nat → Nat → Int32} (h : mO S th k il err rd tl pc lo cur hs sv) (hw : mW S N G) (hp : mP S) (hr : r < 4) (hn : n ≤ N r) : aX (d + 3) 149 [.ref 52, .int (nI r), .int (nI n)] S (fun o S' => o = .inl (some (.int (bI (∀ i, i < N r → G r ((i + n) % N r) = G r i)))) ∧ (mO S' (0) k il err rd tl pc lo cur hs sv ∧ mW S' (updN N r (N r)) (updG G r (fun i => G r ((i + n) % N r))) ∧ mP S') ∧ aq_fr S S' (fun q => 52 ≤ q ∧ q ≤ 55)) := by
  obtain ⟨fl, fw, w1, w2, w3, w4⟩ := hw
  obtain ⟨fp, w5⟩ := hp
  have hN := (w3 r hr).2
  refine ar_run (Nat.le_of_ble_eq_true rfl) (fun o S1 h => h.2.2.le) ?_
  refine ar_ld i_X7_rotate_0 rfl rfl ?_
  refine ar_cr i_X7_rotate_1 rfl trivial (Nat.le_of_ble_eq_true rfl) (m_isReg (d + 1) hr) ?_
  refine ar_ift i_X7_rotate_4 rfl (by decide) ?_
  refine ar_ld i_X7_rotate_13 rfl rfl ?_
  refine ar_gf i_X7_rotate_14 (h) rfl ?_
  refine ar_ld i_X7_rotate_17 rfl rfl ?_
  refine av_ldi i_X7_rotate_18 (w1) (by omega) (by omega) ?_
  rw [(w3 r hr).1]
  refine ar_st i_X7_rotate_19 rfl rfl ?_
  refine ar_ld i_X7_rotate_20 rfl rfl ?_
  refine ar_ar i_X7_rotate_21 rfl ?_
  refine ar_push i_X7_rotate_22 ?_
  refine ar_ld i_X7_rotate_23 rfl rfl ?_
  refine ar_ar i_X7_rotate_24 rfl ?_
  refine ar_cr i_X7_rotate_25 rfl trivial (Nat.le_of_ble_eq_true rfl) (m_isBetween (d + 1)) ?_
  refine ar_ift i_X7_rotate_28 rfl (bI_nz.mpr ((m_rotB hN).mpr (fun z => z.elim (fun u => nI_pos (by omega) u) (fun u => nI_ge (show n < N r + 1 by omega) (by omega) u)))) ?_
  refine ar_ld i_X7_rotate_37 rfl rfl ?_
  refine ar_push i_X7_rotate_38 ?_
  refine av_pf i_X7_rotate_39 (h) (Nat.le_of_ble_eq_true rfl) (rfl) rfl (fun S1 g1 k1 => ?_)
  have h1 : mO S1 (0) k il err rd tl pc lo cur hs sv := g1
  have u1 := w1.fr k1 (by omega)
  refine ar_push i_X7_rotate_42 ?_
  refine ar_st i_X7_rotate_43 rfl rfl ?_
  suffices key : ∀ j i (S1 : aq_S) (F : Nat → Int32), i + j = N r → mO S1 (0) k il err rd tl pc lo cur hs sv → ia S1 53 4 fl → ia S1 54 160 fw → ia S1 55 40 F → (∀ x, x < i → F x = G r ((x + n) % N r)) → aq_fr S S1 (fun q => 52 ≤ q ∧ q ≤ 55) → aG (d + 2) 149 (fun o S' => o = .inl (some (.int (bI (∀ i, i < N r → G r ((i + n) % N r) = G r i)))) ∧ (mO S' (0) k il err rd tl pc lo cur hs sv ∧ mW S' (updN N r (N r)) (updG G r (fun i => G r ((i + n) % N r))) ∧ mP S') ∧ aq_fr S S' (fun q => 52 ≤ q ∧ q ≤ 55)) 45 [(0, .ref 52), (1, .int (nI r)), (2, .int (nI n)), (3, .int (nI (N r))), (4, .int (nI i))] [] S1 from key (N r) 0 S1 fp (by omega) h1 u1 (w2.fr k1 (by omega)) (w5.fr k1 (by omega)) (fun x hx => absurd hx (Nat.not_lt_zero x)) (k1.mono (fun q z => by omega))
  intro j
  induction j with
  | zero =>
    intro i S1 F hi h1 u1 u2 u5 hag hfr
    refine ar_ld i_X7_rotate_45 rfl rfl ?_
    refine ar_ld i_X7_rotate_47 rfl rfl ?_
    refine ar_ift i_X7_rotate_48 rfl (nI_le (by omega) (by omega)) ?_
    refine ar_ld i_X7_rotate_75 rfl rfl ?_
    refine ar_ld i_X7_rotate_76 rfl rfl ?_
    refine av_cr i_X7_rotate_77 rfl ⟨_, _, _, rfl, h1⟩ (Nat.le_of_ble_eq_true rfl) (m_replaces d h1 u1 u2 u5 hr (w3 r hr).1 hN) (fun S2 q2 => ?_)
    obtain ⟨⟨fw', q3, q4, q5⟩, q6⟩ := q2
    have e : (∀ i, i < N r → fw (40 * r + i) = F i) ↔ ∀ i, i < N r → G r ((i + n) % N r) = G r i := ⟨fun z x hx => by rw [← hag x (by omega), ← z x hx, w4 r hr x hx], fun z x hx => by rw [hag x (by omega), w4 r hr x hx]; exact (z x hx).symm⟩
    refine ar_ret i_X7_rotate_80 (bI_01 _) ⟨by rw [bI_cg e], ⟨h1.fr q6 (by omega), ⟨fl, fw', u1.fr q6 (by omega), q3, ?_⟩, F, u5.fr q6 (by omega)⟩, hfr.tr (q6.mono (fun q z => by omega))⟩
    exact mW_put hr hN w3 w4 (w3 r hr).1 (fun x hx e => rfl) (fun x hx => (q4 x hx).trans (hag x (by omega))) q5
  | succ j ih =>
    intro i S1 F hi h1 u1 u2 u5 hag hfr
    have hml : (i + n) % N r < N r := Nat.mod_lt _ (by omega)
    refine ar_ld i_X7_rotate_45 rfl rfl ?_
    refine ar_ld i_X7_rotate_47 rfl rfl ?_
    refine ar_iff i_X7_rotate_48 rfl (nI_ge (by omega) (by omega)) ?_
    refine ar_ld i_X7_rotate_51 rfl rfl ?_
    refine ar_gf i_X7_rotate_52 (h1) rfl ?_
    refine ar_ld i_X7_rotate_55 rfl rfl ?_
    refine ar_ld i_X7_rotate_57 rfl rfl ?_
    refine ar_ld i_X7_rotate_58 rfl rfl ?_
    refine ar_ld i_X7_rotate_59 rfl rfl ?_
    refine ar_ld i_X7_rotate_61 rfl rfl ?_
    refine ar_ar i_X7_rotate_62 rfl ?_
    rw [nI_add]
    refine ar_ld i_X7_rotate_63 rfl rfl ?_
    refine ar_arc i_X7_rotate_64 rfl (nI_ne0 (by omega) (by omega)) ?_
    rw [pk_rem (by omega) (by omega) (by omega)]
    refine ar_cr i_X7_rotate_65 rfl ⟨_, _, _, rfl, h1⟩ (Nat.le_of_ble_eq_true rfl) (m_at (d + 1) h1 u2 hr (i := (i + n) % N r) (by omega)) ?_
    rw [w4 r hr _ hml]
    refine av_sti i_X7_rotate_68 (by omega) (u5) (by omega) (by omega) (fun S2 g2 k2 => ?_)
    refine ar_inc i_X7_rotate_69 rfl rfl ?_
    refine ar_go i_X7_rotate_72 ?_
    have := ih (i + 1) S2 _ (by omega) (h1.fr k2 (by omega)) (u1.fr k2 (by omega)) (u2.fr k2 (by omega)) g2 (fun x hx => by
      by_cases e : x = i
      · rw [e, upd_eq]
      · rw [upd_ne e]; exact hag x (by omega)) (hfr.tr (k2.mono (fun q z => by omega)))
    rw [← nI_1] at this
    exact this
theorem m_holesOf (d : Nat) {S : aq_S} {r : Nat} {th k il err rd tl pc lo cur hs sv : Int32} {N : Nat → Nat} {G : Nat → Nat → Int32} (h : mO S th k il err rd tl pc lo cur hs sv) (hw : mW S N G) (hr : r < 4) : aX (d + 2) 150 [.ref 52, .int (nI r)] S (fun o S' => o = .inl (some (.int (nI (wholes (G r) (N r))))) ∧ S' = S) := by
  obtain ⟨fl, fw, w1, w2, w3, w4⟩ := hw
  have hN := (w3 r hr).2
  refine ar_run (Nat.le_of_ble_eq_true rfl) (fun o S1 h => aq_le_of (aq_le_refl S) h) ?_
  refine ar_push i_X7_holesOf_0 ?_
  refine ar_st i_X7_holesOf_1 rfl rfl ?_
  refine ar_push i_X7_holesOf_2 ?_
  refine ar_st i_X7_holesOf_3 rfl rfl ?_
  suffices key : ∀ j i, i + j = N r → aG (d + 1) 150 (fun o S' => o = .inl (some (.int (nI (wholes (G r) (N r))))) ∧ S' = S) 4 [(0, .ref 52), (1, .int (nI r)), (2, .int (nI (wholes (G r) i))), (3, .int (nI i))] [] S from key (N r) 0 (by omega)
  intro j
  induction j with
  | zero =>
    intro i hi
    refine ar_ld i_X7_holesOf_4 rfl rfl ?_
    refine ar_ld i_X7_holesOf_5 rfl rfl ?_
    refine ar_gf i_X7_holesOf_6 (h) rfl ?_
    refine ar_ld i_X7_holesOf_9 rfl rfl ?_
    refine av_ldi i_X7_holesOf_10 (w1) (by omega) (by omega) ?_
    rw [(w3 r hr).1]
    refine ar_ift i_X7_holesOf_11 rfl (nI_le (by omega) (by omega)) ?_
    refine ar_ld i_X7_holesOf_38 rfl rfl ?_
    exact ar_ret i_X7_holesOf_39 rfl ⟨by rw [show i = N r by omega], rfl⟩
  | succ j ih =>
    intro i hi
    have := ih (i + 1) (by omega)
    rw [← nI_1] at this
    refine ar_ld i_X7_holesOf_4 rfl rfl ?_
    refine ar_ld i_X7_holesOf_5 rfl rfl ?_
    refine ar_gf i_X7_holesOf_6 (h) rfl ?_
    refine ar_ld i_X7_holesOf_9 rfl rfl ?_
    refine av_ldi i_X7_holesOf_10 (w1) (by omega) (by omega) ?_
    rw [(w3 r hr).1]
    refine ar_iff i_X7_holesOf_11 rfl (nI_ge (by omega) (by omega)) ?_
    refine ar_ld i_X7_holesOf_14 rfl rfl ?_
    refine ar_ld i_X7_holesOf_15 rfl rfl ?_
    refine ar_ld i_X7_holesOf_16 rfl rfl ?_
    refine ar_ld i_X7_holesOf_17 rfl rfl ?_
    refine ar_cr i_X7_holesOf_18 rfl ⟨_, _, _, rfl, (h)⟩ (Nat.le_of_ble_eq_true rfl) (m_at d h w2 hr (i := i) (by omega)) ?_
    rw [w4 r hr i (by omega)]
    refine ar_push i_X7_holesOf_21 ?_
    refine ar_if i_X7_holesOf_22 rfl (fun c22 => ?_) (fun c22 => ?_)
    · refine ar_push i_X7_holesOf_29 ?_
      refine ar_ar i_X7_holesOf_30 rfl ?_
      refine ar_st i_X7_holesOf_31 rfl rfl ?_
      refine ar_inc i_X7_holesOf_32 rfl rfl ?_
      refine ar_go i_X7_holesOf_35 ?_
      rw [wholes_n c22] at this
      rw [Int32.add_zero]
      exact this
    · refine ar_push i_X7_holesOf_25 ?_
      refine ar_go i_X7_holesOf_26 ?_
      refine ar_ar i_X7_holesOf_30 rfl ?_
      refine ar_st i_X7_holesOf_31 rfl rfl ?_
      refine ar_inc i_X7_holesOf_32 rfl rfl ?_
      refine ar_go i_X7_holesOf_35 ?_
      rw [wholes_y (Classical.byContradiction c22), ← nI_1] at this
      exact this
theorem m_holes_r (d : Nat) {S : aq_S} {th k il err rd tl pc lo cur hs sv : Int32} {a0 : Int32} (h : mO S th k il err rd tl pc lo cur hs sv) (hp : a0 < 0 ∨ nI 4 ≤ a0) : aX (d + 2) 151 [.ref 52, .int a0] S (fun o S' => o = .inl (some (.int 0)) ∧ mO S' (1) k il err rd tl pc lo cur hs sv ∧ aq_fr S S' (fun q => q = 52)) := by
  refine ar_run (Nat.le_of_ble_eq_true rfl) (fun o S1 h => h.2.2.le) ?_
  refine ar_ld i_X7_holes_0 rfl rfl ?_
  refine ar_cr i_X7_holes_1 rfl trivial (Nat.le_of_ble_eq_true rfl) (m_isReg_no d hp) ?_
  refine ar_iff i_X7_holes_4 rfl (by decide) ?_
  refine ar_ld i_X7_holes_7 rfl rfl ?_
  refine ar_push i_X7_holes_8 ?_
  refine av_cr i_X7_holes_9 rfl ⟨_, _, _, rfl, (h)⟩ (Nat.le_of_ble_eq_true rfl) (m_fails d h 1) (fun S1 q1 => ?_)
  exact ar_ret i_X7_holes_12 rfl ⟨rfl, q1⟩
theorem m_holes (d : Nat) {S : aq_S} {r : Nat} {th k il err rd tl pc lo cur hs sv : Int32} {N : Nat → Nat} {G : Nat → Nat → Int32} (h : mO S th k il err rd tl pc lo cur hs sv) (hw : mW S N G) (hr : r < 4) : aX (d + 3) 151 [.ref 52, .int (nI r)] S (fun o S' => o = .inl (some (.int (nI (wholes (G r) (N r))))) ∧ mO S' (0) k il err rd tl pc lo cur hs sv ∧ aq_fr S S' (fun q => q = 52)) := by
  refine ar_run (Nat.le_of_ble_eq_true rfl) (fun o S1 h => h.2.2.le) ?_
  refine ar_ld i_X7_holes_0 rfl rfl ?_
  refine ar_cr i_X7_holes_1 rfl trivial (Nat.le_of_ble_eq_true rfl) (m_isReg (d + 1) hr) ?_
  refine ar_ift i_X7_holes_4 rfl (by decide) ?_
  refine ar_ld i_X7_holes_13 rfl rfl ?_
  refine ar_push i_X7_holes_14 ?_
  refine av_pf i_X7_holes_15 (h) (Nat.le_of_ble_eq_true rfl) (rfl) rfl (fun S1 g1 k1 => ?_)
  have h1 : mO S1 (0) k il err rd tl pc lo cur hs sv := g1
  refine ar_ld i_X7_holes_18 rfl rfl ?_
  refine ar_ld i_X7_holes_19 rfl rfl ?_
  refine ar_cr i_X7_holes_20 rfl ⟨_, _, _, rfl, h1⟩ (Nat.le_of_ble_eq_true rfl) (m_holesOf d h1 (hw.fr k1 (by omega) (by omega)) hr) ?_
  exact ar_ret i_X7_holes_23 rfl ⟨rfl, h1, k1⟩
end
