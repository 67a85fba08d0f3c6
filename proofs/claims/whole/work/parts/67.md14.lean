/-! ===== the reference: snapshots ===== -/
section
/-- what is passed: from the state, or from what was saved -/
def pkB (b : Bool) (x y : Int32) : Int32 := match b with
  | true => x
  | false => y
theorem b2i_01 (b : Bool) : b2i b = 0 ∨ b2i b = 1 := by
  cases b with
  | true => exact Or.inr rfl
  | false => exact Or.inl rfl
theorem m_passes (d : Nat) {S : aq_S} {c : Nat} {F : Nat → Int32} (b : Bool) {th k il err rd tl pc lo hs : Int32} (h : mO S th k il err rd tl pc lo (nI c) hs (b2i b)) (hF : ia S 70 240 F) (hc : c < 240) (x : Int32) : aX (d + 1) 207 [.ref 52, .int x] S (fun o S' => o = .inl (some (.int (pkB b x (F c)))) ∧ (mO S' th k il err rd tl pc lo (nI (c + 1)) hs (b2i b) ∧ ia S' 70 240 (upd F c (pkB b x (F c)))) ∧ aq_fr S S' (fun q => q = 52 ∨ q = 70)) := by
  refine ar_run (Nat.le_of_ble_eq_true rfl) (fun o S1 h => h.2.2.le) ?_
  have fin : ∀ w, aG d 207 (fun o S' => o = .inl (some (.int w)) ∧ (mO S' th k il err rd tl pc lo (nI (c + 1)) hs (b2i b) ∧ ia S' 70 240 (upd F c w)) ∧ aq_fr S S' (fun q => q = 52 ∨ q = 70)) 20 [(0, .ref 52), (1, .int x)] [.int w] S := by
    intro w
    refine ar_st i_X7_passes_20 rfl rfl ?_
    refine ar_ld i_X7_passes_21 rfl rfl ?_
    refine ar_gf i_X7_passes_22 (h) rfl ?_
    refine ar_ld i_X7_passes_25 rfl rfl ?_
    refine ar_gf i_X7_passes_26 (h) rfl ?_
    refine ar_ld i_X7_passes_29 rfl rfl ?_
    refine av_sti i_X7_passes_30 (by omega) (hF) (by omega) (by omega) (fun S1 g1 k1 => ?_)
    have o1 := h.fr k1 (by omega)
    refine ar_ld i_X7_passes_31 rfl rfl ?_
    refine ar_ar i_X7_passes_32 rfl ?_
    refine ar_gf i_X7_passes_33 (o1) rfl ?_
    refine ar_push i_X7_passes_36 ?_
    refine ar_ar i_X7_passes_37 rfl ?_
    rw [nI_1]
    refine av_pf i_X7_passes_38 (o1) (Nat.le_of_ble_eq_true rfl) (rfl) rfl (fun S2 g2 k2 => ?_)
    refine ar_ld i_X7_passes_41 rfl rfl ?_
    exact ar_ret i_X7_passes_42 rfl ⟨rfl, ⟨g2, (k2.2.2.2 70 (by omega)).trans g1⟩, (k1.mono (fun q z => Or.inr z)).tr (k2.mono (fun q z => Or.inl z))⟩
  cases b with
  | true =>
    refine ar_ld i_X7_passes_0 rfl rfl ?_
    refine ar_gf i_X7_passes_1 (h) rfl ?_
    refine ar_iff i_X7_passes_4 rfl (by decide) ?_
    refine ar_ld i_X7_passes_7 rfl rfl ?_
    refine ar_go i_X7_passes_8 ?_
    exact fin x
  | false =>
    refine ar_ld i_X7_passes_0 rfl rfl ?_
    refine ar_gf i_X7_passes_1 (h) rfl ?_
    refine ar_ift i_X7_passes_4 rfl (rfl) ?_
    refine ar_ld i_X7_passes_11 rfl rfl ?_
    refine ar_gf i_X7_passes_12 (h) rfl ?_
    refine ar_ld i_X7_passes_15 rfl rfl ?_
    refine ar_gf i_X7_passes_16 (h) rfl ?_
    refine av_ldi i_X7_passes_19 (hF) (by omega) (by omega) ?_
    exact fin (F c)
theorem m_passAll (d : Nat) {S : aq_S} {c a M : Nat} {f F : Nat → Int32} (b : Bool) {th k il err rd tl pc lo hs : Int32} (h : mO S th k il err rd tl pc lo (nI c) hs (b2i b)) (hF : ia S 70 240 F) (hf : ia S a M f) (hcM : c + M ≤ 240) (ha : a ≠ 52 ∧ a ≠ 70 ∧ a ≠ 0) : aX (d + 2) 208 [.ref 52, .ref a] S (fun o S' => o = .inl none ∧ (mO S' th k il err rd tl pc lo (nI (c + M)) hs (b2i b) ∧ (∃ F', ia S' 70 240 F' ∧ (∀ i, i < M → F' (c + i) = pkB b (f i) (F (c + i))) ∧ ∀ x, (x < c ∨ c + M ≤ x) → F' x = F x) ∧ ∃ f', ia S' a M f' ∧ ∀ i, i < M → f' i = pkB b (f i) (F (c + i))) ∧ aq_fr S S' (fun q => q = 52 ∨ q = 70 ∨ q = a)) := by
  refine ar_run (Nat.le_of_ble_eq_true rfl) (fun o S1 h => h.2.2.le) ?_
  refine ar_push i_X7_passAll_0 ?_
  refine ar_st i_X7_passAll_1 rfl rfl ?_
  suffices key : ∀ j i (S1 : aq_S) (F1 f1 : Nat → Int32), i + j = M → mO S1 th k il err rd tl pc lo (nI (c + i)) hs (b2i b) → ia S1 70 240 F1 → ia S1 a M f1 → (∀ x, x < i → F1 (c + x) = pkB b (f x) (F (c + x))) → (∀ x, (x < c ∨ c + i ≤ x) → F1 x = F x) → (∀ x, x < i → f1 x = pkB b (f x) (F (c + x))) → (∀ x, i ≤ x → f1 x = f x) → aq_fr S S1 (fun q => q = 52 ∨ q = 70 ∨ q = a) → aG (d + 1) 208 (fun o S' => o = .inl none ∧ (mO S' th k il err rd tl pc lo (nI (c + M)) hs (b2i b) ∧ (∃ F', ia S' 70 240 F' ∧ (∀ i, i < M → F' (c + i) = pkB b (f i) (F (c + i))) ∧ ∀ x, (x < c ∨ c + M ≤ x) → F' x = F x) ∧ ∃ f', ia S' a M f' ∧ ∀ i, i < M → f' i = pkB b (f i) (F (c + i))) ∧ aq_fr S S' (fun q => q = 52 ∨ q = 70 ∨ q = a)) 2 [(0, .ref 52), (1, .ref a), (2, .int (nI i))] [] S1 from key M 0 S F f (by omega) h hF hf (fun x hx => absurd hx (Nat.not_lt_zero x)) (fun _ _ => rfl) (fun x hx => absurd hx (Nat.not_lt_zero x)) (fun _ _ => rfl) aq_fr.rf
  intro j
  induction j with
  | zero =>
    intro i S1 F1 f1 hi o1 u1 u2 a1 a2 a3 a4 hfr
    have e : i = M := by omega
    subst e
    refine ar_ld i_X7_passAll_2 rfl rfl ?_
    refine ar_ld i_X7_passAll_3 rfl rfl ?_
    refine ar_len i_X7_passAll_4 (by decide) (u2) ?_
    refine ar_ift i_X7_passAll_5 rfl (nI_le (Nat.le_refl _) (by omega)) ?_
    exact ar_retv i_X7_passAll_24 ⟨rfl, ⟨o1, ⟨F1, u1, a1, a2⟩, f1, u2, a3⟩, hfr⟩
  | succ j ih =>
    intro i S1 F1 f1 hi o1 u1 u2 a1 a2 a3 a4 hfr
    refine ar_ld i_X7_passAll_2 rfl rfl ?_
    refine ar_ld i_X7_passAll_3 rfl rfl ?_
    refine ar_len i_X7_passAll_4 (by decide) (u2) ?_
    refine ar_iff i_X7_passAll_5 rfl (nI_ge (show i < M by omega) (by omega)) ?_
    refine ar_ld i_X7_passAll_8 rfl rfl ?_
    refine ar_ld i_X7_passAll_9 rfl rfl ?_
    refine ar_ld i_X7_passAll_10 rfl rfl ?_
    refine ar_ld i_X7_passAll_11 rfl rfl ?_
    refine ar_ld i_X7_passAll_12 rfl rfl ?_
    refine av_ldi i_X7_passAll_13 (u2) (by omega) (by omega) ?_
    rw [a4 i (Nat.le_refl i)]
    refine av_cr i_X7_passAll_14 rfl ⟨_, _, _, rfl, o1⟩ (Nat.le_of_ble_eq_true rfl) (m_passes d b o1 u1 (show c + i < 240 by omega) (f i)) (fun S2 q2 => ?_)
    obtain ⟨⟨o2, v1⟩, qf⟩ := q2
    rw [a2 (c + i) (Or.inr (Nat.le_refl _))] at v1 ⊢
    have v2 := u2.fr qf (by omega)
    refine av_sti i_X7_passAll_17 (by omega) (v2) (by omega) (by omega) (fun S3 g3 k3 => ?_)
    refine ar_inc i_X7_passAll_18 rfl rfl ?_
    refine ar_go i_X7_passAll_21 ?_
    have := ih (i + 1) S3 _ _ (by omega) (o2.fr k3 (by omega)) (v1.fr k3 (by omega)) g3 (fun x hx => by
      by_cases e : x = i
      · rw [e, upd_eq]
      · rw [upd_ne (by omega)]; exact a1 x (by omega)) (fun x hx => by rw [upd_ne (by omega)]; exact a2 x (by omega)) (fun x hx => by
      by_cases e : x = i
      · rw [e, upd_eq]
      · rw [upd_ne e]; exact a3 x (by omega)) (fun x hx => by rw [upd_ne (by omega)]; exact a4 x (by omega)) (hfr.tr ((qf.mono (fun q z => by omega)).tr (k3.mono (fun q z => by omega))))
    rw [← nI_1 i] at this
    exact this
theorem m_passState (d : Nat) {S : aq_S} {fl fw fL fp F : Nat → Int32} (b : Bool) {th k il err rd tl pc lo cur hs sv : Int32} (h : mO S th k il err rd tl pc lo cur hs sv) (hF : ia S 70 240 F) (w1 : ia S 53 4 fl) (w2 : ia S 54 160 fw) (p1 : ia S 58 12 fL) (p2 : ia S 59 60 fp) : aX (d + 3) 209 [.ref 52, .int (b2i b)] S (fun o S' => o = .inl (some (.int (pkB b pc (F 1)))) ∧ (mO S' 0 (pkB b k (F 0)) il err rd tl (pkB b pc (F 1)) lo (nI 238) hs (b2i b) ∧ (∃ F', ia S' 70 240 F' ∧ F' 0 = pkB b k (F 0) ∧ F' 1 = pkB b pc (F 1) ∧ (∀ i, i < 4 → F' (2 + i) = pkB b (fl i) (F (2 + i))) ∧ (∀ i, i < 160 → F' (6 + i) = pkB b (fw i) (F (6 + i))) ∧ (∀ i, i < 12 → F' (166 + i) = pkB b (fL i) (F (166 + i))) ∧ ∀ i, i < 60 → F' (178 + i) = pkB b (fp i) (F (178 + i))) ∧ (∃ f', ia S' 53 4 f' ∧ ∀ i, i < 4 → f' i = pkB b (fl i) (F (2 + i))) ∧ (∃ f', ia S' 54 160 f' ∧ ∀ i, i < 160 → f' i = pkB b (fw i) (F (6 + i))) ∧ (∃ f', ia S' 58 12 f' ∧ ∀ i, i < 12 → f' i = pkB b (fL i) (F (166 + i))) ∧ ∃ f', ia S' 59 60 f' ∧ ∀ i, i < 60 → f' i = pkB b (fp i) (F (178 + i))) ∧ aq_fr S S' (fun q => q = 52 ∨ q = 53 ∨ q = 54 ∨ q = 58 ∨ q = 59 ∨ q = 70)) := by
  refine ar_run (Nat.le_of_ble_eq_true rfl) (fun o S1 h => h.2.2.le) ?_
  refine ar_ld i_X7_passState_0 rfl rfl ?_
  refine ar_push i_X7_passState_1 ?_
  refine av_pf i_X7_passState_2 (h) (Nat.le_of_ble_eq_true rfl) (rfl) rfl (fun S1 g1 k1 => ?_)
  have o1 : mO S1 0 k il err rd tl pc lo cur hs sv := g1
  refine ar_ld i_X7_passState_5 rfl rfl ?_
  refine ar_ld i_X7_passState_6 rfl rfl ?_
  refine av_pf i_X7_passState_7 (o1) (Nat.le_of_ble_eq_true rfl) (b2i_01 b) rfl (fun S2 g2 k2 => ?_)
  have o2 : mO S2 0 k il err rd tl pc lo cur hs (b2i b) := g2
  refine ar_ld i_X7_passState_10 rfl rfl ?_
  refine ar_push i_X7_passState_11 ?_
  refine av_pf i_X7_passState_12 (o2) (Nat.le_of_ble_eq_true rfl) (rfl) rfl (fun S3 g3 k3 => ?_)
  have o3 : mO S3 0 k il err rd tl pc lo (nI 0) hs (b2i b) := g3
  have hfr3 := ((k1.tr k2).tr k3)
  have F3 := hF.fr hfr3 (by omega)
  refine ar_ld i_X7_passState_15 rfl rfl ?_
  refine ar_ld i_X7_passState_16 rfl rfl ?_
  refine ar_ld i_X7_passState_17 rfl rfl ?_
  refine ar_gf i_X7_passState_18 (o3) rfl ?_
  refine av_cr i_X7_passState_21 rfl ⟨_, _, _, rfl, o3⟩ (Nat.le_of_ble_eq_true rfl) (m_passes (d + 1) b o3 F3 (by omega) k) (fun S4 q4 => ?_)
  obtain ⟨⟨o4, F4⟩, k4⟩ := q4
  refine av_pf i_X7_passState_24 (o4) (Nat.le_of_ble_eq_true rfl) (rfl) rfl (fun S5 g5 k5 => ?_)
  have o5 : mO S5 0 (pkB b k (F 0)) il err rd tl pc lo (nI 1) hs (b2i b) := g5
  have F5 := F4.fr k5 (by omega)
  refine ar_ld i_X7_passState_27 rfl rfl ?_
  refine ar_ld i_X7_passState_28 rfl rfl ?_
  refine ar_ld i_X7_passState_29 rfl rfl ?_
  refine ar_gf i_X7_passState_30 (o5) rfl ?_
  refine av_cr i_X7_passState_33 rfl ⟨_, _, _, rfl, o5⟩ (Nat.le_of_ble_eq_true rfl) (m_passes (d + 1) b o5 F5 (by omega) pc) (fun S6 q6 => ?_)
  obtain ⟨⟨o6, F6⟩, k6⟩ := q6
  rw [upd_ne (show (1 : Nat) ≠ 0 by omega)] at F6 ⊢
  refine av_pf i_X7_passState_36 (o6) (Nat.le_of_ble_eq_true rfl) (rfl) rfl (fun S7 g7 k7 => ?_)
  have o7 : mO S7 0 (pkB b k (F 0)) il err rd tl (pkB b pc (F 1)) lo (nI 2) hs (b2i b) := g7
  have F7 := F6.fr k7 (by omega)
  have hfr7 : aq_fr S S7 (fun q => q = 52 ∨ q = 70) := (hfr3.mono (fun q z => Or.inl z)).tr (k4.tr ((k5.mono (fun q z => Or.inl z)).tr (k6.tr (k7.mono (fun q z => Or.inl z)))))
  refine ar_ld i_X7_passState_39 rfl rfl ?_
  refine ar_ld i_X7_passState_40 rfl rfl ?_
  refine ar_gf i_X7_passState_41 (o7) rfl ?_
  refine av_cv i_X7_passState_44 rfl ⟨_, _, _, rfl, o7⟩ (Nat.le_of_ble_eq_true rfl) (m_passAll d b o7 F7 (w1.fr hfr7 (by omega)) (by omega) (by omega)) (fun S8 q8 => ?_)
  obtain ⟨⟨o8, ⟨F8, c8, d8, e8⟩, f8, i8, j8⟩, k8⟩ := q8
  refine ar_ld i_X7_passState_47 rfl rfl ?_
  refine ar_ld i_X7_passState_48 rfl rfl ?_
  refine ar_gf i_X7_passState_49 (o8) rfl ?_
  refine av_cv i_X7_passState_52 rfl ⟨_, _, _, rfl, o8⟩ (Nat.le_of_ble_eq_true rfl) (m_passAll d b o8 c8 ((w2.fr hfr7 (by omega)).fr k8 (by omega)) (by omega) (by omega)) (fun S9 q9 => ?_)
  obtain ⟨⟨o9, ⟨F9, c9, d9, e9⟩, f9, i9, j9⟩, k9⟩ := q9
  refine ar_ld i_X7_passState_55 rfl rfl ?_
  refine ar_ld i_X7_passState_56 rfl rfl ?_
  refine ar_gf i_X7_passState_57 (o9) rfl ?_
  refine av_cv i_X7_passState_60 rfl ⟨_, _, _, rfl, o9⟩ (Nat.le_of_ble_eq_true rfl) (m_passAll d b o9 c9 (((p1.fr hfr7 (by omega)).fr k8 (by omega)).fr k9 (by omega)) (by omega) (by omega)) (fun Sa qa => ?_)
  obtain ⟨⟨oa, ⟨Fa, ca, da, ea⟩, fa, i10, j10⟩, ka⟩ := qa
  refine ar_ld i_X7_passState_63 rfl rfl ?_
  refine ar_ld i_X7_passState_64 rfl rfl ?_
  refine ar_gf i_X7_passState_65 (oa) rfl ?_
  refine av_cv i_X7_passState_68 rfl ⟨_, _, _, rfl, oa⟩ (Nat.le_of_ble_eq_true rfl) (m_passAll d b oa ca ((((p2.fr hfr7 (by omega)).fr k8 (by omega)).fr k9 (by omega)).fr ka (by omega)) (by omega) (by omega)) (fun Sb qb => ?_)
  obtain ⟨⟨ob, ⟨Fb, cb, db, eb⟩, fb, i11, j11⟩, kb⟩ := qb
  refine ar_ld i_X7_passState_71 rfl rfl ?_
  refine ar_gf i_X7_passState_72 (ob) rfl ?_
  have x7 : ∀ x, 2 ≤ x → upd (upd F 0 (pkB b k (F 0))) 1 (pkB b pc (F 1)) x = F x := fun x hx => by rw [upd_ne (by omega), upd_ne (by omega)]
  have x8 : ∀ x, 6 ≤ x → F8 x = F x := fun x hx => by rw [e8 x (Or.inr (by omega)), x7 x (by omega)]
  have x9 : ∀ x, 166 ≤ x → F9 x = F x := fun x hx => by rw [e9 x (Or.inr (by omega)), x8 x (by omega)]
  have xa : ∀ x, 178 ≤ x → Fa x = F x := fun x hx => by rw [ea x (Or.inr (by omega)), x9 x (by omega)]
  have y8 : ∀ i, i < 4 → F8 (2 + i) = pkB b (fl i) (F (2 + i)) := fun i hi => by rw [d8 i hi, x7 _ (by omega)]
  have y9 : ∀ i, i < 160 → F9 (6 + i) = pkB b (fw i) (F (6 + i)) := fun i hi => by
    have := d9 i hi
    rw [show 2 + 4 + i = 6 + i by omega, x8 _ (by omega)] at this
    exact this
  have ya : ∀ i, i < 12 → Fa (166 + i) = pkB b (fL i) (F (166 + i)) := fun i hi => by
    have := da i hi
    rw [show 2 + 4 + 160 + i = 166 + i by omega, x9 _ (by omega)] at this
    exact this
  have yb : ∀ i, i < 60 → Fb (178 + i) = pkB b (fp i) (F (178 + i)) := fun i hi => by
    have := db i hi
    rw [show 2 + 4 + 160 + 12 + i = 178 + i by omega, xa _ (by omega)] at this
    exact this
  refine ar_ret i_X7_passState_75 rfl ⟨rfl, ⟨ob, ⟨Fb, cb, ?_, ?_, fun i hi => ?_, fun i hi => ?_, fun i hi => ?_, yb⟩, ⟨f8, ((i8.fr k9 (by omega)).fr ka (by omega)).fr kb (by omega), fun i hi => ?_⟩, ⟨f9, (i9.fr ka (by omega)).fr kb (by omega), fun i hi => ?_⟩, ⟨fa, i10.fr kb (by omega), fun i hi => ?_⟩, fb, i11, fun i hi => ?_⟩, ?_⟩
  · rw [eb 0 (Or.inl (by omega)), ea 0 (Or.inl (by omega)), e9 0 (Or.inl (by omega)), e8 0 (Or.inl (by omega)), upd_ne (by omega), upd_eq]
  · rw [eb 1 (Or.inl (by omega)), ea 1 (Or.inl (by omega)), e9 1 (Or.inl (by omega)), e8 1 (Or.inl (by omega)), upd_eq]
  · rw [eb _ (Or.inl (by omega)), ea _ (Or.inl (by omega)), e9 _ (Or.inl (by omega)), y8 i hi]
  · rw [eb _ (Or.inl (by omega)), ea _ (Or.inl (by omega)), y9 i hi]
  · rw [eb _ (Or.inl (by omega)), ya i hi]
  · rw [j8 i hi, x7 _ (by omega)]
  · have := j9 i hi
    rw [show 2 + 4 + i = 6 + i by omega, x8 _ (by omega)] at this
    exact this
  · have := j10 i hi
    rw [show 2 + 4 + 160 + i = 166 + i by omega, x9 _ (by omega)] at this
    exact this
  · have := j11 i hi
    rw [show 2 + 4 + 160 + 12 + i = 178 + i by omega, xa _ (by omega)] at this
    exact this
  · exact ((hfr7.mono (fun q z => by omega)).tr (k8.mono (fun q z => by omega))).tr ((k9.mono (fun q z => by omega)).tr ((ka.mono (fun q z => by omega)).tr (kb.mono (fun q z => by omega))))
/-- what was saved -/
def mSv (S : aq_S) (k c : Nat) (N : Nat → Nat) (G : Nat → Nat → Int32) (pn : Nat → Nat) (pg : Nat → Nat → Int32) : Prop := ∃ F, ia S 70 240 F ∧ F 0 = nI k ∧ F 1 = nI c ∧ (∀ r, r < 4 → F (2 + r) = nI (N r) ∧ N r ≤ 40) ∧ (∀ r, r < 4 → ∀ i, i < N r → F (6 + (40 * r + i)) = G r i) ∧ (∀ i, i < c → F (166 + i) = nI (pn i)) ∧ ∀ i, i < c → ∀ j, j < pn i → F (178 + (5 * i + j)) = pg i j
theorem mSv.fr {S S' : aq_S} {k c : Nat} {N : Nat → Nat} {G : Nat → Nat → Int32} {pn : Nat → Nat} {pg : Nat → Nat → Int32} {P : Nat → Prop} (h : mSv S k c N G pn pg) (q : aq_fr S S' P) (h1 : ¬ P 70) : mSv S' k c N G pn pg := by
  obtain ⟨F, f1, f2⟩ := h
  exact ⟨F, f1.fr q h1, f2⟩
theorem m_saveSnapshot (d : Nat) {S : aq_S} {n c : Nat} {N : Nat → Nat} {G : Nat → Nat → Int32} {pn : Nat → Nat} {pg : Nat → Nat → Int32} {F0 : Nat → Int32} {th il err rd tl lo cur hs sv : Int32} (h : mO S th (nI n) il err rd tl (nI c) lo cur hs sv) (hF : ia S 70 240 F0) (hw : mW S N G) (hp : mPt S c pn pg) (hk : pOk c pn pg) : aX (d + 4) 210 [.ref 52] S (fun o S' => o = .inl (some (.int (nI c))) ∧ ((∃ cur' sv', mO S' 0 (nI n) il err rd tl (nI c) lo cur' 1 sv') ∧ mW S' N G ∧ mPt S' c pn pg ∧ mSv S' n c N G pn pg) ∧ aq_fr S S' (fun q => q = 52 ∨ q = 53 ∨ q = 54 ∨ q = 58 ∨ q = 59 ∨ q = 70)) := by
  obtain ⟨fl, fw, w1, w2, w3, w4⟩ := hw
  obtain ⟨fL, fp, p1, p2, p3, p4⟩ := hp
  have hc := hk.1
  refine ar_run (Nat.le_of_ble_eq_true rfl) (fun o S1 h => h.2.2.le) ?_
  refine ar_ld i_X7_saveSnapshot_0 rfl rfl ?_
  refine ar_push i_X7_saveSnapshot_1 ?_
  refine av_pf i_X7_saveSnapshot_2 (h) (Nat.le_of_ble_eq_true rfl) (Or.inr rfl) rfl (fun S1 g1 k1 => ?_)
  have o1 : mO S1 th (nI n) il err rd tl (nI c) lo cur 1 sv := g1
  refine ar_ld i_X7_saveSnapshot_5 rfl rfl ?_
  refine ar_push i_X7_saveSnapshot_6 ?_
  refine av_cr i_X7_saveSnapshot_7 rfl ⟨_, _, _, rfl, o1⟩ (Nat.le_of_ble_eq_true rfl) (m_passState d true o1 (hF.fr k1 (by omega)) (w1.fr k1 (by omega)) (w2.fr k1 (by omega)) (p1.fr k1 (by omega)) (p2.fr k1 (by omega))) (fun S2 q2 => ?_)
  obtain ⟨⟨o2, ⟨F, a1, a2, a3, a4, a5, a6, a7⟩, ⟨f1, b1, b2⟩, ⟨f2, c1, c2⟩, ⟨f3, d1, d2⟩, f4, e1, e2⟩, k2⟩ := q2
  refine ar_ret i_X7_saveSnapshot_10 rfl ⟨rfl, ⟨⟨_, _, o2⟩, ⟨f1, f2, b1, c1, fun r hr => ⟨by rw [b2 r hr]; exact (w3 r hr).1, (w3 r hr).2⟩, fun r hr i hi => ?_⟩, ⟨f3, f4, d1, e1, fun i hi => ?_, fun i hi j hj => ?_⟩, F, a1, a2, a3, fun r hr => ⟨by rw [a4 r hr]; exact (w3 r hr).1, (w3 r hr).2⟩, fun r hr i hi => ?_, fun i hi => ?_, fun i hi j hj => ?_⟩, (k1.mono (fun q z => Or.inl z)).tr k2⟩
  · have := (w3 r hr).2
    rw [c2 _ (by omega)]
    exact w4 r hr i hi
  · rw [d2 i (by omega)]
    exact p3 i hi
  · have := hk.2.1 i hi
    rw [e2 _ (by omega)]
    exact p4 i hi j hj
  · have := (w3 r hr).2
    rw [a5 _ (by omega)]
    exact w4 r hr i hi
  · rw [a6 i (by omega)]
    exact p3 i hi
  · have := hk.2.1 i hi
    rw [a7 _ (by omega)]
    exact p4 i hi j hj
theorem m_restoreSnapshot_no (d : Nat) {S : aq_S} {th k il err rd tl pc lo cur sv : Int32} (h : mO S th k il err rd tl pc lo cur 0 sv) : aX (d + 2) 211 [.ref 52] S (fun o S' => o = .inl (some (.int 0)) ∧ mO S' 1 k il err rd tl pc lo cur 0 sv ∧ aq_fr S S' (fun q => q = 52)) := by
  refine ar_run (Nat.le_of_ble_eq_true rfl) (fun o S1 h => h.2.2.le) ?_
  refine ar_ld i_X7_restoreSnapshot_0 rfl rfl ?_
  refine ar_gf i_X7_restoreSnapshot_1 (h) rfl ?_
  refine ar_ift i_X7_restoreSnapshot_4 rfl (rfl) ?_
  refine ar_ld i_X7_restoreSnapshot_15 rfl rfl ?_
  refine ar_push i_X7_restoreSnapshot_16 ?_
  refine av_cr i_X7_restoreSnapshot_17 rfl ⟨_, _, _, rfl, (h)⟩ (Nat.le_of_ble_eq_true rfl) (m_fails d h 1) (fun S1 q1 => ?_)
  exact ar_ret i_X7_restoreSnapshot_20 rfl ⟨rfl, q1⟩
theorem m_restoreSnapshot (d : Nat) {S : aq_S} {n c : Nat} {N N0 : Nat → Nat} {G G0 : Nat → Nat → Int32} {pn pn0 : Nat → Nat} {pg pg0 : Nat → Nat → Int32} {c0 : Nat} {th k il err rd tl pc lo cur sv : Int32} (h : mO S th k il err rd tl pc lo cur 1 sv) (hF : mSv S n c N G pn pg) (hw : mW S N0 G0) (hp : mPt S c0 pn0 pg0) (hk : pOk c pn pg) : aX (d + 4) 211 [.ref 52] S (fun o S' => o = .inl (some (.int (nI c))) ∧ ((∃ cur' sv', mO S' 0 (nI n) il err rd tl (nI c) lo cur' 1 sv') ∧ mW S' N G ∧ mPt S' c pn pg ∧ mSv S' n c N G pn pg) ∧ aq_fr S S' (fun q => q = 52 ∨ q = 53 ∨ q = 54 ∨ q = 58 ∨ q = 59 ∨ q = 70)) := by
  obtain ⟨fl, fw, w1, w2, -, -⟩ := hw
  obtain ⟨fL, fp, p1, p2, -, -⟩ := hp
  obtain ⟨F, s1, s2, s3, s4, s5, s6, s7⟩ := hF
  have hc := hk.1
  refine ar_run (Nat.le_of_ble_eq_true rfl) (fun o S1 h => h.2.2.le) ?_
  refine ar_ld i_X7_restoreSnapshot_0 rfl rfl ?_
  refine ar_gf i_X7_restoreSnapshot_1 (h) rfl ?_
  refine ar_iff i_X7_restoreSnapshot_4 rfl (by decide) ?_
  refine ar_ld i_X7_restoreSnapshot_7 rfl rfl ?_
  refine ar_push i_X7_restoreSnapshot_8 ?_
  refine av_cr i_X7_restoreSnapshot_9 rfl ⟨_, _, _, rfl, h⟩ (Nat.le_of_ble_eq_true rfl) (m_passState d false h s1 w1 w2 p1 p2) (fun S2 q2 => ?_)
  obtain ⟨⟨o2, ⟨F', a1, a2, a3, a4, a5, a6, a7⟩, ⟨f1, b1, b2⟩, ⟨f2, c1, c2⟩, ⟨f3, d1, d2⟩, f4, e1, e2⟩, k2⟩ := q2
  have x0 : pkB false k (F 0) = nI n := s2
  have x1 : pkB false pc (F 1) = nI c := s3
  rw [x0, x1] at o2
  rw [x1]
  refine ar_go i_X7_restoreSnapshot_12 ?_
  refine ar_ret i_X7_restoreSnapshot_20 rfl ⟨rfl, ⟨⟨_, _, o2⟩, ⟨f1, f2, b1, c1, fun r hr => ⟨by rw [b2 r hr]; exact (s4 r hr).1, (s4 r hr).2⟩, fun r hr i hi => ?_⟩, ⟨f3, f4, d1, e1, fun i hi => ?_, fun i hi j hj => ?_⟩, F', a1, a2.trans s2, a3.trans s3, fun r hr => ⟨by rw [a4 r hr]; exact (s4 r hr).1, (s4 r hr).2⟩, fun r hr i hi => ?_, fun i hi => ?_, fun i hi j hj => ?_⟩, k2⟩
  · have := (s4 r hr).2
    rw [c2 _ (by omega)]
    exact s5 r hr i hi
  · rw [d2 i (by omega)]
    exact s6 i hi
  · have := hk.2.1 i hi
    rw [e2 _ (by omega)]
    exact s7 i hi j hj
  · have := (s4 r hr).2
    rw [a5 _ (by omega)]
    exact s5 r hr i hi
  · rw [a6 i (by omega)]
    exact s6 i hi
  · have := hk.2.1 i hi
    rw [a7 _ (by omega)]
    exact s7 i hi j hj
end
