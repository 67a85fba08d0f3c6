/-! ===== the reference: its object, its rows of words ===== -/
section
def mO (S : aq_S) (th k il err rd tl pc lo cur hs sv : Int32) : Prop := S.2.2.2 52 = some (.inr (7, [.int th, .int k, .ref 53, .ref 54, .ref 55, .ref 56, .ref 57, .int il, .int err, .int rd, .int tl, .ref 58, .ref 59, .int pc, .int lo, .ref 60, .ref 61, .ref 62, .ref 63, .ref 64, .ref 65, .ref 66, .ref 67, .ref 68, .ref 69, .ref 70, .int cur, .int hs, .int sv]))
theorem mO.fr {S S' : aq_S} {th k il err rd tl pc lo cur hs sv : Int32} {P : Nat → Prop} (h : mO S th k il err rd tl pc lo cur hs sv) (q : aq_fr S S' P) (h1 : ¬ P 52) : mO S' th k il err rd tl pc lo cur hs sv := (q.2.2.2 52 h1).trans h
/-- a row of ints -/
def ia (S : aq_S) (a m : Nat) (f : Nat → Int32) : Prop := S.2.2.2 a = some (.inl (0, (m, .inl f)))
theorem ia.fr {S S' : aq_S} {a m : Nat} {f : Nat → Int32} {P : Nat → Prop} (h : ia S a m f) (q : aq_fr S S' P) (h1 : ¬ P a) : ia S' a m f := (q.2.2.2 a h1).trans h
/-- the four words: lengths and symbols -/
def mW (S : aq_S) (N : Nat → Nat) (G : Nat → Nat → Int32) : Prop := ∃ fl fw, ia S 53 4 fl ∧ ia S 54 160 fw ∧ (∀ r, r < 4 → fl r = nI (N r) ∧ N r ≤ 40) ∧ ∀ r, r < 4 → ∀ i, i < N r → fw (40 * r + i) = G r i
theorem mW.fr {S S' : aq_S} {N : Nat → Nat} {G : Nat → Nat → Int32} {P : Nat → Prop} (h : mW S N G) (q : aq_fr S S' P) (h1 : ¬ P 53) (h2 : ¬ P 54) : mW S' N G := by
  obtain ⟨fl, fw, a1, a2, a3⟩ := h
  exact ⟨fl, fw, a1.fr q h1, a2.fr q h2, a3⟩
def updG (G : Nat → Nat → Int32) (r : Nat) (g : Nat → Int32) (j : Nat) : Nat → Int32 := if j = r then g else G j
theorem updN_eq {f : Nat → Nat} {j x : Nat} : updN f j x j = x := if_pos rfl
theorem updN_ne {f : Nat → Nat} {j x i : Nat} (h : i ≠ j) : updN f j x i = f i := if_neg h
theorem updG_eq {G : Nat → Nat → Int32} {r : Nat} {g : Nat → Int32} : updG G r g r = g := if_pos rfl
theorem updG_ne {G : Nat → Nat → Int32} {r j : Nat} {g : Nat → Int32} (h : j ≠ r) : updG G r g j = G j := if_neg h
theorem m_fails (d : Nat) {S : aq_S} {th k il err rd tl pc lo cur hs sv : Int32} (h : mO S th k il err rd tl pc lo cur hs sv) (c : Int32) : aX (d + 1) 127 [.ref 52, .int c] S (fun o S' => o = .inl (some (.int 0)) ∧ mO S' (c) k il err rd tl pc lo cur hs sv ∧ aq_fr S S' (fun q => q = 52)) := by
  refine ar_run (Nat.le_of_ble_eq_true rfl) (fun o S1 h => h.2.2.le) ?_
  refine ar_ld i_X7_fails_0 rfl rfl ?_
  refine ar_ld i_X7_fails_1 rfl rfl ?_
  refine av_pf i_X7_fails_2 (h) (Nat.le_of_ble_eq_true rfl) (rfl) rfl (fun S1 g1 k1 => ?_)
  refine ar_push i_X7_fails_5 ?_
  exact ar_ret i_X7_fails_6 rfl ⟨rfl, g1, k1⟩
theorem m_refuses (d : Nat) {S : aq_S} {th k il err rd tl pc lo cur hs sv : Int32} (h : mO S th k il err rd tl pc lo cur hs sv) (c : Int32) : aX (d + 1) 128 [.ref 52, .int c] S (fun o S' => o = .inl (some (.int 0)) ∧ mO S' (c) k il err rd tl pc lo cur hs sv ∧ aq_fr S S' (fun q => q = 52)) := by
  refine ar_run (Nat.le_of_ble_eq_true rfl) (fun o S1 h => h.2.2.le) ?_
  refine ar_ld i_X7_refuses_0 rfl rfl ?_
  refine ar_ld i_X7_refuses_1 rfl rfl ?_
  refine av_pf i_X7_refuses_2 (h) (Nat.le_of_ble_eq_true rfl) (rfl) rfl (fun S1 g1 k1 => ?_)
  refine ar_push i_X7_refuses_5 ?_
  exact ar_ret i_X7_refuses_6 ((Or.inl rfl)) ⟨rfl, g1, k1⟩
theorem m_isBetween (d : Nat) {S : aq_S} {v lo hi : Int64} : aX (d + 1) 129 [.long v, .long lo, .long hi] S (fun o S' => o = .inl (some (.int (bI (lo ≤ v ∧ v ≤ hi)))) ∧ S' = S) := by
  refine ar_run (Nat.le_of_ble_eq_true rfl) (fun o S1 h => aq_le_of (aq_le_refl S) h) ?_
  refine ar_ld i_X7_isBetween_0 rfl rfl ?_
  refine ar_ld i_X7_isBetween_1 rfl rfl ?_
  refine ar_ar i_X7_isBetween_2 rfl ?_
  refine ar_if i_X7_isBetween_3 rfl (fun c3 => ?_) (fun c3 => ?_)
  · refine ar_push i_X7_isBetween_17 ?_
    exact ar_ret i_X7_isBetween_18 ((Or.inl rfl)) ⟨bR_f (fun z => absurd ((lg_cmp_lt _ _).mp c3) (Int64.not_lt.mpr z.1)), rfl⟩
  · refine ar_ld i_X7_isBetween_6 rfl rfl ?_
    refine ar_ld i_X7_isBetween_7 rfl rfl ?_
    refine ar_ar i_X7_isBetween_9 rfl ?_
    refine ar_if i_X7_isBetween_10 rfl (fun c10 => ?_) (fun c10 => ?_)
    · refine ar_push i_X7_isBetween_17 ?_
      exact ar_ret i_X7_isBetween_18 ((Or.inl rfl)) ⟨bR_f (fun z => absurd ((lg_cmp_gt _ _).mp c10) (Int64.not_lt.mpr z.2)), rfl⟩
    · refine ar_push i_X7_isBetween_13 ?_
      refine ar_go i_X7_isBetween_14 ?_
      exact ar_ret i_X7_isBetween_18 ((Or.inr rfl)) ⟨bR_t ⟨Int64.not_lt.mp (fun z => c3 ((lg_cmp_lt _ _).mpr z)), Int64.not_lt.mp (fun z => c10 ((lg_cmp_gt _ _).mpr z))⟩, rfl⟩
theorem m_isReg (d : Nat) {S : aq_S} {r : Nat} (hr : r < 4) : aX (d + 1) 130 [.int (nI r)] S (fun o S' => o = .inl (some (.int 1)) ∧ S' = S) := by
  refine ar_run (Nat.le_of_ble_eq_true rfl) (fun o S1 h => aq_le_of (aq_le_refl S) h) ?_
  refine ar_ld i_X7_isRegister_0 rfl rfl ?_
  refine ar_iff i_X7_isRegister_1 rfl (nI_pos (by omega)) ?_
  refine ar_ld i_X7_isRegister_4 rfl rfl ?_
  refine ar_push i_X7_isRegister_5 ?_
  refine ar_iff i_X7_isRegister_6 rfl (nI_ge (b := 4) hr (by omega)) ?_
  refine ar_push i_X7_isRegister_9 ?_
  refine ar_go i_X7_isRegister_10 ?_
  exact ar_ret i_X7_isRegister_14 ((Or.inr rfl)) ⟨rfl, rfl⟩
theorem m_isReg_no (d : Nat) {S : aq_S} {p : Int32} (hp : p < 0 ∨ nI 4 ≤ p) : aX (d + 1) 130 [.int p] S (fun o S' => o = .inl (some (.int 0)) ∧ S' = S) := by
  refine ar_run (Nat.le_of_ble_eq_true rfl) (fun o S1 h => aq_le_of (aq_le_refl S) h) ?_
  refine ar_ld i_X7_isRegister_0 rfl rfl ?_
  refine ar_if i_X7_isRegister_1 rfl (fun c1 => ?_) (fun c1 => ?_)
  · refine ar_push i_X7_isRegister_13 ?_
    exact ar_ret i_X7_isRegister_14 ((Or.inl rfl)) ⟨rfl, rfl⟩
  · refine ar_ld i_X7_isRegister_4 rfl rfl ?_
    refine ar_push i_X7_isRegister_5 ?_
    refine ar_ift i_X7_isRegister_6 rfl (hp.resolve_left c1) ?_
    refine ar_push i_X7_isRegister_13 ?_
    exact ar_ret i_X7_isRegister_14 ((Or.inl rfl)) ⟨rfl, rfl⟩
theorem isY_iff {k : Nat} {s : Int32} : isY k s ↔ (-1 ≤ s ∧ s < nI k) ∨ s = -1 := by
  unfold isY
  refine ⟨fun z => ?_, fun z => ?_⟩
  · rcases z with z | ⟨z1, z2⟩
    · exact Or.inr z
    · exact Or.inl ⟨Int32.le_trans (by decide) (Int32.not_lt.mp z1), z2⟩
  · rcases z with ⟨z1, z2⟩ | z
    · by_cases h : s < 0
      · left
        rw [← Int32.toInt_inj]
        have a := Int32.le_iff_toInt_le.mp z1
        have b := Int32.lt_iff_toInt_lt.mp h
        have c : (-1 : Int32).toInt = -1 := by decide
        have e : (0 : Int32).toInt = 0 := by decide
        omega
      · exact Or.inr ⟨h, z2⟩
    · exact Or.inl z
theorem m_isSymbol (d : Nat) {S : aq_S} {n : Nat} {th il err rd tl pc lo cur hs sv : Int32} (h : mO S th (nI n) il err rd tl pc lo cur hs sv) (hn : n ≤ 3) (s : Int32) : aX (d + 1) 131 [.ref 52, .int s] S (fun o S' => o = .inl (some (.int (bI (isY n s)))) ∧ S' = S) := by
  refine ar_run (Nat.le_of_ble_eq_true rfl) (fun o S1 h => aq_le_of (aq_le_refl S) h) ?_
  have hm1 : (-1 : Int32) < nI n := by
    rw [Int32.lt_iff_toInt_lt, nI_toInt (by omega)]
    have c : (-1 : Int32).toInt = -1 := by decide
    omega
  refine ar_ld i_X7_isSymbol_0 rfl rfl ?_
  refine ar_push i_X7_isSymbol_1 ?_
  refine ar_if i_X7_isSymbol_2 rfl (fun c2 => ?_) (fun c2 => ?_)
  · refine ar_push i_X7_isSymbol_17 ?_
    exact ar_ret i_X7_isSymbol_18 ((Or.inl rfl)) ⟨bR_f (fun z => by
      rcases isY_iff.mp z with z | z
      · exact absurd c2 (Int32.not_lt.mpr z.1)
      · rw [z] at c2; exact absurd c2 (by decide)), rfl⟩
  · refine ar_ld i_X7_isSymbol_5 rfl rfl ?_
    refine ar_ld i_X7_isSymbol_6 rfl rfl ?_
    refine ar_gf i_X7_isSymbol_7 (h) rfl ?_
    refine ar_if i_X7_isSymbol_10 rfl (fun c10 => ?_) (fun c10 => ?_)
    · refine ar_push i_X7_isSymbol_17 ?_
      exact ar_ret i_X7_isSymbol_18 ((Or.inl rfl)) ⟨bR_f (fun z => by
        rcases isY_iff.mp z with z | z
        · exact absurd z.2 (Int32.not_lt.mpr c10)
        · rw [z] at c10; exact absurd hm1 (Int32.not_lt.mpr c10)), rfl⟩
    · refine ar_push i_X7_isSymbol_13 ?_
      refine ar_go i_X7_isSymbol_14 ?_
      exact ar_ret i_X7_isSymbol_18 ((Or.inr rfl)) ⟨bR_t (isY_iff.mpr (Or.inl ⟨Int32.not_lt.mp c2, Int32.not_le.mp c10⟩)), rfl⟩
theorem m_at (d : Nat) {S : aq_S} {r i : Nat} {th k il err rd tl pc lo cur hs sv : Int32} {fw : Nat → Int32} (h : mO S th k il err rd tl pc lo cur hs sv) (hw : ia S 54 160 fw) (hr : r < 4) (hi : i < 40) : aX (d + 1) 132 [.ref 52, .int (nI r), .int (nI i)] S (fun o S' => o = .inl (some (.int (fw (40 * r + i)))) ∧ S' = S) := by
  refine ar_run (Nat.le_of_ble_eq_true rfl) (fun o S1 h => aq_le_of (aq_le_refl S) h) ?_
  refine ar_ld i_X7_at_0 rfl rfl ?_
  refine ar_gf i_X7_at_1 (h) rfl ?_
  refine ar_push i_X7_at_4 ?_
  rw [show (40 : Int32) = nI 40 from rfl]
  refine ar_ld i_X7_at_6 rfl rfl ?_
  refine ar_ar i_X7_at_7 rfl ?_
  rw [pk_mul]
  refine ar_ld i_X7_at_8 rfl rfl ?_
  refine ar_ar i_X7_at_9 rfl ?_
  rw [nI_add]
  refine av_ldi i_X7_at_10 (hw) (by omega) (by omega) ?_
  exact ar_ret i_X7_at_11 rfl ⟨rfl, rfl⟩
theorem m_append_r (d : Nat) {S : aq_S} {th k il err rd tl pc lo cur hs sv : Int32} {a0 : Int32} {a1 : Int32} (h : mO S th k il err rd tl pc lo cur hs sv) (hp : a0 < 0 ∨ nI 4 ≤ a0) : aX (d + 2) 134 [.ref 52, .int a0, .int a1] S (fun o S' => o = .inl (some (.int 0)) ∧ mO S' (1) k il err rd tl pc lo cur hs sv ∧ aq_fr S S' (fun q => q = 52)) := by
  refine ar_run (Nat.le_of_ble_eq_true rfl) (fun o S1 h => h.2.2.le) ?_
  refine ar_ld i_X7_append_0 rfl rfl ?_
  refine ar_cr i_X7_append_1 rfl trivial (Nat.le_of_ble_eq_true rfl) (m_isReg_no d hp) ?_
  refine ar_ift i_X7_append_4 rfl (by decide) ?_
  refine ar_ld i_X7_append_15 rfl rfl ?_
  refine ar_push i_X7_append_16 ?_
  refine av_cr i_X7_append_17 rfl ⟨_, _, _, rfl, (h)⟩ (Nat.le_of_ble_eq_true rfl) (m_fails d h 1) (fun S1 q1 => ?_)
  exact ar_ret i_X7_append_20 rfl ⟨rfl, q1⟩
theorem m_append_y (d : Nat) {S : aq_S} {n r : Nat} {th il err rd tl pc lo cur hs sv s : Int32} (h : mO S th (nI n) il err rd tl pc lo cur hs sv) (hn : n ≤ 3) (hr : r < 4) (hy : ¬ isY n s) : aX (d + 2) 134 [.ref 52, .int (nI r), .int s] S (fun o S' => o = .inl (some (.int 0)) ∧ mO S' 1 (nI n) il err rd tl pc lo cur hs sv ∧ aq_fr S S' (fun q => q = 52)) := by
  refine ar_run (Nat.le_of_ble_eq_true rfl) (fun o S1 h => h.2.2.le) ?_
  refine ar_ld i_X7_append_0 rfl rfl ?_
  refine ar_cr i_X7_append_1 rfl trivial (Nat.le_of_ble_eq_true rfl) (m_isReg d hr) ?_
  refine ar_iff i_X7_append_4 rfl (by decide) ?_
  refine ar_ld i_X7_append_7 rfl rfl ?_
  refine ar_ld i_X7_append_8 rfl rfl ?_
  refine ar_cr i_X7_append_9 rfl ⟨_, _, _, rfl, (h)⟩ (Nat.le_of_ble_eq_true rfl) (m_isSymbol d h hn s) ?_
  refine ar_iff i_X7_append_12 rfl (fun z => z (bI_f hy)) ?_
  refine ar_ld i_X7_append_15 rfl rfl ?_
  refine ar_push i_X7_append_16 ?_
  refine av_cr i_X7_append_17 rfl ⟨_, _, _, rfl, (h)⟩ (Nat.le_of_ble_eq_true rfl) (m_fails d h 1) (fun S1 q1 => ?_)
  exact ar_ret i_X7_append_20 rfl ⟨rfl, q1⟩
theorem m_append_full (d : Nat) {S : aq_S} {n r : Nat} {th il err rd tl pc lo cur hs sv s : Int32} {N : Nat → Nat} {G : Nat → Nat → Int32} (h : mO S th (nI n) il err rd tl pc lo cur hs sv) (hw : mW S N G) (hn : n ≤ 3) (hr : r < 4) (hy : isY n s) (hN : N r = 40) : aX (d + 2) 134 [.ref 52, .int (nI r), .int s] S (fun o S' => o = .inl (some (.int 0)) ∧ mO S' 2 (nI n) il err rd tl pc lo cur hs sv ∧ aq_fr S S' (fun q => q = 52)) := by
  obtain ⟨fl, fw, w1, w2, w3, w4⟩ := hw
  refine ar_run (Nat.le_of_ble_eq_true rfl) (fun o S1 h => h.2.2.le) ?_
  refine ar_ld i_X7_append_0 rfl rfl ?_
  refine ar_cr i_X7_append_1 rfl trivial (Nat.le_of_ble_eq_true rfl) (m_isReg d hr) ?_
  refine ar_iff i_X7_append_4 rfl (by decide) ?_
  refine ar_ld i_X7_append_7 rfl rfl ?_
  refine ar_ld i_X7_append_8 rfl rfl ?_
  refine ar_cr i_X7_append_9 rfl ⟨_, _, _, rfl, (h)⟩ (Nat.le_of_ble_eq_true rfl) (m_isSymbol d h hn s) ?_
  refine ar_ift i_X7_append_12 rfl (bI_nz.mpr hy) ?_
  refine ar_ld i_X7_append_21 rfl rfl ?_
  refine ar_gf i_X7_append_22 (h) rfl ?_
  refine ar_ld i_X7_append_25 rfl rfl ?_
  refine av_ldi i_X7_append_26 (w1) (by omega) (by omega) ?_
  rw [(w3 r hr).1, hN]
  refine ar_push i_X7_append_27 ?_
  refine ar_iff i_X7_append_29 rfl (fun z => z rfl) ?_
  refine ar_ld i_X7_append_32 rfl rfl ?_
  refine ar_push i_X7_append_33 ?_
  refine av_cr i_X7_append_34 rfl ⟨_, _, _, rfl, (h)⟩ (Nat.le_of_ble_eq_true rfl) (m_fails d h 2) (fun S1 q1 => ?_)
  exact ar_ret i_X7_append_37 rfl ⟨rfl, q1⟩
/-- a word is written: the rows of the reference -/
theorem mW_put {fl fw fl' fw' : Nat → Int32} {N : Nat → Nat} {G : Nat → Nat → Int32} {r n : Nat} {g : Nat → Int32} (hr : r < 4) (hn : n ≤ 40) (w3 : ∀ r, r < 4 → fl r = nI (N r) ∧ N r ≤ 40) (w4 : ∀ r, r < 4 → ∀ i, i < N r → fw (40 * r + i) = G r i) (a1 : fl' r = nI n) (a2 : ∀ x, x < 4 → x ≠ r → fl' x = fl x) (a3 : ∀ i, i < n → fw' (40 * r + i) = g i) (a4 : ∀ x i, x ≠ r → i < 40 → fw' (40 * x + i) = fw (40 * x + i)) : (∀ x, x < 4 → fl' x = nI (updN N r n x) ∧ updN N r n x ≤ 40) ∧ ∀ x, x < 4 → ∀ i, i < updN N r n x → fw' (40 * x + i) = updG G r g x i := by
  refine ⟨fun x hx => ?_, fun x hx i hi => ?_⟩
  · by_cases e : x = r
    · rw [e, updN_eq]; exact ⟨a1, hn⟩
    · rw [updN_ne e, a2 x hx e]; exact w3 x hx
  · by_cases e : x = r
    · subst e
      rw [updN_eq] at hi
      rw [updG_eq]
      exact a3 i hi
    · rw [updN_ne e] at hi
      rw [updG_ne e, a4 x i e (by have := (w3 x hx).2; omega)]
      exact w4 x hx i hi
theorem m_append (d : Nat) {S : aq_S} {n r : Nat} {th il err rd tl pc lo cur hs sv s : Int32} {N : Nat → Nat} {G : Nat → Nat → Int32} (h : mO S th (nI n) il err rd tl pc lo cur hs sv) (hw : mW S N G) (hn : n ≤ 3) (hr : r < 4) (hy : isY n s) (hN : N r < 40) : aX (d + 2) 134 [.ref 52, .int (nI r), .int s] S (fun o S' => o = .inl (some (.int (nI (N r + 1)))) ∧ (mO S' 0 (nI n) il err rd tl pc lo cur hs sv ∧ mW S' (updN N r (N r + 1)) (updG G r (upd (G r) (N r) s))) ∧ aq_fr S S' (fun q => 52 ≤ q ∧ q ≤ 54)) := by
  obtain ⟨fl, fw, w1, w2, w3, w4⟩ := hw
  refine ar_run (Nat.le_of_ble_eq_true rfl) (fun o S1 h => h.2.2.le) ?_
  refine ar_ld i_X7_append_0 rfl rfl ?_
  refine ar_cr i_X7_append_1 rfl trivial (Nat.le_of_ble_eq_true rfl) (m_isReg d hr) ?_
  refine ar_iff i_X7_append_4 rfl (by decide) ?_
  refine ar_ld i_X7_append_7 rfl rfl ?_
  refine ar_ld i_X7_append_8 rfl rfl ?_
  refine ar_cr i_X7_append_9 rfl ⟨_, _, _, rfl, (h)⟩ (Nat.le_of_ble_eq_true rfl) (m_isSymbol d h hn s) ?_
  refine ar_ift i_X7_append_12 rfl (bI_nz.mpr hy) ?_
  refine ar_ld i_X7_append_21 rfl rfl ?_
  refine ar_gf i_X7_append_22 (h) rfl ?_
  refine ar_ld i_X7_append_25 rfl rfl ?_
  refine av_ldi i_X7_append_26 (w1) (by omega) (by omega) ?_
  rw [(w3 r hr).1]
  refine ar_push i_X7_append_27 ?_
  refine ar_ift i_X7_append_29 rfl (fun z => absurd (nI_inj (b := 40) (by omega) (by omega) z) (by omega)) ?_
  refine ar_ld i_X7_append_38 rfl rfl ?_
  refine ar_push i_X7_append_39 ?_
  refine av_pf i_X7_append_40 (h) (Nat.le_of_ble_eq_true rfl) (rfl) rfl (fun S1 g1 k1 => ?_)
  have h1 : mO S1 0 (nI n) il err rd tl pc lo cur hs sv := g1
  have u1 := w1.fr k1 (by omega)
  have u2 := w2.fr k1 (by omega)
  refine ar_ld i_X7_append_43 rfl rfl ?_
  refine ar_gf i_X7_append_44 (h1) rfl ?_
  refine ar_push i_X7_append_47 ?_
  rw [show (40 : Int32) = nI 40 from rfl]
  refine ar_ld i_X7_append_49 rfl rfl ?_
  refine ar_ar i_X7_append_50 rfl ?_
  rw [pk_mul]
  refine ar_ld i_X7_append_51 rfl rfl ?_
  refine ar_gf i_X7_append_52 (h1) rfl ?_
  refine ar_ld i_X7_append_55 rfl rfl ?_
  refine av_ldi i_X7_append_56 (u1) (by omega) (by omega) ?_
  rw [(w3 r hr).1]
  refine ar_ar i_X7_append_57 rfl ?_
  rw [nI_add]
  refine ar_ld i_X7_append_58 rfl rfl ?_
  refine av_sti i_X7_append_59 (by omega) (u2) (by omega) (by omega) (fun S2 g2 k2 => ?_)
  have h2 := h1.fr k2 (by omega)
  have v1 := u1.fr k2 (by omega)
  refine ar_ld i_X7_append_60 rfl rfl ?_
  refine ar_gf i_X7_append_61 (h2) rfl ?_
  refine ar_ld i_X7_append_64 rfl rfl ?_
  refine ar_ar i_X7_append_65 rfl ?_
  refine av_ldi i_X7_append_66 (v1) (by omega) (by omega) ?_
  rw [(w3 r hr).1]
  refine ar_push i_X7_append_67 ?_
  refine ar_ar i_X7_append_68 rfl ?_
  rw [nI_1]
  refine av_sti i_X7_append_69 (by omega) (v1) (by omega) (by omega) (fun S3 g3 k3 => ?_)
  have h3 := h2.fr k3 (by omega)
  have v2 : ia S3 54 160 _ := (k3.2.2.2 54 (by omega)).trans g2
  have v3 : ia S3 53 4 _ := g3
  refine ar_ld i_X7_append_70 rfl rfl ?_
  refine ar_gf i_X7_append_71 (h3) rfl ?_
  refine ar_ld i_X7_append_74 rfl rfl ?_
  refine av_ldi i_X7_append_75 (v3) (by omega) (by omega) ?_
  rw [upd_eq]
  refine ar_ret i_X7_append_76 rfl ⟨rfl, ⟨h3, _, _, v3, v2, ?_⟩, (k1.mono (fun q z => by omega)).tr ((k2.mono (fun q z => by omega)).tr (k3.mono (fun q z => by omega)))⟩
  refine mW_put hr (by omega) w3 w4 upd_eq (fun x hx e => upd_ne e) (fun i hi => ?_) (fun x i e hi => upd_ne (by omega))
  by_cases e : i = N r
  · rw [e, upd_eq, upd_eq]
  · rw [upd_ne (by omega), upd_ne e]
    exact w4 r hr i (by omega)
theorem m_length_r (d : Nat) {S : aq_S} {th k il err rd tl pc lo cur hs sv : Int32} {a0 : Int32} (h : mO S th k il err rd tl pc lo cur hs sv) (hp : a0 < 0 ∨ nI 4 ≤ a0) : aX (d + 2) 141 [.ref 52, .int a0] S (fun o S' => o = .inl (some (.int 0)) ∧ mO S' (1) k il err rd tl pc lo cur hs sv ∧ aq_fr S S' (fun q => q = 52)) := by
  refine ar_run (Nat.le_of_ble_eq_true rfl) (fun o S1 h => h.2.2.le) ?_
  refine ar_ld i_X7_length_0 rfl rfl ?_
  refine ar_cr i_X7_length_1 rfl trivial (Nat.le_of_ble_eq_true rfl) (m_isReg_no d hp) ?_
  refine ar_iff i_X7_length_4 rfl (by decide) ?_
  refine ar_ld i_X7_length_7 rfl rfl ?_
  refine ar_push i_X7_length_8 ?_
  refine av_cr i_X7_length_9 rfl ⟨_, _, _, rfl, (h)⟩ (Nat.le_of_ble_eq_true rfl) (m_fails d h 1) (fun S1 q1 => ?_)
  exact ar_ret i_X7_length_12 rfl ⟨rfl, q1⟩
theorem m_length (d : Nat) {S : aq_S} {r : Nat} {th k il err rd tl pc lo cur hs sv : Int32} {N : Nat → Nat} {G : Nat → Nat → Int32} (h : mO S th k il err rd tl pc lo cur hs sv) (hw : mW S N G) (hr : r < 4) : aX (d + 2) 141 [.ref 52, .int (nI r)] S (fun o S' => o = .inl (some (.int (nI (N r)))) ∧ mO S' (0) k il err rd tl pc lo cur hs sv ∧ aq_fr S S' (fun q => q = 52)) := by
  obtain ⟨fl, fw, w1, w2, w3, w4⟩ := hw
  refine ar_run (Nat.le_of_ble_eq_true rfl) (fun o S1 h => h.2.2.le) ?_
  refine ar_ld i_X7_length_0 rfl rfl ?_
  refine ar_cr i_X7_length_1 rfl trivial (Nat.le_of_ble_eq_true rfl) (m_isReg d hr) ?_
  refine ar_ift i_X7_length_4 rfl (by decide) ?_
  refine ar_ld i_X7_length_13 rfl rfl ?_
  refine ar_push i_X7_length_14 ?_
  refine av_pf i_X7_length_15 (h) (Nat.le_of_ble_eq_true rfl) (rfl) rfl (fun S1 g1 k1 => ?_)
  have h1 : mO S1 (0) k il err rd tl pc lo cur hs sv := g1
  refine ar_ld i_X7_length_18 rfl rfl ?_
  refine ar_gf i_X7_length_19 (h1) rfl ?_
  refine ar_ld i_X7_length_22 rfl rfl ?_
  refine av_ldi i_X7_length_23 (w1.fr k1 (by omega)) (by omega) (by omega) ?_
  rw [(w3 r hr).1]
  exact ar_ret i_X7_length_24 rfl ⟨rfl, h1, k1⟩
theorem m_clear_r (d : Nat) {S : aq_S} {th k il err rd tl pc lo cur hs sv : Int32} {a0 : Int32} (h : mO S th k il err rd tl pc lo cur hs sv) (hp : a0 < 0 ∨ nI 4 ≤ a0) : aX (d + 2) 145 [.ref 52, .int a0] S (fun o S' => o = .inl (some (.int 0)) ∧ mO S' (1) k il err rd tl pc lo cur hs sv ∧ aq_fr S S' (fun q => q = 52)) := by
  refine ar_run (Nat.le_of_ble_eq_true rfl) (fun o S1 h => h.2.2.le) ?_
  refine ar_ld i_X7_clear_0 rfl rfl ?_
  refine ar_cr i_X7_clear_1 rfl trivial (Nat.le_of_ble_eq_true rfl) (m_isReg_no d hp) ?_
  refine ar_iff i_X7_clear_4 rfl (by decide) ?_
  refine ar_ld i_X7_clear_7 rfl rfl ?_
  refine ar_push i_X7_clear_8 ?_
  refine av_cr i_X7_clear_9 rfl ⟨_, _, _, rfl, (h)⟩ (Nat.le_of_ble_eq_true rfl) (m_fails d h 1) (fun S1 q1 => ?_)
  exact ar_ret i_X7_clear_12 rfl ⟨rfl, q1⟩
theorem m_clear (d : Nat) {S : aq_S} {r : Nat} {th k il err rd tl pc lo cur hs sv : Int32} {N : Nat → Nat} {G : Nat → Nat → Int32} (g' : Nat → Int32) (h : mO S th k il err rd tl pc lo cur hs sv) (hw : mW S N G) (hr : r < 4) : aX (d + 2) 145 [.ref 52, .int (nI r)] S (fun o S' => o = .inl (some (.int (nI (N r)))) ∧ (mO S' (0) k il err rd tl pc lo cur hs sv ∧ mW S' (updN N r 0) (updG G r g')) ∧ aq_fr S S' (fun q => 52 ≤ q ∧ q ≤ 54)) := by
  obtain ⟨fl, fw, w1, w2, w3, w4⟩ := hw
  refine ar_run (Nat.le_of_ble_eq_true rfl) (fun o S1 h => h.2.2.le) ?_
  refine ar_ld i_X7_clear_0 rfl rfl ?_
  refine ar_cr i_X7_clear_1 rfl trivial (Nat.le_of_ble_eq_true rfl) (m_isReg d hr) ?_
  refine ar_ift i_X7_clear_4 rfl (by decide) ?_
  refine ar_ld i_X7_clear_13 rfl rfl ?_
  refine ar_push i_X7_clear_14 ?_
  refine av_pf i_X7_clear_15 (h) (Nat.le_of_ble_eq_true rfl) (rfl) rfl (fun S1 g1 k1 => ?_)
  have h1 : mO S1 (0) k il err rd tl pc lo cur hs sv := g1
  have u1 := w1.fr k1 (by omega)
  refine ar_ld i_X7_clear_18 rfl rfl ?_
  refine ar_gf i_X7_clear_19 (h1) rfl ?_
  refine ar_ld i_X7_clear_22 rfl rfl ?_
  refine av_ldi i_X7_clear_23 (u1) (by omega) (by omega) ?_
  rw [(w3 r hr).1]
  refine ar_st i_X7_clear_24 rfl rfl ?_
  refine ar_ld i_X7_clear_25 rfl rfl ?_
  refine ar_gf i_X7_clear_26 (h1) rfl ?_
  refine ar_ld i_X7_clear_29 rfl rfl ?_
  refine ar_push i_X7_clear_30 ?_
  refine av_sti i_X7_clear_31 (by omega) (u1) (by omega) (by omega) (fun S2 g2 k2 => ?_)
  have u2 : ia S2 54 160 fw := (w2.fr k1 (by omega)).fr k2 (by omega)
  refine ar_ld i_X7_clear_32 rfl rfl ?_
  refine ar_ret i_X7_clear_33 rfl ⟨rfl, ⟨h1.fr k2 (by omega), _, fw, g2, u2, ?_⟩, (k1.mono (fun q z => by omega)).tr (k2.mono (fun q z => by omega))⟩
  exact mW_put hr (by omega) w3 w4 upd_eq (fun x hx e => upd_ne e) (fun i hi => absurd hi (Nat.not_lt_zero i)) (fun x i e hi => rfl)
end
