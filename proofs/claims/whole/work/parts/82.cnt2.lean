/-! ===== countAvoiding, on both sides ===== -/
section
theorem kA.put {S S' : aq_S} (h : kA S) (q : aq_fr S S' (fun q => q = 40 ∨ q = 41)) (h1 : ∃ f, la S' 40 121 f) (h2 : ∃ f, la S' 41 121 f) : kA S' := by
  obtain ⟨⟨f1, a1⟩, ⟨f2, a2⟩, ⟨f3, a3⟩, ⟨f4, a4, b4⟩, ⟨f5, a5⟩, ⟨f6, a6⟩, ⟨f7, a7⟩, ⟨f8, a8⟩, -, -⟩ := h
  exact ⟨⟨f1, a1.fr q (by omega)⟩, ⟨f2, a2.fr q (by omega)⟩, ⟨f3, a3.fr q (by omega)⟩, ⟨f4, a4.fr q (by omega), b4⟩, ⟨f5, a5.fr q (by omega)⟩, ⟨f6, a6.fr q (by omega)⟩, ⟨f7, a7.fr q (by omega)⟩, ⟨f8, a8.fr q (by omega)⟩, h1, h2⟩
theorem k_countOfLength (d : Nat) {S : aq_S} {k n : Nat} {tg : Nat → Nat → Option Nat} (h : kG S k tg) (hA : kA S) (hk : k ≤ 3) (htg : ∀ s a t, tg s a = some t → t < off k 5) (hn : n ≤ 30) : aX (d + 4) 41 [.ref 31, .int (nI n)] S (fun o S' => o = .inl (some (.long (lN (sumN (fun t => wkN k (off k 5) tg n t) 121)))) ∧ kA S' ∧ aq_fr S S' (fun q => q = 40 ∨ q = 41)) := by
  have hA0 := hA
  obtain ⟨-, -, -, -, -, -, -, -, ⟨cn, h1⟩, nc, h2⟩ := hA
  refine ar_run (Nat.le_of_ble_eq_true rfl) (fun o S1 h => h.2.2.le) ?_
  refine ar_push i_X4_countOfLength_0 ?_
  refine ar_st i_X4_countOfLength_1 rfl rfl ?_
  have ph2 : ∀ j i (S1 : aq_S) (cn nc : Nat → Int64), i + j = n → kG S1 k tg → la S1 40 121 cn → la S1 41 121 nc → (∀ t, t < 121 → cn t = lN (wkN k (off k 5) tg i t)) → aq_fr S S1 (fun q => q = 40 ∨ q = 41) → aG (d + 3) 41 (fun o S' => o = .inl (some (.long (lN (sumN (fun t => wkN k (off k 5) tg n t) 121)))) ∧ kA S' ∧ aq_fr S S' (fun q => q = 40 ∨ q = 41)) 34 [(0, .ref 31), (1, .int (nI n)), (2, .int (nI i))] [] S1 := by
    intro j
    induction j with
    | zero =>
      intro i S1 cn nc hi hG h1 h2 hc hfr
      have ei : i = n := hi
      subst ei
      refine ar_ld i_X4_countOfLength_34 rfl rfl ?_
      refine ar_ld i_X4_countOfLength_35 rfl rfl ?_
      refine ar_ift i_X4_countOfLength_36 rfl (nI_le (Nat.le_refl _) (by omega)) ?_
      refine ar_push i_X4_countOfLength_49 ?_
      refine ar_st i_X4_countOfLength_50 rfl rfl ?_
      refine ar_push i_X4_countOfLength_51 ?_
      refine ar_st i_X4_countOfLength_52 rfl rfl ?_
      have ph3 : ∀ j t, t + j = 121 → aG (d + 3) 41 (fun o S' => o = .inl (some (.long (lN (sumN (fun t => wkN k (off k 5) tg i t) 121)))) ∧ kA S' ∧ aq_fr S S' (fun q => q = 40 ∨ q = 41)) 54 [(0, .ref 31), (1, .int (nI i)), (2, .long (lN (sumN (fun t => wkN k (off k 5) tg i t) t))), (4, .int (nI t))] [] S1 := by
        intro j
        induction j with
        | zero =>
          intro t ht
          have et : t = 121 := ht
          subst et
          refine ar_ld i_X4_countOfLength_54 rfl rfl ?_
          refine ar_ld i_X4_countOfLength_56 rfl rfl ?_
          refine ar_gf i_X4_countOfLength_57 (hG.1) rfl ?_
          refine ar_len i_X4_countOfLength_60 (by decide) (h1) ?_
          refine ar_ift i_X4_countOfLength_61 rfl (nI_le (a := 121) (b := 121) (by omega) (by omega)) ?_
          refine ar_ld i_X4_countOfLength_80 rfl rfl ?_
          exact ar_ret i_X4_countOfLength_81 rfl ⟨rfl, hA0.put hfr ⟨cn, h1⟩ ⟨nc, h2⟩, hfr⟩
        | succ j ih =>
          intro t ht
          refine ar_ld i_X4_countOfLength_54 rfl rfl ?_
          refine ar_ld i_X4_countOfLength_56 rfl rfl ?_
          refine ar_gf i_X4_countOfLength_57 (hG.1) rfl ?_
          refine ar_len i_X4_countOfLength_60 (by decide) (h1) ?_
          refine ar_iff i_X4_countOfLength_61 rfl (nI_ge (b := 121) (by omega) (by omega)) ?_
          refine ar_ld i_X4_countOfLength_64 rfl rfl ?_
          refine ar_ld i_X4_countOfLength_65 rfl rfl ?_
          refine ar_gf i_X4_countOfLength_66 (hG.1) rfl ?_
          refine ar_ld i_X4_countOfLength_69 rfl rfl ?_
          refine av_ldl i_X4_countOfLength_71 (h1) (by omega) (by omega) ?_
          rw [hc t (by omega)]
          refine ar_ar i_X4_countOfLength_72 rfl ?_
          rw [lN_add]
          refine ar_st i_X4_countOfLength_73 rfl rfl ?_
          refine ar_inc i_X4_countOfLength_74 rfl rfl ?_
          refine ar_go i_X4_countOfLength_77 ?_
          have := ih (t + 1) (by omega)
          rw [← nI_1 t] at this
          exact this
      exact ph3 121 0 (by omega)
    | succ j ih =>
      intro i S1 cn nc hi hG h1 h2 hc hfr
      refine ar_ld i_X4_countOfLength_34 rfl rfl ?_
      refine ar_ld i_X4_countOfLength_35 rfl rfl ?_
      refine ar_iff i_X4_countOfLength_36 rfl (nI_ge (by omega) (by omega)) ?_
      refine ar_ld i_X4_countOfLength_39 rfl rfl ?_
      refine av_cv i_X4_countOfLength_40 rfl ⟨_, _, _, rfl, hG.1⟩ (Nat.le_of_ble_eq_true rfl) (k_countOneMore d hG hk htg h1 h2 hc) (fun S2 q2 => ?_)
      obtain ⟨⟨cn', g1, g2, nc', g3⟩, k2⟩ := q2
      refine ar_inc i_X4_countOfLength_43 rfl rfl ?_
      refine ar_go i_X4_countOfLength_46 ?_
      have := ih (i + 1) S2 cn' nc' (by omega) (hG.fr k2 (by omega) (by omega) (by omega)) g1 g3 g2 (hfr.tr k2)
      rw [← nI_1 i] at this
      exact this
  suffices ph1 : ∀ j i (S1 : aq_S) (cn : Nat → Int64), i + j = 121 → kG S1 k tg → la S1 40 121 cn → la S1 41 121 nc → (∀ t, t < i → cn t = lN (wkN k (off k 5) tg 0 t)) → aq_fr S S1 (fun q => q = 40 ∨ q = 41) → aG (d + 3) 41 (fun o S' => o = .inl (some (.long (lN (sumN (fun t => wkN k (off k 5) tg n t) 121)))) ∧ kA S' ∧ aq_fr S S' (fun q => q = 40 ∨ q = 41)) 2 [(0, .ref 31), (1, .int (nI n)), (2, .int (nI i))] [] S1 from ph1 121 0 S cn (by omega) h h1 h2 (fun t ht => absurd ht (Nat.not_lt_zero t)) aq_fr.rf
  intro j
  induction j with
  | zero =>
    intro i S1 cn hi hG h1 h2 hag hfr
    refine ar_ld i_X4_countOfLength_2 rfl rfl ?_
    refine ar_ld i_X4_countOfLength_3 rfl rfl ?_
    refine ar_gf i_X4_countOfLength_4 (hG.1) rfl ?_
    refine ar_len i_X4_countOfLength_7 (by decide) (h1) ?_
    refine ar_ift i_X4_countOfLength_8 rfl (nI_le (a := 121) (by omega) (by omega)) ?_
    refine ar_push i_X4_countOfLength_32 ?_
    refine ar_st i_X4_countOfLength_33 rfl rfl ?_
    exact ph2 n 0 S1 cn nc (by omega) hG h1 h2 (fun t ht => hag t (by omega)) hfr
  | succ j ih =>
    intro i S1 cn hi hG h1 h2 hag hfr
    have fin : ∀ x : Int64, x = lN (wkN k (off k 5) tg 0 i) → aG (d + 3) 41 (fun o S' => o = .inl (some (.long (lN (sumN (fun t => wkN k (off k 5) tg n t) 121)))) ∧ kA S' ∧ aq_fr S S' (fun q => q = 40 ∨ q = 41)) 25 [(0, .ref 31), (1, .int (nI n)), (2, .int (nI i))] [.long x, .int (nI i), .ref 40] S1 := by
      intro x hx
      refine av_stl i_X4_countOfLength_25 (by omega) (h1) (by omega) (by omega) (fun S2 g2 k2 => ?_)
      refine ar_inc i_X4_countOfLength_26 rfl rfl ?_
      refine ar_go i_X4_countOfLength_29 ?_
      have := ih (i + 1) S2 _ (by omega) (hG.fr k2 (by omega) (by omega) (by omega)) g2 (h2.fr k2 (by omega)) (fun t ht => by
        by_cases e : t = i
        · rw [e, vp_updL_eq]; exact hx
        · rw [vp_updL_ne e]; exact hag t (by omega)) (hfr.tr (k2.mono (fun q z => Or.inl z)))
      rw [← nI_1 i] at this
      exact this
    refine ar_ld i_X4_countOfLength_2 rfl rfl ?_
    refine ar_ld i_X4_countOfLength_3 rfl rfl ?_
    refine ar_gf i_X4_countOfLength_4 (hG.1) rfl ?_
    refine ar_len i_X4_countOfLength_7 (by decide) (h1) ?_
    refine ar_iff i_X4_countOfLength_8 rfl (nI_ge (b := 121) (by omega) (by omega)) ?_
    refine ar_ld i_X4_countOfLength_11 rfl rfl ?_
    refine ar_gf i_X4_countOfLength_12 (hG.1) rfl ?_
    refine ar_ld i_X4_countOfLength_15 rfl rfl ?_
    refine ar_ld i_X4_countOfLength_16 rfl rfl ?_
    by_cases e : i = 0
    · subst e
      refine ar_iff i_X4_countOfLength_17 rfl (fun z => z rfl) ?_
      refine ar_push i_X4_countOfLength_20 ?_
      refine ar_go i_X4_countOfLength_21 ?_
      exact fin 1 rfl
    · refine ar_ift i_X4_countOfLength_17 rfl (nI_ne0 (by omega) (by omega)) ?_
      refine ar_push i_X4_countOfLength_24 ?_
      exact fin 0 (by rw [show wkN k (off k 5) tg 0 i = 0 from if_neg e]; rfl)
/-- the walks of the class, whatever they hold -/
def kQ (S : aq_S) : Prop := (∃ lt st, kO S lt st) ∧ kA S
theorem tgG_lt {k : Nat} {al : Nat → Nat → Nat → Prop} (hk : 0 < k) (s a t : Nat) (ha : a < k) (h : tgG k al s a = some t) : t < off k 5 := by
  unfold tgG at h
  by_cases e : ∃ n u, n ≤ 4 ∧ u < k ^ n ∧ s = off k n + u ∧ al n u a
  · have e0 := e
    obtain ⟨n, u, h1, h2, h3, h4⟩ := e0
    have e2 := tgG_at (k := k) (al := al) (a := a) h1 h2
    rw [pif_t h4, ← h3] at e2
    unfold tgG at e2
    rw [h] at e2
    rw [Option.some.inj e2]
    exact (nxS_lt hk h1 h2 ha).2
  · rw [pif_f e] at h
    cases h
/-- targets beyond the letters don't count -/
noncomputable def tgL (k : Nat) (al : Nat → Nat → Nat → Prop) (s a : Nat) : Option Nat := if a < k then tgG k al s a else none
theorem tgL_in {k s a : Nat} {al : Nat → Nat → Nat → Prop} (ha : a < k) : tgL k al s a = tgG k al s a := if_pos ha
theorem tgL_lt {k : Nat} {al : Nat → Nat → Nat → Prop} (hk : 0 < k) (s a t : Nat) (h : tgL k al s a = some t) : t < off k 5 := by
  unfold tgL at h
  by_cases ha : a < k
  · rw [if_pos ha] at h
    exact tgG_lt hk s a t ha h
  · rw [if_neg ha] at h
    cases h
theorem kG.lt {S : aq_S} {k : Nat} {al : Nat → Nat → Nat → Prop} (h : kG S k (tgG k al)) : kG S k (tgL k al) := by
  obtain ⟨o1, ⟨T, hT, hg⟩, l⟩ := h
  exact ⟨o1, ⟨T, hT, fun s hs a ha => by rw [hg s hs a ha, tgL_in ha]⟩, l⟩
theorem wkN_tgL {k : Nat} {al : Nat → Nat → Nat → Prop} (sz : Nat) : ∀ n t, wkN k sz (tgL k al) n t = wkN k sz (tgG k al) n t
  | 0, t => rfl
  | n + 1, t => by
    show sumN _ sz = sumN _ sz
    refine sumN_cg sz fun s _ => ?_
    rw [wkN_tgL sz n s, cntN_cg k (fun a ha => by rw [tgL_in ha])]
theorem eE_ends {c : Nat} {pn : Nat → Nat} {E : Int64} (hc : c ≤ 12) (h : ∀ t, t < 64 → (lb E t = true ↔ pEnd c pn t)) : eE (-1) c pn E := fun t ht => by
  rw [h t ht]
  exact ⟨fun ⟨i, hi, e⟩ => ⟨i, hi, nI_nm1 i (by omega), e⟩, fun ⟨i, hi, _, e⟩ => ⟨i, hi, e⟩⟩
theorem x_countAvoiding_n (d : Nat) {S : aq_S} {n : Int32} (hn : n < 0 ∨ nI 31 ≤ n) : aX (d + 1) 102 [.ref 1, .int n] S (fun o S' => o = .inr "java/lang/IllegalArgumentException" ∧ S' = aq_thrown S) := by
  refine ar_run (Nat.le_of_ble_eq_true rfl) (fun o S1 h => aq_le_of (aq_le_thr S) h) ?_
  refine ar_ld i_X6_countAvoiding_0 rfl rfl ?_
  refine ar_if i_X6_countAvoiding_1 rfl (fun c1 => ?_) (fun c1 => ?_)
  · exact ar_thr i_X6_countAvoiding_10 (Nat.le_of_ble_eq_true rfl) ⟨rfl, rfl⟩
  · refine ar_ld i_X6_countAvoiding_4 rfl rfl ?_
    refine ar_push i_X6_countAvoiding_5 ?_
    refine ar_iff i_X6_countAvoiding_7 rfl (fun z => absurd (Int32.le_trans (hn.resolve_left c1) z) (by decide +kernel)) ?_
    exact ar_thr i_X6_countAvoiding_10 (Nat.le_of_ble_eq_true rfl) ⟨rfl, rfl⟩
theorem x_countAvoiding (d : Nat) {S : aq_S} {k c n : Nat} {hs : Int32} {pn : Nat → Nat} {pg : Nat → Nat → Int32} (h : hT S k hs) (hp : hP S 4 c pn pg) (hpk : pOk c pn pg) (hq : kQ S) (hk0 : 0 < k) (hk : k ≤ 3) (hn : n ≤ 30) : aX (d + 5) 102 [.ref 1, .int (nI n)] S (fun o S' => o = .inl (some (.long (lN (acnt (-1) k c pn pg n)))) ∧ kQ S' ∧ aq_fr S S' (fun q => 31 ≤ q ∧ q ≤ 41)) := by
  obtain ⟨⟨lt, st, ko⟩, kA0⟩ := hq
  have hp0 := hp
  obtain ⟨E0, acc0, hp1, -⟩ := hp0
  refine ar_run (Nat.le_of_ble_eq_true rfl) (fun o S1 h => h.2.2.le) ?_
  refine ar_ld i_X6_countAvoiding_0 rfl rfl ?_
  refine ar_iff i_X6_countAvoiding_1 rfl (nI_pos (by omega)) ?_
  refine ar_ld i_X6_countAvoiding_4 rfl rfl ?_
  refine ar_push i_X6_countAvoiding_5 ?_
  refine ar_ift i_X6_countAvoiding_7 rfl (nI_le (b := 30) hn (by omega)) ?_
  refine ar_ld i_X6_countAvoiding_21 rfl rfl ?_
  refine ar_gf i_X6_countAvoiding_22 (h.1) rfl ?_
  refine ar_ld i_X6_countAvoiding_25 rfl rfl ?_
  refine ar_gf i_X6_countAvoiding_26 (h.1) rfl ?_
  refine ar_gf i_X6_countAvoiding_29 (h.2.1) rfl ?_
  refine ar_ld i_X6_countAvoiding_32 rfl rfl ?_
  refine ar_gf i_X6_countAvoiding_33 (h.1) rfl ?_
  refine ar_gf i_X6_countAvoiding_36 (h.2.1) rfl ?_
  refine ar_ld i_X6_countAvoiding_39 rfl rfl ?_
  refine ar_gf i_X6_countAvoiding_40 (h.1) rfl ?_
  refine ar_gf i_X6_countAvoiding_43 (h.2.1) rfl ?_
  refine av_ce i_X6_countAvoiding_46 rfl ⟨_, _, _, rfl, hp1⟩ (Nat.le_of_ble_eq_true rfl) (p_ends (d + 3) hp) (fun E S2 hE => ?_)
  obtain ⟨hE2, e2⟩ := hE
  subst e2
  refine av_cv i_X6_countAvoiding_49 rfl ⟨_, _, _, rfl, ko⟩ (Nat.le_of_ble_eq_true rfl) (k_build (d + 2) ko kA0 hp hpk (eE_ends hpk.1 hE2) hk0 hk) (fun S3 q3 => ?_)
  obtain ⟨⟨g3, a3⟩, k3⟩ := q3
  have hT3 := h.fr k3 (by omega)
  refine ar_ld i_X6_countAvoiding_52 rfl rfl ?_
  refine ar_gf i_X6_countAvoiding_53 (hT3.1) rfl ?_
  refine ar_ld i_X6_countAvoiding_56 rfl rfl ?_
  have hcall := k_countOfLength d g3.lt a3 hk (tgL_lt hk0) hn
  rw [sumN_cg (g := fun t => wkN k (off k 5) (tgG k (alP (-1) k c pn pg)) n t) 121 (fun t _ => wkN_tgL _ n t), wkN_tot hpk hk0 hk n] at hcall
  refine av_cr i_X6_countAvoiding_57 rfl ⟨_, _, _, rfl, g3.1⟩ (Nat.le_of_ble_eq_true rfl) (hcall) (fun S4 q4 => ?_)
  exact ar_ret i_X6_countAvoiding_60 rfl ⟨rfl, ⟨⟨_, _, g3.1.fr q4.2 (by omega)⟩, q4.1⟩, (k3.mono (fun q z => by omega)).tr (q4.2.mono (fun q z => by omega))⟩
end
