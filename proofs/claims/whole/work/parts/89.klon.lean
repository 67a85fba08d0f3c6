/-! ===== the longest walk: the class ===== -/
section
theorem kA.put2 {S S' : aq_S} (h : kA S) (q : aq_fr S S' (fun q => 36 ≤ q ∧ q ≤ 39)) (h1 : ∃ f, ia S' 36 121 f) (h2 : ∃ f, ia S' 37 121 f) (h3 : ∃ f, ia S' 38 121 f) (h4 : ∃ f, ia S' 39 121 f) : kA S' := by
  obtain ⟨⟨f1, a1⟩, ⟨f2, a2⟩, ⟨f3, a3⟩, ⟨f4, a4, b4⟩, -, -, -, -, ⟨f9, a9⟩, f10, a10⟩ := h
  exact ⟨⟨f1, a1.fr q (by omega)⟩, ⟨f2, a2.fr q (by omega)⟩, ⟨f3, a3.fr q (by omega)⟩, ⟨f4, a4.fr q (by omega), b4⟩, h1, h2, h3, h4, ⟨f9, a9.fr q (by omega)⟩, f10, a10.fr q (by omega)⟩
theorem k_countArrivals (d : Nat) {S : aq_S} {k : Nat} {tg : Nat → Nat → Option Nat} {q0 f0 : Nat → Int32} (hg0 : kG S k tg) (hk : k ≤ 3) (hk0 : 0 < k) (htg : ∀ s a t, tg s a = some t → 0 < t ∧ t < off k 5) (h1 : ia S 36 121 q0) (h2 : ia S 38 121 f0) : aX (d + 3) 40 [.ref 31] S (fun o S' => o = .inl (some (.int (nI (cntN (fun s => rch k (off k 5) tg s) (off k 5))))) ∧ (∃ q f, ia S' 36 121 q ∧ ia S' 38 121 f ∧ ∀ t, t < off k 5 → f t = nI (tot k (off k 5) tg t)) ∧ aq_fr S S' (fun q => q = 36 ∨ q = 38)) := by
  have h5 := off_5 k (by omega)
  have h50 : 0 < off k 5 := by
    have := htg 0 0
    have e : off k 5 = off k 4 * k + 1 := rfl
    omega
  refine ar_run (Nat.le_of_ble_eq_true rfl) (fun o S1 h => h.2.2.le) ?_
  have ph2 : ∀ j h r (S1 : aq_S) (Q : Nat → Nat) (q f : Nat → Int32) (L : List (Nat × Value)), h + j = 121 → h ≤ r → (L = [] ∨ (∃ v, L = [(3, .int v)]) ∨ ∃ v u, L = [(3, .int v), (4, .int u)]) → kG S1 k tg → ia S1 36 121 q → ia S1 38 121 f → (∀ i, i < r → q i = nI (Q i)) → caI k (off k 5) tg Q r h 0 f → aq_fr S S1 (fun q => q = 36 ∨ q = 38) → aG (d + 2) 40 (fun o S' => o = .inl (some (.int (nI (cntN (fun s => rch k (off k 5) tg s) (off k 5))))) ∧ (∃ q f, ia S' 36 121 q ∧ ia S' 38 121 f ∧ ∀ t, t < off k 5 → f t = nI (tot k (off k 5) tg t)) ∧ aq_fr S S' (fun q => q = 36 ∨ q = 38)) 37 ((0, .ref 31) :: (1, .int (nI r)) :: (2, .int (nI h)) :: L) [] S1 := by
    have ended : ∀ r (S1 : aq_S) (Q : Nat → Nat) (q f : Nat → Int32) (L : List (Nat × Value)), kG S1 k tg → ia S1 36 121 q → ia S1 38 121 f → caI k (off k 5) tg Q r r 0 f → aq_fr S S1 (fun q => q = 36 ∨ q = 38) → aG (d + 2) 40 (fun o S' => o = .inl (some (.int (nI (cntN (fun s => rch k (off k 5) tg s) (off k 5))))) ∧ (∃ q f, ia S' 36 121 q ∧ ia S' 38 121 f ∧ ∀ t, t < off k 5 → f t = nI (tot k (off k 5) tg t)) ∧ aq_fr S S' (fun q => q = 36 ∨ q = 38)) 137 ((0, .ref 31) :: (1, .int (nI r)) :: (2, .int (nI r)) :: L) [] S1 := by
      intro r S1 Q q f L hG f1 f2 ci hfr
      obtain ⟨e1, e2⟩ := caI_end (fun s a t e => (htg s a t e).2) h50 ci
      refine ar_ld i_X4_countArrivals_137 rfl rfl ?_
      exact ar_ret i_X4_countArrivals_138 rfl ⟨congrArg (fun x => Sum.inl (some (Value.int (nI x)))) e1, ⟨q, f, f1, f2, e2⟩, hfr⟩
    intro j
    induction j with
    | zero =>
      intro h r S1 Q q f L hj hh hL hG f1 f2 hq ci hfr
      have hr := qI_le ci.2.2.1
      have er : r = h := by omega
      subst er
      refine ar_ld i_X4_countArrivals_37 rfl rfl ?_
      refine ar_ld i_X4_countArrivals_38 rfl rfl ?_
      refine ar_ift i_X4_countArrivals_39 rfl (nI_le (Nat.le_refl _) (by omega)) ?_
      exact ended r S1 Q q f L hG f1 f2 ci hfr
    | succ j ih =>
      intro h r S1 Q q f L hj hh hL hG f1 f2 hq ci hfr
      have hr := qI_le ci.2.2.1
      by_cases er : h = r
      · subst er
        refine ar_ld i_X4_countArrivals_37 rfl rfl ?_
        refine ar_ld i_X4_countArrivals_38 rfl rfl ?_
        refine ar_ift i_X4_countArrivals_39 rfl (nI_le (Nat.le_refl _) (by omega)) ?_
        exact ended h S1 Q q f L hG f1 f2 ci hfr
      · have inner : ∀ jj a r (S1 : aq_S) (Q : Nat → Nat) (q f : Nat → Int32) (L3 : List (Nat × Value)), a + jj = k → h < r → (L3 = [] ∨ ∃ u, L3 = [(4, .int u)]) → kG S1 k tg → ia S1 36 121 q → ia S1 38 121 f → (∀ i, i < r → q i = nI (Q i)) → caI k (off k 5) tg Q r h a f → aq_fr S S1 (fun q => q = 36 ∨ q = 38) → aG (d + 2) 40 (fun o S' => o = .inl (some (.int (nI (cntN (fun s => rch k (off k 5) tg s) (off k 5))))) ∧ (∃ q f, ia S' 36 121 q ∧ ia S' 38 121 f ∧ ∀ t, t < off k 5 → f t = nI (tot k (off k 5) tg t)) ∧ aq_fr S S' (fun q => q = 36 ∨ q = 38)) 53 ((0, .ref 31) :: (1, .int (nI r)) :: (2, .int (nI h)) :: (3, .int (nI a)) :: L3) [] S1 := by
          intro jj
          induction jj with
          | zero =>
            intro a r S1 Q q f L3 ha hh hL3 hG f1 f2 hq ci hfr
            have ea : a = k := ha
            subst ea
            have hr := qI_le ci.2.2.1
            refine ar_ld i_X4_countArrivals_53 rfl rfl ?_
            refine ar_ld i_X4_countArrivals_54 rfl rfl ?_
            refine ar_gf i_X4_countArrivals_55 (hG.1) rfl ?_
            refine ar_ift i_X4_countArrivals_58 rfl (nI_le (Nat.le_refl _) (by omega)) ?_
            refine ar_inc i_X4_countArrivals_131 rfl rfl ?_
            refine ar_go i_X4_countArrivals_134 ?_
            rw [nI_1]
            have := ih (h + 1) r S1 Q q f ((3, .int (nI a)) :: L3) (by omega) (by omega) (by
              rcases hL3 with e | ⟨u, e⟩
              · exact Or.inr (Or.inl ⟨_, by rw [e]⟩)
              · exact Or.inr (Or.inr ⟨_, _, by rw [e]⟩)) hG f1 f2 hq (caI_adv ci) hfr
            rcases hL3 with e | ⟨u, e⟩ <;> subst e <;> exact this
          | succ jj ihj =>
            intro a r S1 Q q f L3 ha hh hL3 hG f1 f2 hq ci hfr
            have hr := qI_le ci.2.2.1
            have hQ := ci.2.2.1.1 h hh
            have body : aG (d + 2) 40 (fun o S' => o = .inl (some (.int (nI (cntN (fun s => rch k (off k 5) tg s) (off k 5))))) ∧ (∃ q f, ia S' 36 121 q ∧ ia S' 38 121 f ∧ ∀ t, t < off k 5 → f t = nI (tot k (off k 5) tg t)) ∧ aq_fr S S' (fun q => q = 36 ∨ q = 38)) 74 ((0, .ref 31) :: (1, .int (nI r)) :: (2, .int (nI h)) :: (3, .int (nI a)) :: (4, .int (tgI (tg (Q h) a))) :: []) [] S1 := by
              cases ht : tg (Q h) a with
              | none =>
                refine ar_ld i_X4_countArrivals_74 rfl rfl ?_
                refine ar_push i_X4_countArrivals_76 ?_
                refine ar_ift i_X4_countArrivals_77 rfl (rfl) ?_
                refine ar_inc i_X4_countArrivals_125 rfl rfl ?_
                refine ar_go i_X4_countArrivals_128 ?_
                rw [nI_1]
                exact ihj (a + 1) r S1 Q q f [(4, .int (-1))] (by omega) hh (Or.inr ⟨_, rfl⟩) hG f1 f2 hq (caI_none ci ht) hfr
              | some t0 =>
                obtain ⟨ht0, ht1⟩ := htg _ _ _ ht
                rw [tgI_some]
                refine ar_ld i_X4_countArrivals_74 rfl rfl ?_
                refine ar_push i_X4_countArrivals_76 ?_
                refine ar_iff i_X4_countArrivals_77 rfl (nI_nm1 t0 (by omega)) ?_
                have hft := ci.2.2.2.2.1 t0 ht1
                have hple := pB_le (k := k) (tg := tg) (Q := Q) (h := h) (a := a) (t := t0)
                have hhk : h * k ≤ 121 * 3 := Nat.mul_le_mul (by omega) hk
                have last : ∀ r (S2 : aq_S) (Q : Nat → Nat) (q : Nat → Int32), h < r → kG S2 k tg → ia S2 36 121 q → ia S2 38 121 f → (∀ i, i < r → q i = nI (Q i)) → caI k (off k 5) tg Q r h (a + 1) (upd f t0 (f t0 + 1)) → aq_fr S S2 (fun q => q = 36 ∨ q = 38) → aG (d + 2) 40 (fun o S' => o = .inl (some (.int (nI (cntN (fun s => rch k (off k 5) tg s) (off k 5))))) ∧ (∃ q f, ia S' 36 121 q ∧ ia S' 38 121 f ∧ ∀ t, t < off k 5 → f t = nI (tot k (off k 5) tg t)) ∧ aq_fr S S' (fun q => q = 36 ∨ q = 38)) 105 ((0, .ref 31) :: (1, .int (nI r)) :: (2, .int (nI h)) :: (3, .int (nI a)) :: (4, .int (nI t0)) :: []) [] S2 := by
                  intro r S2 Q q hh hG f1 f2 hq ci hfr
                  refine ar_ld i_X4_countArrivals_105 rfl rfl ?_
                  refine ar_gf i_X4_countArrivals_106 (hG.1) rfl ?_
                  refine ar_ld i_X4_countArrivals_109 rfl rfl ?_
                  refine ar_ld i_X4_countArrivals_111 rfl rfl ?_
                  refine ar_gf i_X4_countArrivals_112 (hG.1) rfl ?_
                  refine ar_ld i_X4_countArrivals_115 rfl rfl ?_
                  refine ar_cr i_X4_countArrivals_117 rfl trivial (Nat.le_of_ble_eq_true rfl) (k_peek (d + 1) f2 (show t0 < 121 by omega) (by omega)) ?_
                  refine ar_push i_X4_countArrivals_120 ?_
                  refine ar_ar i_X4_countArrivals_121 rfl ?_
                  refine av_cv i_X4_countArrivals_122 rfl trivial (Nat.le_of_ble_eq_true rfl) (k_poke (d + 1) f2 (show t0 < 121 by omega) (by omega) (by omega) (f t0 + 1)) (fun S3 q3 => ?_)
                  obtain ⟨g3, k3⟩ := q3
                  refine ar_inc i_X4_countArrivals_125 rfl rfl ?_
                  refine ar_go i_X4_countArrivals_128 ?_
                  rw [nI_1]
                  exact ihj (a + 1) r S3 Q q _ [(4, .int (nI t0))] (by omega) hh (Or.inr ⟨_, rfl⟩) (hG.fr k3 (by omega) (by omega) (by omega)) (f1.fr k3 (by omega)) g3 hq ci (hfr.tr (k3.mono (fun q z => Or.inr z)))
                refine ar_ld i_X4_countArrivals_80 rfl rfl ?_
                refine ar_gf i_X4_countArrivals_81 (hG.1) rfl ?_
                refine ar_ld i_X4_countArrivals_84 rfl rfl ?_
                refine ar_cr i_X4_countArrivals_86 rfl trivial (Nat.le_of_ble_eq_true rfl) (k_peek (d + 1) f2 (show t0 < 121 by omega) (by omega)) ?_
                by_cases hp : pB k tg Q h a t0 = 0
                · refine ar_iff i_X4_countArrivals_89 rfl (fun z => z (by rw [hft, hp]; rfl)) ?_
                  obtain ⟨hrz, ci2⟩ := caI_new ci hh (by omega) ht ht0 ht1 hp
                  refine ar_ld i_X4_countArrivals_92 rfl rfl ?_
                  refine ar_gf i_X4_countArrivals_93 (hG.1) rfl ?_
                  refine ar_ld i_X4_countArrivals_96 rfl rfl ?_
                  refine ar_ld i_X4_countArrivals_97 rfl rfl ?_
                  refine av_cv i_X4_countArrivals_99 rfl trivial (Nat.le_of_ble_eq_true rfl) (k_poke (d + 1) f1 (show r < 121 by omega) (by omega) (by omega) (nI t0)) (fun S2 q2 => ?_)
                  obtain ⟨g2, k2⟩ := q2
                  refine ar_inc i_X4_countArrivals_102 rfl rfl ?_
                  rw [nI_1]
                  exact last (r + 1) S2 _ _ (by omega) (hG.fr k2 (by omega) (by omega) (by omega)) g2 (f2.fr k2 (by omega)) (fun i hi => by
                    by_cases e : i = r
                    · rw [e, upd_eq, ups_eq]
                    · rw [upd_ne e, ups_ne e]; exact hq i (by omega)) ci2 (hfr.tr (k2.mono (fun q z => Or.inl z)))
                · refine ar_ift i_X4_countArrivals_89 rfl (by rw [hft]; exact nI_ne0 (by omega) (by omega)) ?_
                  exact last r S1 Q q hh hG f1 f2 hq (caI_old ci ht ht1 (by omega)) hfr
            refine ar_ld i_X4_countArrivals_53 rfl rfl ?_
            refine ar_ld i_X4_countArrivals_54 rfl rfl ?_
            refine ar_gf i_X4_countArrivals_55 (hG.1) rfl ?_
            refine ar_iff i_X4_countArrivals_58 rfl (nI_ge (show a < k by omega) (by omega)) ?_
            refine ar_ld i_X4_countArrivals_61 rfl rfl ?_
            refine ar_ld i_X4_countArrivals_62 rfl rfl ?_
            refine ar_gf i_X4_countArrivals_63 (hG.1) rfl ?_
            refine ar_ld i_X4_countArrivals_66 rfl rfl ?_
            refine av_ldi i_X4_countArrivals_67 (f1) (by omega) (by omega) ?_
            rw [hq h hh]
            refine ar_ld i_X4_countArrivals_68 rfl rfl ?_
            refine ar_cr i_X4_countArrivals_69 rfl ⟨_, _, _, rfl, (hG.1)⟩ (Nat.le_of_ble_eq_true rfl) (k_target d hG hQ (show a < k by omega) hk) ?_
            rcases hL3 with e | ⟨u, e⟩
            · subst e
              refine ar_st i_X4_countArrivals_72 rfl rfl ?_
              exact body
            · subst e
              refine ar_st i_X4_countArrivals_72 rfl rfl ?_
              exact body
        have start := fun L3 hL3 => inner k 0 r S1 Q q f L3 (by omega) (by omega) hL3 hG f1 f2 hq ci hfr
        rcases hL with e | ⟨v, e⟩ | ⟨v, u, e⟩
        · subst e
          refine ar_ld i_X4_countArrivals_37 rfl rfl ?_
          refine ar_ld i_X4_countArrivals_38 rfl rfl ?_
          refine ar_iff i_X4_countArrivals_39 rfl (nI_ge (show h < r by omega) (by omega)) ?_
          refine ar_ld i_X4_countArrivals_42 rfl rfl ?_
          refine ar_ld i_X4_countArrivals_43 rfl rfl ?_
          refine ar_gf i_X4_countArrivals_44 (hG.1) rfl ?_
          refine ar_len i_X4_countArrivals_47 (by decide) (f1) ?_
          refine ar_iff i_X4_countArrivals_48 rfl (nI_ge (a := h) (b := 121) (by omega) (by omega)) ?_
          refine ar_push i_X4_countArrivals_51 ?_
          refine ar_st i_X4_countArrivals_52 rfl rfl ?_
          exact start [] (Or.inl rfl)
        · subst e
          refine ar_ld i_X4_countArrivals_37 rfl rfl ?_
          refine ar_ld i_X4_countArrivals_38 rfl rfl ?_
          refine ar_iff i_X4_countArrivals_39 rfl (nI_ge (show h < r by omega) (by omega)) ?_
          refine ar_ld i_X4_countArrivals_42 rfl rfl ?_
          refine ar_ld i_X4_countArrivals_43 rfl rfl ?_
          refine ar_gf i_X4_countArrivals_44 (hG.1) rfl ?_
          refine ar_len i_X4_countArrivals_47 (by decide) (f1) ?_
          refine ar_iff i_X4_countArrivals_48 rfl (nI_ge (a := h) (b := 121) (by omega) (by omega)) ?_
          refine ar_push i_X4_countArrivals_51 ?_
          refine ar_st i_X4_countArrivals_52 rfl rfl ?_
          exact start [] (Or.inl rfl)
        · subst e
          refine ar_ld i_X4_countArrivals_37 rfl rfl ?_
          refine ar_ld i_X4_countArrivals_38 rfl rfl ?_
          refine ar_iff i_X4_countArrivals_39 rfl (nI_ge (show h < r by omega) (by omega)) ?_
          refine ar_ld i_X4_countArrivals_42 rfl rfl ?_
          refine ar_ld i_X4_countArrivals_43 rfl rfl ?_
          refine ar_gf i_X4_countArrivals_44 (hG.1) rfl ?_
          refine ar_len i_X4_countArrivals_47 (by decide) (f1) ?_
          refine ar_iff i_X4_countArrivals_48 rfl (nI_ge (a := h) (b := 121) (by omega) (by omega)) ?_
          refine ar_push i_X4_countArrivals_51 ?_
          refine ar_st i_X4_countArrivals_52 rfl rfl ?_
          exact start [(4, .int u)] (Or.inr ⟨_, rfl⟩)
  refine ar_push i_X4_countArrivals_0 ?_
  refine ar_st i_X4_countArrivals_1 rfl rfl ?_
  suffices ph1 : ∀ j i (S1 : aq_S) (f : Nat → Int32), i + j = 121 → kG S1 k tg → ia S1 36 121 q0 → ia S1 38 121 f → (∀ t, t < i → f t = 0) → aq_fr S S1 (fun q => q = 36 ∨ q = 38) → aG (d + 2) 40 (fun o S' => o = .inl (some (.int (nI (cntN (fun s => rch k (off k 5) tg s) (off k 5))))) ∧ (∃ q f, ia S' 36 121 q ∧ ia S' 38 121 f ∧ ∀ t, t < off k 5 → f t = nI (tot k (off k 5) tg t)) ∧ aq_fr S S' (fun q => q = 36 ∨ q = 38)) 2 [(0, .ref 31), (1, .int (nI i))] [] S1 from ph1 121 0 S f0 (by omega) hg0 h1 h2 (fun t ht => absurd ht (Nat.not_lt_zero t)) aq_fr.rf
  intro j
  induction j with
  | zero =>
    intro i S1 f hi hG h1 h2 hag hfr
    refine ar_ld i_X4_countArrivals_2 rfl rfl ?_
    refine ar_ld i_X4_countArrivals_3 rfl rfl ?_
    refine ar_gf i_X4_countArrivals_4 (hG.1) rfl ?_
    refine ar_len i_X4_countArrivals_7 (by decide) (h2) ?_
    refine ar_ift i_X4_countArrivals_8 rfl (nI_le (a := 121) (by omega) (by omega)) ?_
    refine ar_push i_X4_countArrivals_24 ?_
    refine ar_st i_X4_countArrivals_25 rfl rfl ?_
    refine ar_ld i_X4_countArrivals_26 rfl rfl ?_
    refine ar_gf i_X4_countArrivals_27 (hG.1) rfl ?_
    refine ar_push i_X4_countArrivals_30 ?_
    refine ar_push i_X4_countArrivals_31 ?_
    refine av_cv i_X4_countArrivals_32 rfl trivial (Nat.le_of_ble_eq_true rfl) (k_poke (d + 1) (i := 0) h1 (by omega) (by omega) (by omega) 0) (fun S2 q2 => ?_)
    obtain ⟨g2, k2⟩ := q2
    refine ar_push i_X4_countArrivals_35 ?_
    refine ar_st i_X4_countArrivals_36 rfl rfl ?_
    exact ph2 121 0 1 S2 (fun _ => 0) _ f [] (by omega) (by omega) (Or.inl rfl) (hG.fr k2 (by omega) (by omega) (by omega)) g2 (h2.fr k2 (by omega)) (fun i hi => by
      have e : i = 0 := by omega
      rw [e, upd_eq]; rfl) ⟨by omega, rfl, ⟨fun i hi => h50, fun i j hi hj _ => by omega⟩, fun i hi => rch_0, fun t ht => hag t (by omega), fun t ht => ⟨fun ⟨i, hi, e⟩ => Or.inl e.symm, fun z => ⟨0, by omega, (z.resolve_right (Nat.lt_irrefl 0)).symm⟩⟩⟩ (hfr.tr (k2.mono (fun q z => Or.inl z)))
  | succ j ih =>
    intro i S1 f hi hG h1 h2 hag hfr
    refine ar_ld i_X4_countArrivals_2 rfl rfl ?_
    refine ar_ld i_X4_countArrivals_3 rfl rfl ?_
    refine ar_gf i_X4_countArrivals_4 (hG.1) rfl ?_
    refine ar_len i_X4_countArrivals_7 (by decide) (h2) ?_
    refine ar_iff i_X4_countArrivals_8 rfl (nI_ge (b := 121) (by omega) (by omega)) ?_
    refine ar_ld i_X4_countArrivals_11 rfl rfl ?_
    refine ar_gf i_X4_countArrivals_12 (hG.1) rfl ?_
    refine ar_ld i_X4_countArrivals_15 rfl rfl ?_
    refine ar_push i_X4_countArrivals_16 ?_
    refine av_sti i_X4_countArrivals_17 (by omega) (h2) (by omega) (by omega) (fun S2 g2 k2 => ?_)
    refine ar_inc i_X4_countArrivals_18 rfl rfl ?_
    refine ar_go i_X4_countArrivals_21 ?_
    have := ih (i + 1) S2 _ (by omega) (hG.fr k2 (by omega) (by omega) (by omega)) (h1.fr k2 (by omega)) g2 (fun t ht => by
      by_cases e : t = i
      · rw [e, upd_eq]
      · rw [upd_ne e]; exact hag t (by omega)) (hfr.tr (k2.mono (fun q z => Or.inr z)))
    rw [← nI_1 i] at this
    exact this
end
