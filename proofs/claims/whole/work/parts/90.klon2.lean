/-! ===== the longest walk: the class, the states come up ===== -/
section
theorem k_longest (d : Nat) {S : aq_S} {k : Nat} {tg : Nat → Nat → Option Nat} {v : Int32} (hg0 : kG S k tg) (hA : kA S) (hk : k ≤ 3) (hk0 : 0 < k) (htg : ∀ s a t, tg s a = some t → 0 < t ∧ t < off k 5) (hv1 : ∀ L, lonW k (off k 5) tg L → v = nI L) (hv2 : infW k (off k 5) tg → v = -1) : aX (d + 4) 39 [.ref 31] S (fun o S' => o = .inl (some (.int v)) ∧ kA S' ∧ aq_fr S S' (fun q => 36 ≤ q ∧ q ≤ 38)) := by
  have h5 := off_5 k (by omega)
  have h50 : 0 < off k 5 := by
    have e : off k 5 = off k 4 * k + 1 := rfl
    omega
  have hA0 := hA
  obtain ⟨-, -, -, -, ⟨q0, h1⟩, ⟨g0, h2⟩, ⟨f0, h3⟩, ⟨c0, h4⟩, -⟩ := hA
  refine ar_run (Nat.le_of_ble_eq_true rfl) (fun o S1 h => h.2.2.le) ?_
  have ph2 : ∀ j h r (S1 : aq_S) (Q D : Nat → Nat) (q f g : Nat → Int32) (l : Int32) (L : List (Nat × Value)), h + j = 121 → h ≤ r → (0 < h → l = nI (D (h - 1))) → (L = [] ∨ (∃ u v, L = [(5, .int u), (6, .int v)]) ∨ ∃ u v w, L = [(5, .int u), (6, .int v), (7, .int w)]) → kG S1 k tg → ia S1 36 121 q → ia S1 37 121 g → ia S1 38 121 f → (∀ i, i < r → q i = nI (Q i)) → kaI k (off k 5) tg Q r h 0 D f g → aq_fr S S1 (fun q => 36 ≤ q ∧ q ≤ 38) → aG (d + 3) 39 (fun o S' => o = .inl (some (.int v)) ∧ kA S' ∧ aq_fr S S' (fun q => 36 ≤ q ∧ q ≤ 38)) 30 ((0, .ref 31) :: (1, .int (nI (cntN (fun s => rch k (off k 5) tg s) (off k 5)))) :: (2, .int (nI r)) :: (3, .int l) :: (4, .int (nI h)) :: L) [] S1 := by
    have ended : ∀ r (S1 : aq_S) (Q D : Nat → Nat) (q f g : Nat → Int32) (l : Int32) (L : List (Nat × Value)), l = nI (D (r - 1)) → ia S1 36 121 q → ia S1 37 121 g → ia S1 38 121 f → kaI k (off k 5) tg Q r r 0 D f g → aq_fr S S1 (fun q => 36 ≤ q ∧ q ≤ 38) → aG (d + 3) 39 (fun o S' => o = .inl (some (.int v)) ∧ kA S' ∧ aq_fr S S' (fun q => 36 ≤ q ∧ q ≤ 38)) 162 ((0, .ref 31) :: (1, .int (nI (cntN (fun s => rch k (off k 5) tg s) (off k 5)))) :: (2, .int (nI r)) :: (3, .int l) :: (4, .int (nI r)) :: L) [] S1 := by
      intro r S1 Q D q f g l L hl f1 f2 f3 ci hfr
      have hr := qI_le ci.2.2.1
      have hc := cntN_le (fun s => rch k (off k 5) tg s) (off k 5)
      have hA1 := hA0.put2 (hfr.mono (fun q z => by omega)) ⟨q, f1⟩ ⟨g, f2⟩ ⟨f, f3⟩ ⟨c0, h4.fr hfr (by omega)⟩
      refine ar_ld i_X4_longest_162 rfl rfl ?_
      refine ar_ld i_X4_longest_163 rfl rfl ?_
      by_cases hlt : r < cntN (fun s => rch k (off k 5) tg s) (off k 5)
      · refine ar_iff i_X4_longest_164 rfl (nI_ge hlt (by omega)) ?_
        refine ar_push i_X4_longest_167 ?_
        refine ar_go i_X4_longest_168 ?_
        have e := hv2 (kaI_inf ci hlt)
        exact ar_ret i_X4_longest_172 rfl ⟨by rw [e], hA1, hfr⟩
      · refine ar_ift i_X4_longest_164 rfl (nI_le (Nat.le_of_not_lt hlt) (by omega)) ?_
        refine ar_ld i_X4_longest_171 rfl rfl ?_
        have e := hv1 _ (kaI_fin (fun s a t e => (htg s a t e).2) ci hlt).1
        exact ar_ret i_X4_longest_172 rfl ⟨by rw [hl, e], hA1, hfr⟩
    intro j
    induction j with
    | zero =>
      intro h r S1 Q D q f g l L hj hh hl hL hG f1 f2 f3 hq ci hfr
      have hr := qI_le ci.2.2.1
      have er : r = h := by omega
      subst er
      refine ar_ld i_X4_longest_30 rfl rfl ?_
      refine ar_ld i_X4_longest_32 rfl rfl ?_
      refine ar_ift i_X4_longest_33 rfl (nI_le (Nat.le_refl _) (by omega)) ?_
      exact ended r S1 Q D q f g l L (hl ci.1) f1 f2 f3 ci hfr
    | succ j ih =>
      intro h r S1 Q D q f g l L hj hh hl hL hG f1 f2 f3 hq ci hfr
      have hr := qI_le ci.2.2.1
      by_cases er : h = r
      · subst er
        refine ar_ld i_X4_longest_30 rfl rfl ?_
        refine ar_ld i_X4_longest_32 rfl rfl ?_
        refine ar_ift i_X4_longest_33 rfl (nI_le (Nat.le_refl _) (by omega)) ?_
        exact ended h S1 Q D q f g l L (hl ci.1) f1 f2 f3 ci hfr
      · have inner : ∀ jj a r (S1 : aq_S) (Q D : Nat → Nat) (q f g : Nat → Int32) (L3 : List (Nat × Value)), a + jj = k → h < r → (L3 = [] ∨ ∃ u, L3 = [(7, .int u)]) → kG S1 k tg → ia S1 36 121 q → ia S1 37 121 g → ia S1 38 121 f → (∀ i, i < r → q i = nI (Q i)) → kaI k (off k 5) tg Q r h a D f g → aq_fr S S1 (fun q => 36 ≤ q ∧ q ≤ 38) → aG (d + 3) 39 (fun o S' => o = .inl (some (.int v)) ∧ kA S' ∧ aq_fr S S' (fun q => 36 ≤ q ∧ q ≤ 38)) 68 ((0, .ref 31) :: (1, .int (nI (cntN (fun s => rch k (off k 5) tg s) (off k 5)))) :: (2, .int (nI r)) :: (3, .int (nI (D h))) :: (4, .int (nI h)) :: (5, .int (nI (Q h))) :: (6, .int (nI a)) :: L3) [] S1 := by
          intro jj
          induction jj with
          | zero =>
            intro a r S1 Q D q f g L3 ha hh hL3 hG f1 f2 f3 hq ci hfr
            have ea : a = k := ha
            have ci2 : kaI k (off k 5) tg Q r h k D f g := by rw [ea] at ci; exact ci
            have hr := qI_le ci.2.2.1
            refine ar_ld i_X4_longest_68 rfl rfl ?_
            refine ar_ld i_X4_longest_70 rfl rfl ?_
            refine ar_gf i_X4_longest_71 (hG.1) rfl ?_
            refine ar_ift i_X4_longest_74 rfl (nI_le (show k ≤ a by omega) (by omega)) ?_
            refine ar_inc i_X4_longest_156 rfl rfl ?_
            refine ar_go i_X4_longest_159 ?_
            rw [nI_1]
            have := ih (h + 1) r S1 Q D q f g (nI (D h)) ((5, .int (nI (Q h))) :: (6, .int (nI a)) :: L3) (by omega) (by omega) (fun _ => rfl) (by
              rcases hL3 with e | ⟨u, e⟩
              · exact Or.inr (Or.inl ⟨_, _, by rw [e]⟩)
              · exact Or.inr (Or.inr ⟨_, _, _, by rw [e]⟩)) hG f1 f2 f3 hq (kaI_adv ci2 hh) hfr
            rcases hL3 with e | ⟨u, e⟩ <;> subst e <;> exact this
          | succ jj ihj =>
            intro a r S1 Q D q f g L3 ha hh hL3 hG f1 f2 f3 hq ci hfr
            have hr := qI_le ci.2.2.1
            have hQ := ci.2.2.1.1 h hh
            have hD := (ci.2.2.2.2.2.2.1 h hh).2.2
            have body : aG (d + 3) 39 (fun o S' => o = .inl (some (.int v)) ∧ kA S' ∧ aq_fr S S' (fun q => 36 ≤ q ∧ q ≤ 38)) 87 ((0, .ref 31) :: (1, .int (nI (cntN (fun s => rch k (off k 5) tg s) (off k 5)))) :: (2, .int (nI r)) :: (3, .int (nI (D h))) :: (4, .int (nI h)) :: (5, .int (nI (Q h))) :: (6, .int (nI a)) :: (7, .int (tgI (tg (Q h) a))) :: []) [] S1 := by
              cases ht : tg (Q h) a with
              | none =>
                refine ar_ld i_X4_longest_87 rfl rfl ?_
                refine ar_push i_X4_longest_89 ?_
                refine ar_ift i_X4_longest_90 rfl (rfl) ?_
                refine ar_inc i_X4_longest_150 rfl rfl ?_
                refine ar_go i_X4_longest_153 ?_
                rw [nI_1]
                exact ihj (a + 1) r S1 Q D q f g [(7, .int (-1))] (by omega) hh (Or.inr ⟨_, rfl⟩) hG f1 f2 f3 hq (kaI_none ci ht) hfr
              | some t0 =>
                obtain ⟨ht0, ht1⟩ := htg _ _ _ ht
                rw [tgI_some]
                refine ar_ld i_X4_longest_87 rfl rfl ?_
                refine ar_push i_X4_longest_89 ?_
                refine ar_iff i_X4_longest_90 rfl (nI_nm1 t0 (by omega)) ?_
                have hft := ci.2.2.2.2.1 t0 ht1
                have hlt := kaI_lt ci hh (show a < k by omega) ht
                have htl := tot_le (k := k) (sz := off k 5) (tg := tg) (t := t0)
                have hhk : off k 5 * k ≤ 121 * 3 := Nat.mul_le_mul (by omega) hk
                refine ar_ld i_X4_longest_93 rfl rfl ?_
                refine ar_gf i_X4_longest_94 (hG.1) rfl ?_
                refine ar_ld i_X4_longest_97 rfl rfl ?_
                refine ar_ld i_X4_longest_99 rfl rfl ?_
                refine ar_gf i_X4_longest_100 (hG.1) rfl ?_
                refine ar_ld i_X4_longest_103 rfl rfl ?_
                refine ar_cr i_X4_longest_105 rfl trivial (Nat.le_of_ble_eq_true rfl) (k_peek (d + 2) f3 (show t0 < 121 by omega) (by omega)) ?_
                refine ar_push i_X4_longest_108 ?_
                refine ar_ar i_X4_longest_109 rfl ?_
                refine av_cv i_X4_longest_110 rfl trivial (Nat.le_of_ble_eq_true rfl) (k_poke (d + 2) f3 (show t0 < 121 by omega) (by omega) (by omega) (f t0 - 1)) (fun S2 q2 => ?_)
                obtain ⟨g3, k3⟩ := q2
                have hG2 := hG.fr k3 (by omega) (by omega) (by omega)
                have f12 := f1.fr k3 (by omega)
                have f22 := f2.fr k3 (by omega)
                have hfr2 : aq_fr S S2 (fun q => 36 ≤ q ∧ q ≤ 38) := hfr.tr (k3.mono (fun q z => by omega))
                refine ar_ld i_X4_longest_113 rfl rfl ?_
                refine ar_gf i_X4_longest_114 (hG2.1) rfl ?_
                refine ar_ld i_X4_longest_117 rfl rfl ?_
                refine ar_cr i_X4_longest_119 rfl trivial (Nat.le_of_ble_eq_true rfl) (k_peek (d + 2) g3 (show t0 < 121 by omega) (by omega)) ?_
                rw [upd_eq, hft, nI_m1 (by omega)]
                by_cases hp : pB k tg Q h a t0 + 1 = tot k (off k 5) tg t0
                · refine ar_iff i_X4_longest_122 rfl (fun z => z (by rw [show tot k (off k 5) tg t0 - pB k tg Q h a t0 - 1 = 0 by omega]; rfl)) ?_
                  obtain ⟨hrz, ci2⟩ := kaI_new ci hh (by omega) ht ht1 hp
                  rw [hft, nI_m1 (by omega)] at ci2
                  rw [hft, nI_m1 (by omega)] at g3
                  refine ar_ld i_X4_longest_125 rfl rfl ?_
                  refine ar_gf i_X4_longest_126 (hG2.1) rfl ?_
                  refine ar_ld i_X4_longest_129 rfl rfl ?_
                  refine ar_ld i_X4_longest_131 rfl rfl ?_
                  refine ar_push i_X4_longest_132 ?_
                  refine ar_ar i_X4_longest_133 rfl ?_
                  rw [nI_1]
                  refine av_cv i_X4_longest_134 rfl trivial (Nat.le_of_ble_eq_true rfl) (k_poke (d + 2) f22 (show t0 < 121 by omega) (by omega) (by omega) (nI (D h + 1))) (fun S3 q3 => ?_)
                  obtain ⟨g4, k4⟩ := q3
                  have hG3 := hG2.fr k4 (by omega) (by omega) (by omega)
                  refine ar_ld i_X4_longest_137 rfl rfl ?_
                  refine ar_gf i_X4_longest_138 (hG3.1) rfl ?_
                  refine ar_ld i_X4_longest_141 rfl rfl ?_
                  refine ar_ld i_X4_longest_142 rfl rfl ?_
                  refine av_cv i_X4_longest_144 rfl trivial (Nat.le_of_ble_eq_true rfl) (k_poke (d + 2) (f12.fr k4 (by omega)) (show r < 121 by omega) (by omega) (by omega) (nI t0)) (fun S4 q4 => ?_)
                  obtain ⟨g5, k5⟩ := q4
                  refine ar_inc i_X4_longest_147 rfl rfl ?_
                  refine ar_inc i_X4_longest_150 rfl rfl ?_
                  refine ar_go i_X4_longest_153 ?_
                  rw [nI_1, nI_1]
                  have := ihj (a + 1) (r + 1) S4 (ups Q r t0) (ups D r (D h + 1)) _ _ _ [(7, .int (nI t0))] (by omega) (by omega) (Or.inr ⟨_, rfl⟩) (hG3.fr k5 (by omega) (by omega) (by omega)) g5 (g4.fr k5 (by omega)) ((g3.fr k4 (by omega)).fr k5 (by omega)) (fun i hi => by
                    by_cases e : i = r
                    · rw [e, upd_eq, ups_eq]
                    · rw [upd_ne e, ups_ne e]; exact hq i (by omega)) ci2 ((hfr2.tr (k4.mono (fun q z => by omega))).tr (k5.mono (fun q z => by omega)))
                  rw [show ups Q r t0 h = Q h from ups_ne (by omega), show ups D r (D h + 1) h = D h from ups_ne (by omega)] at this
                  exact this
                · refine ar_ift i_X4_longest_122 rfl (nI_ne0 (by omega) (by omega)) ?_
                  refine ar_inc i_X4_longest_150 rfl rfl ?_
                  refine ar_go i_X4_longest_153 ?_
                  rw [nI_1]
                  exact ihj (a + 1) r S2 Q D q _ g [(7, .int (nI t0))] (by omega) hh (Or.inr ⟨_, rfl⟩) hG2 f12 f22 g3 hq (kaI_old ci hh (by omega) ht ht1 hp) hfr2
            refine ar_ld i_X4_longest_68 rfl rfl ?_
            refine ar_ld i_X4_longest_70 rfl rfl ?_
            refine ar_gf i_X4_longest_71 (hG.1) rfl ?_
            refine ar_iff i_X4_longest_74 rfl (nI_ge (show a < k by omega) (by omega)) ?_
            refine ar_ld i_X4_longest_77 rfl rfl ?_
            refine ar_ld i_X4_longest_78 rfl rfl ?_
            refine ar_ld i_X4_longest_80 rfl rfl ?_
            refine ar_cr i_X4_longest_82 rfl ⟨_, _, _, rfl, (hG.1)⟩ (Nat.le_of_ble_eq_true rfl) (k_target (d + 1) hG hQ (show a < k by omega) hk) ?_
            rcases hL3 with e | ⟨u, e⟩
            · subst e
              refine ar_st i_X4_longest_85 rfl rfl ?_
              exact body
            · subst e
              refine ar_st i_X4_longest_85 rfl rfl ?_
              exact body
        have hQ := ci.2.2.1.1 h (by omega)
        have hg := (ci.2.2.2.2.2.2.1 h (by omega)).1
        have start := fun L3 hL3 => inner k 0 r S1 Q D q f g L3 (by omega) (by omega) hL3 hG f1 f2 f3 hq ci hfr
        rcases hL with e | ⟨u1, v1, e⟩ | ⟨u1, v1, w1, e⟩
        · subst e
          refine ar_ld i_X4_longest_30 rfl rfl ?_
          refine ar_ld i_X4_longest_32 rfl rfl ?_
          refine ar_iff i_X4_longest_33 rfl (nI_ge (show h < r by omega) (by omega)) ?_
          refine ar_ld i_X4_longest_36 rfl rfl ?_
          refine ar_ld i_X4_longest_38 rfl rfl ?_
          refine ar_gf i_X4_longest_39 (hG.1) rfl ?_
          refine ar_len i_X4_longest_42 (by decide) (f1) ?_
          refine ar_iff i_X4_longest_43 rfl (nI_ge (a := h) (b := 121) (by omega) (by omega)) ?_
          refine ar_ld i_X4_longest_46 rfl rfl ?_
          refine ar_gf i_X4_longest_47 (hG.1) rfl ?_
          refine ar_ld i_X4_longest_50 rfl rfl ?_
          refine av_ldi i_X4_longest_52 (f1) (by omega) (by omega) ?_
          rw [hq h (by omega)]
          refine ar_st i_X4_longest_53 rfl rfl ?_
          refine ar_ld i_X4_longest_55 rfl rfl ?_
          refine ar_gf i_X4_longest_56 (hG.1) rfl ?_
          refine ar_ld i_X4_longest_59 rfl rfl ?_
          refine ar_cr i_X4_longest_61 rfl trivial (Nat.le_of_ble_eq_true rfl) (k_peek (d + 2) f2 (show Q h < 121 by omega) (by omega)) ?_
          rw [hg]
          refine ar_st i_X4_longest_64 rfl rfl ?_
          refine ar_push i_X4_longest_65 ?_
          refine ar_st i_X4_longest_66 rfl rfl ?_
          exact start [] (Or.inl rfl)
        · subst e
          refine ar_ld i_X4_longest_30 rfl rfl ?_
          refine ar_ld i_X4_longest_32 rfl rfl ?_
          refine ar_iff i_X4_longest_33 rfl (nI_ge (show h < r by omega) (by omega)) ?_
          refine ar_ld i_X4_longest_36 rfl rfl ?_
          refine ar_ld i_X4_longest_38 rfl rfl ?_
          refine ar_gf i_X4_longest_39 (hG.1) rfl ?_
          refine ar_len i_X4_longest_42 (by decide) (f1) ?_
          refine ar_iff i_X4_longest_43 rfl (nI_ge (a := h) (b := 121) (by omega) (by omega)) ?_
          refine ar_ld i_X4_longest_46 rfl rfl ?_
          refine ar_gf i_X4_longest_47 (hG.1) rfl ?_
          refine ar_ld i_X4_longest_50 rfl rfl ?_
          refine av_ldi i_X4_longest_52 (f1) (by omega) (by omega) ?_
          rw [hq h (by omega)]
          refine ar_st i_X4_longest_53 rfl rfl ?_
          refine ar_ld i_X4_longest_55 rfl rfl ?_
          refine ar_gf i_X4_longest_56 (hG.1) rfl ?_
          refine ar_ld i_X4_longest_59 rfl rfl ?_
          refine ar_cr i_X4_longest_61 rfl trivial (Nat.le_of_ble_eq_true rfl) (k_peek (d + 2) f2 (show Q h < 121 by omega) (by omega)) ?_
          rw [hg]
          refine ar_st i_X4_longest_64 rfl rfl ?_
          refine ar_push i_X4_longest_65 ?_
          refine ar_st i_X4_longest_66 rfl rfl ?_
          exact start [] (Or.inl rfl)
        · subst e
          refine ar_ld i_X4_longest_30 rfl rfl ?_
          refine ar_ld i_X4_longest_32 rfl rfl ?_
          refine ar_iff i_X4_longest_33 rfl (nI_ge (show h < r by omega) (by omega)) ?_
          refine ar_ld i_X4_longest_36 rfl rfl ?_
          refine ar_ld i_X4_longest_38 rfl rfl ?_
          refine ar_gf i_X4_longest_39 (hG.1) rfl ?_
          refine ar_len i_X4_longest_42 (by decide) (f1) ?_
          refine ar_iff i_X4_longest_43 rfl (nI_ge (a := h) (b := 121) (by omega) (by omega)) ?_
          refine ar_ld i_X4_longest_46 rfl rfl ?_
          refine ar_gf i_X4_longest_47 (hG.1) rfl ?_
          refine ar_ld i_X4_longest_50 rfl rfl ?_
          refine av_ldi i_X4_longest_52 (f1) (by omega) (by omega) ?_
          rw [hq h (by omega)]
          refine ar_st i_X4_longest_53 rfl rfl ?_
          refine ar_ld i_X4_longest_55 rfl rfl ?_
          refine ar_gf i_X4_longest_56 (hG.1) rfl ?_
          refine ar_ld i_X4_longest_59 rfl rfl ?_
          refine ar_cr i_X4_longest_61 rfl trivial (Nat.le_of_ble_eq_true rfl) (k_peek (d + 2) f2 (show Q h < 121 by omega) (by omega)) ?_
          rw [hg]
          refine ar_st i_X4_longest_64 rfl rfl ?_
          refine ar_push i_X4_longest_65 ?_
          refine ar_st i_X4_longest_66 rfl rfl ?_
          exact start [(7, .int w1)] (Or.inr ⟨_, rfl⟩)
  refine ar_ld i_X4_longest_0 rfl rfl ?_
  refine av_cr i_X4_longest_1 rfl ⟨_, _, _, rfl, hg0.1⟩ (Nat.le_of_ble_eq_true rfl) (k_countArrivals d hg0 hk hk0 htg h1 h3) (fun S2 q2 => ?_)
  obtain ⟨⟨q, f, f1, f3, hf⟩, k2⟩ := q2
  have hG2 := hg0.fr k2 (by omega) (by omega) (by omega)
  have f2 := h2.fr k2 (by omega)
  refine ar_st i_X4_longest_4 rfl rfl ?_
  refine ar_push i_X4_longest_5 ?_
  refine ar_st i_X4_longest_6 rfl rfl ?_
  refine ar_push i_X4_longest_7 ?_
  refine ar_st i_X4_longest_8 rfl rfl ?_
  refine ar_ld i_X4_longest_9 rfl rfl ?_
  refine ar_gf i_X4_longest_10 (hG2.1) rfl ?_
  refine ar_push i_X4_longest_13 ?_
  refine ar_push i_X4_longest_14 ?_
  refine av_cv i_X4_longest_15 rfl trivial (Nat.le_of_ble_eq_true rfl) (k_poke (d + 2) (i := 0) f1 (by omega) (by omega) (by omega) 0) (fun S3 q3 => ?_)
  obtain ⟨g3, k3⟩ := q3
  have hG3 := hG2.fr k3 (by omega) (by omega) (by omega)
  refine ar_ld i_X4_longest_18 rfl rfl ?_
  refine ar_gf i_X4_longest_19 (hG3.1) rfl ?_
  refine ar_push i_X4_longest_22 ?_
  refine ar_push i_X4_longest_23 ?_
  refine av_cv i_X4_longest_24 rfl trivial (Nat.le_of_ble_eq_true rfl) (k_poke (d + 2) (i := 0) (f2.fr k3 (by omega)) (by omega) (by omega) (by omega) 0) (fun S4 q4 => ?_)
  obtain ⟨g4, k4⟩ := q4
  refine ar_push i_X4_longest_27 ?_
  refine ar_st i_X4_longest_28 rfl rfl ?_
  exact ph2 121 0 1 S4 (fun _ => 0) (fun _ => 0) _ f _ 0 [] (by omega) (by omega) (fun z => absurd z (Nat.lt_irrefl 0)) (Or.inl rfl) (hG3.fr k4 (by omega) (by omega) (by omega)) (g3.fr k4 (by omega)) g4 ((f3.fr k3 (by omega)).fr k4 (by omega)) (fun i hi => by
    have e : i = 0 := by omega
    rw [e, upd_eq]; rfl) ⟨by omega, rfl, ⟨fun i hi => h50, fun i j hi hj _ => by omega⟩, fun i hi => rch_0, fun t ht => hf t ht, fun t ht hr => ⟨fun ⟨i, hi, e⟩ => by
      have e : 0 = t := e
      subst e
      refine (sumN_cg (g := fun _ => 0) (off k 5) fun s _ => ?_).trans ?_ |>.symm
      · have e0 : eN k tg s 0 = 0 := Nat.eq_zero_of_not_pos fun z => by
          obtain ⟨a, _, ea⟩ := eN_pos.mp z
          exact absurd (htg s a 0 ea).1 (Nat.lt_irrefl 0)
        show pif (rch k (off k 5) tg s) (eN k tg s 0) 0 = 0
        rw [e0]
        exact Nat.le_zero.mp (pif_le 0)
      · rw [sumN_const, Nat.mul_zero]
        rfl, fun z => by
      refine ⟨0, by omega, ?_⟩
      rcases rch_inv hr with e | ⟨s, hs, z1, z2⟩
      · exact e.symm
      · have e0 : pB k tg (fun _ => 0) 0 0 t = 0 := rfl
        have : 0 < tot k (off k 5) tg t := (sumN_pos _).mpr ⟨s, hs, by rw [pif_t z1]; exact z2⟩
        omega⟩, fun i hi => ⟨by
      have e : i = 0 := by omega
      rw [upd_eq]; rfl, wk_0, Nat.zero_le i⟩, fun i j _ _ => Nat.le_refl 0, fun _ j _ => Nat.zero_le _, fun i x j hix _ _ _ _ => by omega⟩ (((k2.mono (fun q z => by omega)).tr (k3.mono (fun q z => by omega))).tr (k4.mono (fun q z => by omega)))
end
