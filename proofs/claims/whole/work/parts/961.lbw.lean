/-! ===== lastBeforeReturn ===== -/
section
/-- the letters back from s -/
def chn (k sz : Nat) (cf : Nat → Int32) : Nat → Nat → Nat → Prop
  | 0, _, _ => True
  | n + 1, m, s => 0 < s ∧ s < sz ∧ (s - 1) % k = m % k ∧ ∃ s', s' < sz ∧ cf s = nI s' ∧ chn k sz cf n (m / k) s'
theorem lb_chn {k sz st r h a : Nat} {tg : Nat → Nat → Option Nat} {Q D N P : Nat → Nat} {cf : Nat → Int32} (htg : ∀ s a t, tg s a = some t → 0 < t ∧ t < sz ∧ (t - 1) % k = a) (i : lbI k sz tg st Q D N P r h a) (hcf : ∀ i, 0 < i → i < r → cf (Q i) = nI (Q (P i))) : ∀ n i, i < r → D i = n → chn k sz cf n (N i) (Q i) := by
  obtain ⟨i1, i2, i3, i4, i5, i6, i7⟩ := i
  intro n
  induction n with
  | zero => intro i _ _; exact True.intro
  | succ n ih =>
    intro i hi hD
    have h0 : 0 < i := Nat.pos_of_ne_zero fun z => by rw [z, i1.2.2.1] at hD; omega
    obtain ⟨p1, p2, p3, p4⟩ := i7 i h0 hi
    obtain ⟨t1, t2, t3⟩ := htg _ _ _ p4
    refine ⟨t1, t2, t3, Q (P i), i2.1 _ (by omega), hcf i h0 hi, ?_⟩
    rw [p3]
    exact ih (P i) (by omega) (by omega)
/-- what was found: none that is short enough, or the last state of the smallest one -/
def bkM (S : aq_S) (k sz : Nat) (tg : Nat → Nat → Option Nat) (st lim : Nat) (v : Int32) : Prop := (v = -1 ∧ ∀ n m, clo k tg n m st → lim < n) ∨ ∃ n m s dep cf, v = nI s ∧ s < sz ∧ n + 1 ≤ lim ∧ ia S 37 121 dep ∧ ia S 39 121 cf ∧ dep s = nI n ∧ chn k sz cf n (m / k) s ∧ clo k tg (n + 1) m st ∧ (0 < st ∧ (st - 1) % k = m % k) ∧ ∀ n' m', clo k tg n' m' st → ¬ lex n' m' (n + 1) m
theorem k_lastBeforeReturn (d : Nat) {S : aq_S} {k st lim : Nat} {tg : Nat → Nat → Option Nat} {q0 dp0 cf0 : Nat → Int32} (hg0 : kG S k tg) (hk : k ≤ 3) (hk0 : 0 < k) (htg : ∀ s a t, tg s a = some t → 0 < t ∧ t < off k 5 ∧ (t - 1) % k = a) (hst : st < off k 5) (hlim : lim ≤ 40) (h1 : ia S 36 121 q0) (h2 : ia S 37 121 dp0) (h3 : ia S 39 121 cf0) : aX (d + 3) 44 [.ref 31, .int (nI st), .int (nI lim)] S (fun o S' => ∃ v, o = .inl (some (.int v)) ∧ (bkM S' k (off k 5) tg st lim v ∧ (∃ f, ia S' 36 121 f) ∧ (∃ f, ia S' 37 121 f) ∧ ∃ f, ia S' 39 121 f) ∧ aq_fr S S' (fun q => q = 36 ∨ q = 37 ∨ q = 39)) := by
  have h5 := off_5 k (by omega)
  refine ar_run (Nat.le_of_ble_eq_true rfl) (fun o S1 h => by obtain ⟨_, -, -, z⟩ := h; exact z.le) ?_
  have ph2 : ∀ j h r (S1 : aq_S) (Q D N P : Nat → Nat) (q dep cf : Nat → Int32) (L : List (Nat × Value)), h + j = 121 → h ≤ r → (L = [] ∨ (∃ u v w, L = [(5, .int u), (6, .int v), (7, .int w)]) ∨ ∃ u v w x, L = [(5, .int u), (6, .int v), (7, .int w), (8, .int x)]) → kG S1 k tg → ia S1 36 121 q → ia S1 37 121 dep → ia S1 39 121 cf → qI (off k 5) Q r → (∀ i, i < r → D i ≤ i) → (∀ i, i < r → q i = nI (Q i)) → (∀ i, i < r → dep (Q i) = nI (D i)) → ((lbI k (off k 5) tg st Q D N P r h 0 ∧ (∀ t, t < off k 5 → (¬ ∃ i, i < r ∧ Q i = t) → dep t = -1) ∧ ∀ i, 0 < i → i < r → cf (Q i) = nI (Q (P i))) ∨ ((∀ n m, clo k tg n m st → lim < n) ∧ ∀ i, h ≤ i → i < r → lim ≤ D i)) → aq_fr S S1 (fun q => q = 36 ∨ q = 37 ∨ q = 39) → aG (d + 2) 44 (fun o S' => ∃ v, o = .inl (some (.int v)) ∧ (bkM S' k (off k 5) tg st lim v ∧ (∃ f, ia S' 36 121 f) ∧ (∃ f, ia S' 37 121 f) ∧ ∃ f, ia S' 39 121 f) ∧ aq_fr S S' (fun q => q = 36 ∨ q = 37 ∨ q = 39)) 47 ((0, .ref 31) :: (1, .int (nI st)) :: (2, .int (nI lim)) :: (3, .int (nI r)) :: (4, .int (nI h)) :: L) [] S1 := by
    have ended : ∀ r (S1 : aq_S) (Q D N P : Nat → Nat) (q dep cf : Nat → Int32) (L : List (Nat × Value)), ia S1 36 121 q → ia S1 37 121 dep → ia S1 39 121 cf → (lbI k (off k 5) tg st Q D N P r r 0 ∨ (∀ n m, clo k tg n m st → lim < n)) → aq_fr S S1 (fun q => q = 36 ∨ q = 37 ∨ q = 39) → aG (d + 2) 44 (fun o S' => ∃ v, o = .inl (some (.int v)) ∧ (bkM S' k (off k 5) tg st lim v ∧ (∃ f, ia S' 36 121 f) ∧ (∃ f, ia S' 37 121 f) ∧ ∃ f, ia S' 39 121 f) ∧ aq_fr S S' (fun q => q = 36 ∨ q = 37 ∨ q = 39)) 188 ((0, .ref 31) :: (1, .int (nI st)) :: (2, .int (nI lim)) :: (3, .int (nI r)) :: (4, .int (nI r)) :: L) [] S1 := by
      intro r S1 Q D N P q dep cf L f1 f2 f3 hc hfr
      refine ar_push i_X4_lastBeforeReturn_188 ?_
      exact ar_ret i_X4_lastBeforeReturn_189 rfl ⟨_, rfl, ⟨Or.inl ⟨rfl, fun n m hcl => hc.elim (fun z => absurd hcl (lb_end hk0 z n m)) (fun z => z n m hcl)⟩, ⟨q, f1⟩, ⟨dep, f2⟩, cf, f3⟩, hfr⟩
    intro j
    induction j with
    | zero =>
      intro h r S1 Q D N P q dep cf L hj hh hL hG f1 f2 f3 hq hDi hqv hdv hI hfr
      have hr := qI_le hq
      have er : r = h := by omega
      subst er
      refine ar_ld i_X4_lastBeforeReturn_47 rfl rfl ?_
      refine ar_ld i_X4_lastBeforeReturn_49 rfl rfl ?_
      refine ar_ift i_X4_lastBeforeReturn_50 rfl (nI_le (Nat.le_refl _) (by omega)) ?_
      exact ended r S1 Q D N P q dep cf L f1 f2 f3 (hI.imp (fun z => z.1) (fun z => z.1)) hfr
    | succ j ih =>
      intro h r S1 Q D N P q dep cf L hj hh hL hG f1 f2 f3 hq hDi hqv hdv hI hfr
      have hr := qI_le hq
      by_cases er : h = r
      · subst er
        refine ar_ld i_X4_lastBeforeReturn_47 rfl rfl ?_
        refine ar_ld i_X4_lastBeforeReturn_49 rfl rfl ?_
        refine ar_ift i_X4_lastBeforeReturn_50 rfl (nI_le (Nat.le_refl _) (by omega)) ?_
        exact ended h S1 Q D N P q dep cf L f1 f2 f3 (hI.imp (fun z => z.1) (fun z => z.1)) hfr
      · have hh2 : h < r := by omega
        have hQh := hq.1 h hh2
        have hDh := hDi h hh2
        have body : ∀ L3 : List (Nat × Value), (L3 = [] ∨ ∃ x, L3 = [(8, .int x)]) → aG (d + 2) 44 (fun o S' => ∃ v, o = .inl (some (.int v)) ∧ (bkM S' k (off k 5) tg st lim v ∧ (∃ f, ia S' 36 121 f) ∧ (∃ f, ia S' 37 121 f) ∧ ∃ f, ia S' 39 121 f) ∧ aq_fr S S' (fun q => q = 36 ∨ q = 37 ∨ q = 39)) 88 ((0, .ref 31) :: (1, .int (nI st)) :: (2, .int (nI lim)) :: (3, .int (nI r)) :: (4, .int (nI h)) :: (5, .int (nI (Q h))) :: (6, .int (nI (D h + 1))) :: (7, .int (nI 0)) :: L3) [] S1 := by
          intro L3 hL3
          by_cases hgt : lim < D h + 1
          · have hC : (∀ n m, clo k tg n m st → lim < n) ∧ ∀ i, h + 1 ≤ i → i < r → lim ≤ D i := by
              rcases hI with ⟨z, -, -⟩ | z
              · refine ⟨fun n m hc => by have := lb_lim hk0 z hh2 n m hc; omega, fun i hi hir => ?_⟩
                have := z.2.2.2.1 h i (by omega) hir
                unfold lex at this
                omega
              · exact ⟨z.1, fun i hi hir => z.2 i (by omega) hir⟩
            have := ih (h + 1) r S1 Q D N P q dep cf ((5, .int (nI (Q h))) :: (6, .int (nI (D h + 1))) :: (7, .int (nI 0)) :: L3) (by omega) (by omega) (by
              rcases hL3 with e | ⟨x, e⟩
              · exact Or.inr (Or.inl ⟨_, _, _, by rw [e]⟩)
              · exact Or.inr (Or.inr ⟨_, _, _, _, by rw [e]⟩)) hG f1 f2 f3 hq hDi hqv hdv (Or.inr hC) hfr
            rw [← nI_1 h] at this
            refine ar_ld i_X4_lastBeforeReturn_88 rfl rfl ?_
            refine ar_ld i_X4_lastBeforeReturn_90 rfl rfl ?_
            refine ar_gf i_X4_lastBeforeReturn_91 (hG.1) rfl ?_
            refine ar_iff i_X4_lastBeforeReturn_94 rfl (nI_ge (show 0 < k by omega) (by omega)) ?_
            refine ar_ld i_X4_lastBeforeReturn_97 rfl rfl ?_
            refine ar_ld i_X4_lastBeforeReturn_99 rfl rfl ?_
            refine ar_ift i_X4_lastBeforeReturn_100 rfl (nI_lt hgt (by omega)) ?_
            refine ar_inc i_X4_lastBeforeReturn_182 rfl rfl ?_
            refine ar_go i_X4_lastBeforeReturn_185 ?_
            rcases hL3 with e | ⟨x, e⟩ <;> subst e <;> exact this
          · have hI2 := hI.resolve_right (fun z => by have := z.2 h (Nat.le_refl h) hh2; omega)
            have inner : ∀ jj a r (S1 : aq_S) (Q D N P : Nat → Nat) (q dep cf : Nat → Int32) (L3 : List (Nat × Value)), a + jj = k → h < r → lim ≥ D h + 1 → (L3 = [] ∨ ∃ x, L3 = [(8, .int x)]) → kG S1 k tg → ia S1 36 121 q → ia S1 37 121 dep → ia S1 39 121 cf → (∀ i, i < r → q i = nI (Q i)) → (∀ i, i < r → dep (Q i) = nI (D i)) → lbI k (off k 5) tg st Q D N P r h a → (∀ t, t < off k 5 → (¬ ∃ i, i < r ∧ Q i = t) → dep t = -1) → (∀ i, 0 < i → i < r → cf (Q i) = nI (Q (P i))) → aq_fr S S1 (fun q => q = 36 ∨ q = 37 ∨ q = 39) → aG (d + 2) 44 (fun o S' => ∃ v, o = .inl (some (.int v)) ∧ (bkM S' k (off k 5) tg st lim v ∧ (∃ f, ia S' 36 121 f) ∧ (∃ f, ia S' 37 121 f) ∧ ∃ f, ia S' 39 121 f) ∧ aq_fr S S' (fun q => q = 36 ∨ q = 37 ∨ q = 39)) 88 ((0, .ref 31) :: (1, .int (nI st)) :: (2, .int (nI lim)) :: (3, .int (nI r)) :: (4, .int (nI h)) :: (5, .int (nI (Q h))) :: (6, .int (nI (D h + 1))) :: (7, .int (nI a)) :: L3) [] S1 := by
              clear hI hI2 hgt hqv hdv hDi hq hL hG f1 f2 f3 hfr hQh hDh hh2 er hr hh L hL3 L3 q dep cf Q D N P S1 r
              intro jj
              induction jj with
              | zero =>
                intro a r S1 Q D N P q dep cf L3 ha hh hlm hL3 hG f1 f2 f3 hqv hdv hI hn1 hcf hfr
                have ea : a = k := ha
                have hI2 : lbI k (off k 5) tg st Q D N P r h k := by rw [ea] at hI; exact hI
                have hr := qI_le hI.2.1
                have := ih (h + 1) r S1 Q D N P q dep cf ((5, .int (nI (Q h))) :: (6, .int (nI (D h + 1))) :: (7, .int (nI a)) :: L3) (by omega) (by omega) (by
                  rcases hL3 with e | ⟨x, e⟩
                  · exact Or.inr (Or.inl ⟨_, _, _, by rw [e]⟩)
                  · exact Or.inr (Or.inr ⟨_, _, _, _, by rw [e]⟩)) hG f1 f2 f3 hI.2.1 (fun i hi => (hI.2.2.1 i hi).2.2) hqv hdv (Or.inl ⟨lb_adv hI2 hh, hn1, hcf⟩) hfr
                rw [← nI_1 h] at this
                refine ar_ld i_X4_lastBeforeReturn_88 rfl rfl ?_
                refine ar_ld i_X4_lastBeforeReturn_90 rfl rfl ?_
                refine ar_gf i_X4_lastBeforeReturn_91 (hG.1) rfl ?_
                refine ar_ift i_X4_lastBeforeReturn_94 rfl (nI_le (show k ≤ a by omega) (by omega)) ?_
                refine ar_inc i_X4_lastBeforeReturn_182 rfl rfl ?_
                refine ar_go i_X4_lastBeforeReturn_185 ?_
                rcases hL3 with e | ⟨x, e⟩ <;> subst e <;> exact this
              | succ jj ihj =>
                intro a r S1 Q D N P q dep cf L3 ha hh hlm hL3 hG f1 f2 f3 hqv hdv hI hn1 hcf hfr
                have hr := qI_le hI.2.1
                have hQh := hI.2.1.1 h hh
                have hDh := (hI.2.2.1 h hh).2.2
                have main : aG (d + 2) 44 (fun o S' => ∃ v, o = .inl (some (.int v)) ∧ (bkM S' k (off k 5) tg st lim v ∧ (∃ f, ia S' 36 121 f) ∧ (∃ f, ia S' 37 121 f) ∧ ∃ f, ia S' 39 121 f) ∧ aq_fr S S' (fun q => q = 36 ∨ q = 37 ∨ q = 39)) 113 [(0, .ref 31), (1, .int (nI st)), (2, .int (nI lim)), (3, .int (nI r)), (4, .int (nI h)), (5, .int (nI (Q h))), (6, .int (nI (D h + 1))), (7, .int (nI a)), (8, .int (tgI (tg (Q h) a)))] [] S1 := by
                  cases ht : tg (Q h) a with
                  | none =>
                    refine ar_ld i_X4_lastBeforeReturn_113 rfl rfl ?_
                    refine ar_ld i_X4_lastBeforeReturn_115 rfl rfl ?_
                    refine ar_ift i_X4_lastBeforeReturn_116 rfl (fun z => nI_nm1 st (by omega) z.symm) ?_
                    refine ar_ld i_X4_lastBeforeReturn_122 rfl rfl ?_
                    refine ar_push i_X4_lastBeforeReturn_124 ?_
                    refine ar_ift i_X4_lastBeforeReturn_125 rfl (rfl) ?_
                    refine ar_inc i_X4_lastBeforeReturn_176 rfl rfl ?_
                    refine ar_go i_X4_lastBeforeReturn_179 ?_
                    rw [nI_1]
                    exact ihj (a + 1) r S1 Q D N P q dep cf [(8, .int (-1))] (by omega) hh hlm (Or.inr ⟨_, rfl⟩) hG f1 f2 f3 hqv hdv (lb_none hI ht) hn1 hcf hfr
                  | some t0 =>
                    obtain ⟨ht0, ht1, ht2⟩ := htg _ _ _ ht
                    rw [tgI_some]
                    refine ar_ld i_X4_lastBeforeReturn_113 rfl rfl ?_
                    refine ar_ld i_X4_lastBeforeReturn_115 rfl rfl ?_
                    by_cases e : t0 = st
                    · rw [e] at ht ht0 ht2
                      refine ar_iff i_X4_lastBeforeReturn_116 rfl (fun z => z (by rw [e])) ?_
                      refine ar_ld i_X4_lastBeforeReturn_119 rfl rfl ?_
                      obtain ⟨b1, b2⟩ := lb_found hk0 hI hh (show a < k by omega) ht
                      have ea := mka (k := k) (m := N h) (a := a) (by omega)
                      exact ar_ret i_X4_lastBeforeReturn_121 rfl ⟨_, rfl, ⟨Or.inr ⟨D h, N h * k + a, Q h, dep, cf, rfl, hQh, hlm, f2, f3, hdv h hh, by rw [ea.1]; exact lb_chn htg hI hcf _ h hh rfl, b1, ⟨ht0, by rw [ea.2]; exact ht2⟩, b2⟩, ⟨q, f1⟩, ⟨dep, f2⟩, cf, f3⟩, hfr⟩
                    · refine ar_ift i_X4_lastBeforeReturn_116 rfl (fun z => e (nI_inj (by omega) (by omega) z)) ?_
                      refine ar_ld i_X4_lastBeforeReturn_122 rfl rfl ?_
                      refine ar_push i_X4_lastBeforeReturn_124 ?_
                      refine ar_iff i_X4_lastBeforeReturn_125 rfl (nI_nm1 t0 (by omega)) ?_
                      refine ar_ld i_X4_lastBeforeReturn_128 rfl rfl ?_
                      refine ar_gf i_X4_lastBeforeReturn_129 (hG.1) rfl ?_
                      refine ar_ld i_X4_lastBeforeReturn_132 rfl rfl ?_
                      refine ar_cr i_X4_lastBeforeReturn_134 rfl trivial (Nat.le_of_ble_eq_true rfl) (k_peek (d + 1) f2 (show t0 < 121 by omega) (by omega)) ?_
                      refine ar_push i_X4_lastBeforeReturn_137 ?_
                      by_cases hin : ∃ i, i < r ∧ Q i = t0
                      · have hne : ¬ dep t0 = -1 := by
                          obtain ⟨i, hi, ei⟩ := hin
                          rw [← ei, hdv i hi]
                          have := (hI.2.2.1 i hi).2.2
                          exact nI_nm1 _ (by omega)
                        refine ar_ift i_X4_lastBeforeReturn_138 rfl (hne) ?_
                        refine ar_inc i_X4_lastBeforeReturn_176 rfl rfl ?_
                        refine ar_go i_X4_lastBeforeReturn_179 ?_
                        rw [nI_1]
                        exact ihj (a + 1) r S1 Q D N P q dep cf [(8, .int (nI t0))] (by omega) hh hlm (Or.inr ⟨_, rfl⟩) hG f1 f2 f3 hqv hdv (lb_old hI hh ht e hin) hn1 hcf hfr
                      · refine ar_iff i_X4_lastBeforeReturn_138 rfl (fun z => z (hn1 t0 ht1 hin)) ?_
                        obtain ⟨hrz, hI2⟩ := lb_new hI hh (by omega) ht ht1 e hin
                        refine ar_ld i_X4_lastBeforeReturn_141 rfl rfl ?_
                        refine ar_gf i_X4_lastBeforeReturn_142 (hG.1) rfl ?_
                        refine ar_ld i_X4_lastBeforeReturn_145 rfl rfl ?_
                        refine ar_ld i_X4_lastBeforeReturn_147 rfl rfl ?_
                        refine av_cv i_X4_lastBeforeReturn_149 rfl trivial (Nat.le_of_ble_eq_true rfl) (k_poke (d + 1) f2 (show t0 < 121 by omega) (by omega) (by omega) (nI (D h + 1))) (fun S2 q2 => ?_)
                        obtain ⟨g2, k2⟩ := q2
                        have hG2 := hG.fr k2 (by omega) (by omega) (by omega)
                        refine ar_ld i_X4_lastBeforeReturn_152 rfl rfl ?_
                        refine ar_gf i_X4_lastBeforeReturn_153 (hG2.1) rfl ?_
                        refine ar_ld i_X4_lastBeforeReturn_156 rfl rfl ?_
                        refine ar_ld i_X4_lastBeforeReturn_158 rfl rfl ?_
                        refine av_cv i_X4_lastBeforeReturn_160 rfl trivial (Nat.le_of_ble_eq_true rfl) (k_poke (d + 1) (f3.fr k2 (by omega)) (show t0 < 121 by omega) (by omega) (by omega) (nI (Q h))) (fun S3 q3 => ?_)
                        obtain ⟨g3, k3⟩ := q3
                        have hG3 := hG2.fr k3 (by omega) (by omega) (by omega)
                        refine ar_ld i_X4_lastBeforeReturn_163 rfl rfl ?_
                        refine ar_gf i_X4_lastBeforeReturn_164 (hG3.1) rfl ?_
                        refine ar_ld i_X4_lastBeforeReturn_167 rfl rfl ?_
                        refine ar_ld i_X4_lastBeforeReturn_168 rfl rfl ?_
                        refine av_cv i_X4_lastBeforeReturn_170 rfl trivial (Nat.le_of_ble_eq_true rfl) (k_poke (d + 1) ((f1.fr k2 (by omega)).fr k3 (by omega)) (show r < 121 by omega) (by omega) (by omega) (nI t0)) (fun S4 q4 => ?_)
                        obtain ⟨g4, k4⟩ := q4
                        refine ar_inc i_X4_lastBeforeReturn_173 rfl rfl ?_
                        refine ar_inc i_X4_lastBeforeReturn_176 rfl rfl ?_
                        refine ar_go i_X4_lastBeforeReturn_179 ?_
                        rw [nI_1, nI_1]
                        have hfr4 : aq_fr S S4 (fun q => q = 36 ∨ q = 37 ∨ q = 39) := ((hfr.tr (k2.mono (fun q z => by omega))).tr (k3.mono (fun q z => by omega))).tr (k4.mono (fun q z => by omega))
                        have nh : ¬ h = r := by omega
                        have := ihj (a + 1) (r + 1) S4 (ups Q r t0) (ups D r (D h + 1)) (ups N r (N h * k + a)) (ups P r h) _ _ _ [(8, .int (nI t0))] (by omega) (by omega) (by rw [ups_ne nh]; exact hlm) (Or.inr ⟨_, rfl⟩) (hG3.fr k4 (by omega) (by omega) (by omega)) g4 ((g2.fr k3 (by omega)).fr k4 (by omega)) (g3.fr k4 (by omega)) (fun i hi => by
                          by_cases ei : i = r
                          · rw [ei, upd_eq, ups_eq]
                          · rw [upd_ne ei, ups_ne ei]; exact hqv i (by omega)) (fun i hi => by
                          by_cases ei : i = r
                          · rw [ei, ups_eq, ups_eq, upd_eq]
                          · rw [ups_ne ei, ups_ne ei, upd_ne (fun z => hin ⟨i, by omega, z⟩)]; exact hdv i (by omega)) hI2 (fun t htz hnt => by
                          have hne : t ≠ t0 := fun z => hnt ⟨r, by omega, by rw [ups_eq]; exact z.symm⟩
                          rw [upd_ne hne]
                          exact hn1 t htz fun ⟨i, hi, ei⟩ => hnt ⟨i, by omega, by rw [ups_ne (by omega)]; exact ei⟩) (fun i h0 hi => by
                          by_cases ei : i = r
                          · rw [ei, ups_eq, ups_eq, upd_eq, ups_ne nh]
                          · have hp := (hI.2.2.2.2.2.2 i h0 (by omega)).1
                            have hpr : ¬ P i = r := by omega
                            rw [ups_ne ei, ups_ne ei, ups_ne hpr, upd_ne (fun z => hin ⟨i, by omega, z⟩)]
                            exact hcf i h0 (by omega)) hfr4
                        rw [ups_ne nh, ups_ne nh] at this
                        exact this
                refine ar_ld i_X4_lastBeforeReturn_88 rfl rfl ?_
                refine ar_ld i_X4_lastBeforeReturn_90 rfl rfl ?_
                refine ar_gf i_X4_lastBeforeReturn_91 (hG.1) rfl ?_
                refine ar_iff i_X4_lastBeforeReturn_94 rfl (nI_ge (show a < k by omega) (by omega)) ?_
                refine ar_ld i_X4_lastBeforeReturn_97 rfl rfl ?_
                refine ar_ld i_X4_lastBeforeReturn_99 rfl rfl ?_
                refine ar_iff i_X4_lastBeforeReturn_100 rfl (nI_nlt hlm (by omega)) ?_
                refine ar_ld i_X4_lastBeforeReturn_103 rfl rfl ?_
                refine ar_ld i_X4_lastBeforeReturn_104 rfl rfl ?_
                refine ar_ld i_X4_lastBeforeReturn_106 rfl rfl ?_
                refine ar_cr i_X4_lastBeforeReturn_108 rfl ⟨_, _, _, rfl, (hG.1)⟩ (Nat.le_of_ble_eq_true rfl) (k_target d hG hQh (show a < k by omega) hk) ?_
                rcases hL3 with e | ⟨x, e⟩
                · subst e
                  refine ar_st i_X4_lastBeforeReturn_111 rfl rfl ?_
                  exact main
                · subst e
                  refine ar_st i_X4_lastBeforeReturn_111 rfl rfl ?_
                  exact main
            exact inner k 0 r S1 Q D N P q dep cf L3 (by omega) hh2 (by omega) hL3 hG f1 f2 f3 hqv hdv hI2.1 hI2.2.1 hI2.2.2 hfr
        rcases hL with e | ⟨u, v, w, e⟩ | ⟨u, v, w, x, e⟩
        · subst e
          refine ar_ld i_X4_lastBeforeReturn_47 rfl rfl ?_
          refine ar_ld i_X4_lastBeforeReturn_49 rfl rfl ?_
          refine ar_iff i_X4_lastBeforeReturn_50 rfl (nI_ge hh2 (by omega)) ?_
          refine ar_ld i_X4_lastBeforeReturn_53 rfl rfl ?_
          refine ar_ld i_X4_lastBeforeReturn_55 rfl rfl ?_
          refine ar_gf i_X4_lastBeforeReturn_56 (hG.1) rfl ?_
          refine ar_len i_X4_lastBeforeReturn_59 (by decide) (f1) ?_
          refine ar_iff i_X4_lastBeforeReturn_60 rfl (nI_ge (a := h) (b := 121) (by omega) (by omega)) ?_
          refine ar_ld i_X4_lastBeforeReturn_63 rfl rfl ?_
          refine ar_gf i_X4_lastBeforeReturn_64 (hG.1) rfl ?_
          refine ar_ld i_X4_lastBeforeReturn_67 rfl rfl ?_
          refine av_ldi i_X4_lastBeforeReturn_69 (f1) (by omega) (by omega) ?_
          rw [hqv h hh2]
          refine ar_st i_X4_lastBeforeReturn_70 rfl rfl ?_
          refine ar_ld i_X4_lastBeforeReturn_72 rfl rfl ?_
          refine ar_gf i_X4_lastBeforeReturn_73 (hG.1) rfl ?_
          refine ar_ld i_X4_lastBeforeReturn_76 rfl rfl ?_
          refine ar_cr i_X4_lastBeforeReturn_78 rfl trivial (Nat.le_of_ble_eq_true rfl) (k_peek (d + 1) f2 (show Q h < 121 by omega) (by omega)) ?_
          rw [hdv h hh2]
          refine ar_push i_X4_lastBeforeReturn_81 ?_
          refine ar_ar i_X4_lastBeforeReturn_82 rfl ?_
          rw [nI_1]
          refine ar_st i_X4_lastBeforeReturn_83 rfl rfl ?_
          refine ar_push i_X4_lastBeforeReturn_85 ?_
          refine ar_st i_X4_lastBeforeReturn_86 rfl rfl ?_
          exact body [] (Or.inl rfl)
        · subst e
          refine ar_ld i_X4_lastBeforeReturn_47 rfl rfl ?_
          refine ar_ld i_X4_lastBeforeReturn_49 rfl rfl ?_
          refine ar_iff i_X4_lastBeforeReturn_50 rfl (nI_ge hh2 (by omega)) ?_
          refine ar_ld i_X4_lastBeforeReturn_53 rfl rfl ?_
          refine ar_ld i_X4_lastBeforeReturn_55 rfl rfl ?_
          refine ar_gf i_X4_lastBeforeReturn_56 (hG.1) rfl ?_
          refine ar_len i_X4_lastBeforeReturn_59 (by decide) (f1) ?_
          refine ar_iff i_X4_lastBeforeReturn_60 rfl (nI_ge (a := h) (b := 121) (by omega) (by omega)) ?_
          refine ar_ld i_X4_lastBeforeReturn_63 rfl rfl ?_
          refine ar_gf i_X4_lastBeforeReturn_64 (hG.1) rfl ?_
          refine ar_ld i_X4_lastBeforeReturn_67 rfl rfl ?_
          refine av_ldi i_X4_lastBeforeReturn_69 (f1) (by omega) (by omega) ?_
          rw [hqv h hh2]
          refine ar_st i_X4_lastBeforeReturn_70 rfl rfl ?_
          refine ar_ld i_X4_lastBeforeReturn_72 rfl rfl ?_
          refine ar_gf i_X4_lastBeforeReturn_73 (hG.1) rfl ?_
          refine ar_ld i_X4_lastBeforeReturn_76 rfl rfl ?_
          refine ar_cr i_X4_lastBeforeReturn_78 rfl trivial (Nat.le_of_ble_eq_true rfl) (k_peek (d + 1) f2 (show Q h < 121 by omega) (by omega)) ?_
          rw [hdv h hh2]
          refine ar_push i_X4_lastBeforeReturn_81 ?_
          refine ar_ar i_X4_lastBeforeReturn_82 rfl ?_
          rw [nI_1]
          refine ar_st i_X4_lastBeforeReturn_83 rfl rfl ?_
          refine ar_push i_X4_lastBeforeReturn_85 ?_
          refine ar_st i_X4_lastBeforeReturn_86 rfl rfl ?_
          exact body [] (Or.inl rfl)
        · subst e
          refine ar_ld i_X4_lastBeforeReturn_47 rfl rfl ?_
          refine ar_ld i_X4_lastBeforeReturn_49 rfl rfl ?_
          refine ar_iff i_X4_lastBeforeReturn_50 rfl (nI_ge hh2 (by omega)) ?_
          refine ar_ld i_X4_lastBeforeReturn_53 rfl rfl ?_
          refine ar_ld i_X4_lastBeforeReturn_55 rfl rfl ?_
          refine ar_gf i_X4_lastBeforeReturn_56 (hG.1) rfl ?_
          refine ar_len i_X4_lastBeforeReturn_59 (by decide) (f1) ?_
          refine ar_iff i_X4_lastBeforeReturn_60 rfl (nI_ge (a := h) (b := 121) (by omega) (by omega)) ?_
          refine ar_ld i_X4_lastBeforeReturn_63 rfl rfl ?_
          refine ar_gf i_X4_lastBeforeReturn_64 (hG.1) rfl ?_
          refine ar_ld i_X4_lastBeforeReturn_67 rfl rfl ?_
          refine av_ldi i_X4_lastBeforeReturn_69 (f1) (by omega) (by omega) ?_
          rw [hqv h hh2]
          refine ar_st i_X4_lastBeforeReturn_70 rfl rfl ?_
          refine ar_ld i_X4_lastBeforeReturn_72 rfl rfl ?_
          refine ar_gf i_X4_lastBeforeReturn_73 (hG.1) rfl ?_
          refine ar_ld i_X4_lastBeforeReturn_76 rfl rfl ?_
          refine ar_cr i_X4_lastBeforeReturn_78 rfl trivial (Nat.le_of_ble_eq_true rfl) (k_peek (d + 1) f2 (show Q h < 121 by omega) (by omega)) ?_
          rw [hdv h hh2]
          refine ar_push i_X4_lastBeforeReturn_81 ?_
          refine ar_ar i_X4_lastBeforeReturn_82 rfl ?_
          rw [nI_1]
          refine ar_st i_X4_lastBeforeReturn_83 rfl rfl ?_
          refine ar_push i_X4_lastBeforeReturn_85 ?_
          refine ar_st i_X4_lastBeforeReturn_86 rfl rfl ?_
          exact body [(8, .int x)] (Or.inr ⟨_, rfl⟩)
  refine ar_push i_X4_lastBeforeReturn_0 ?_
  refine ar_st i_X4_lastBeforeReturn_1 rfl rfl ?_
  suffices ph1 : ∀ j i (S1 : aq_S) (f : Nat → Int32), i + j = 121 → kG S1 k tg → ia S1 36 121 q0 → ia S1 37 121 f → ia S1 39 121 cf0 → (∀ t, t < i → f t = -1) → aq_fr S S1 (fun q => q = 36 ∨ q = 37 ∨ q = 39) → aG (d + 2) 44 (fun o S' => ∃ v, o = .inl (some (.int v)) ∧ (bkM S' k (off k 5) tg st lim v ∧ (∃ f, ia S' 36 121 f) ∧ (∃ f, ia S' 37 121 f) ∧ ∃ f, ia S' 39 121 f) ∧ aq_fr S S' (fun q => q = 36 ∨ q = 37 ∨ q = 39)) 2 [(0, .ref 31), (1, .int (nI st)), (2, .int (nI lim)), (3, .int (nI i))] [] S1 from ph1 121 0 S dp0 (by omega) hg0 h1 h2 h3 (fun t ht => absurd ht (Nat.not_lt_zero t)) aq_fr.rf
  intro j
  induction j with
  | zero =>
    intro i S1 f hi hG h1 h2 h3 hag hfr
    refine ar_ld i_X4_lastBeforeReturn_2 rfl rfl ?_
    refine ar_ld i_X4_lastBeforeReturn_3 rfl rfl ?_
    refine ar_gf i_X4_lastBeforeReturn_4 (hG.1) rfl ?_
    refine ar_len i_X4_lastBeforeReturn_7 (by decide) (h2) ?_
    refine ar_ift i_X4_lastBeforeReturn_8 rfl (nI_le (a := 121) (by omega) (by omega)) ?_
    refine ar_push i_X4_lastBeforeReturn_24 ?_
    refine ar_st i_X4_lastBeforeReturn_25 rfl rfl ?_
    refine ar_ld i_X4_lastBeforeReturn_26 rfl rfl ?_
    refine ar_gf i_X4_lastBeforeReturn_27 (hG.1) rfl ?_
    refine ar_push i_X4_lastBeforeReturn_30 ?_
    refine ar_ld i_X4_lastBeforeReturn_31 rfl rfl ?_
    refine av_cv i_X4_lastBeforeReturn_32 rfl trivial (Nat.le_of_ble_eq_true rfl) (k_poke (d + 1) (i := 0) h1 (by omega) (by omega) (by omega) (nI st)) (fun S2 q2 => ?_)
    obtain ⟨g2, k2⟩ := q2
    have hG2 := hG.fr k2 (by omega) (by omega) (by omega)
    refine ar_ld i_X4_lastBeforeReturn_35 rfl rfl ?_
    refine ar_gf i_X4_lastBeforeReturn_36 (hG2.1) rfl ?_
    refine ar_ld i_X4_lastBeforeReturn_39 rfl rfl ?_
    refine ar_push i_X4_lastBeforeReturn_40 ?_
    refine av_cv i_X4_lastBeforeReturn_41 rfl trivial (Nat.le_of_ble_eq_true rfl) (k_poke (d + 1) (h2.fr k2 (by omega)) (show st < 121 by omega) (by omega) (by omega) 0) (fun S3 q3 => ?_)
    obtain ⟨g3, k3⟩ := q3
    refine ar_push i_X4_lastBeforeReturn_44 ?_
    refine ar_st i_X4_lastBeforeReturn_45 rfl rfl ?_
    refine ph2 121 0 1 S3 (fun _ => st) (fun _ => 0) (fun _ => 0) (fun _ => 0) _ _ _ [] (by omega) (by omega) (Or.inl rfl) (hG2.fr k3 (by omega) (by omega) (by omega)) (g2.fr k3 (by omega)) g3 ((h3.fr k2 (by omega)).fr k3 (by omega)) ⟨fun i _ => hst, fun i j hi hj _ => by omega⟩ (fun i _ => Nat.zero_le i) (fun i hi => ?_) (fun i _ => upd_eq) (Or.inl ⟨⟨⟨by omega, rfl, rfl, rfl⟩, ⟨fun i _ => hst, fun i j hi hj _ => by omega⟩, fun i hi => ⟨Nat.one_pos, rfl, Nat.zero_le i⟩, fun i j hij hj => by omega, fun _ j _ => Or.inl (by omega), fun i x t hix => by omega, fun i h0 hi => by omega⟩, fun t ht hn => ?_, fun i h0 hi => by omega⟩) ((hfr.tr (k2.mono (fun q z => by omega))).tr (k3.mono (fun q z => by omega)))
    · have e : i = 0 := by omega
      rw [e, upd_eq]
    · rw [upd_ne (fun z => hn ⟨0, by omega, z.symm⟩)]
      exact hag t (by omega)
  | succ j ih =>
    intro i S1 f hi hG h1 h2 h3 hag hfr
    refine ar_ld i_X4_lastBeforeReturn_2 rfl rfl ?_
    refine ar_ld i_X4_lastBeforeReturn_3 rfl rfl ?_
    refine ar_gf i_X4_lastBeforeReturn_4 (hG.1) rfl ?_
    refine ar_len i_X4_lastBeforeReturn_7 (by decide) (h2) ?_
    refine ar_iff i_X4_lastBeforeReturn_8 rfl (nI_ge (b := 121) (by omega) (by omega)) ?_
    refine ar_ld i_X4_lastBeforeReturn_11 rfl rfl ?_
    refine ar_gf i_X4_lastBeforeReturn_12 (hG.1) rfl ?_
    refine ar_ld i_X4_lastBeforeReturn_15 rfl rfl ?_
    refine ar_push i_X4_lastBeforeReturn_16 ?_
    refine av_sti i_X4_lastBeforeReturn_17 (by omega) (h2) (by omega) (by omega) (fun S2 g2 k2 => ?_)
    refine ar_inc i_X4_lastBeforeReturn_18 rfl rfl ?_
    refine ar_go i_X4_lastBeforeReturn_21 ?_
    have := ih (i + 1) S2 _ (by omega) (hG.fr k2 (by omega) (by omega) (by omega)) (h1.fr k2 (by omega)) g2 (h3.fr k2 (by omega)) (fun t ht => by
      by_cases e : t = i
      · rw [e, upd_eq]
      · rw [upd_ne e]; exact hag t (by omega)) (hfr.tr (k2.mono (fun q z => by omega)))
    rw [← nI_1 i] at this
    exact this
end
