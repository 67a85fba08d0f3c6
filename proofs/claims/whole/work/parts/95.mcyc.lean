/-! ===== the smallest shortest cycle: the reference ===== -/
section
theorem wlet_agree {k n p b : Nat} (hk : 0 < k) (hk3 : k ≤ 3) (hp : p < k ^ n) (hb : b < k ^ n) : ∀ i, i ≤ n → (∀ j, j < i → wlet k n p j = wlet k n b j) → p / k ^ (n - i) = b / k ^ (n - i)
  | 0, _, _ => by rw [Nat.sub_zero, Nat.div_eq_of_lt hp, Nat.div_eq_of_lt hb]
  | i + 1, hi, h => by
    have ih := wlet_agree hk hk3 hp hb i (by omega) (fun j hj => h j (by omega))
    have e : ∀ x, x / k ^ (n - (i + 1)) = x / k ^ (n - i) * k + x / k ^ (n - 1 - i) % k := by
      intro x
      rw [show n - i = (n - 1 - i) + 1 by omega, Nat.pow_succ, ← Nat.div_div_eq_div_mul, show n - (i + 1) = n - 1 - i by omega]
      have := Nat.div_add_mod (x / k ^ (n - 1 - i)) k
      rw [Nat.mul_comm] at this
      exact this.symm
    have h1 := Nat.mod_lt (p / k ^ (n - 1 - i)) hk
    have h2 := Nat.mod_lt (b / k ^ (n - 1 - i)) hk
    rw [e p, e b, ih, nI_inj (by omega) (by omega) (h i (by omega))]
theorem div_lt_of {p b q : Nat} (h : p / q < b / q) : p < b := Nat.lt_of_not_le fun z => by
  have := Nat.div_le_div_right (c := q) z
  omega
theorem wlet_cmp {k n p b i : Nat} (hk : 0 < k) (hk3 : k ≤ 3) (hp : p < k ^ n) (hb : b < k ^ n) (hi : i < n) (h : ∀ j, j < i → wlet k n p j = wlet k n b j) (hl : i + 1 = n ∨ ¬ wlet k n p i = wlet k n b i) : wlet k n p i < wlet k n b i ↔ p < b := by
  have ha := wlet_agree hk hk3 hp hb i (by omega) h
  have e : ∀ x, x / k ^ (n - 1 - i) = x / k ^ (n - i) * k + x / k ^ (n - 1 - i) % k := by
    intro x
    rw [show n - i = (n - 1 - i) + 1 by omega, Nat.pow_succ, ← Nat.div_div_eq_div_mul]
    have := Nat.div_add_mod (x / k ^ (n - 1 - i)) k
    rw [Nat.mul_comm] at this
    exact this.symm
  have h1 := Nat.mod_lt (p / k ^ (n - 1 - i)) hk
  have h2 := Nat.mod_lt (b / k ^ (n - 1 - i)) hk
  have e1 := e p
  have e2 := e b
  rw [ha] at e1
  have lt : wlet k n p i < wlet k n b i ↔ p / k ^ (n - 1 - i) % k < b / k ^ (n - 1 - i) % k := by
    refine ⟨fun z => Nat.lt_of_not_le fun u => ?_, fun z => nI_lt z (by omega)⟩
    exact absurd z (nI_nlt u (by omega))
  rw [lt]
  rcases Nat.lt_trichotomy (p / k ^ (n - 1 - i) % k) (b / k ^ (n - 1 - i) % k) with z | z | z
  · exact ⟨fun _ => div_lt_of (q := k ^ (n - 1 - i)) (by omega), fun _ => z⟩
  · have hl := hl.resolve_right (fun u => u (by unfold wlet; rw [z]))
    have e0 : k ^ (n - 1 - i) = 1 := by rw [show n - 1 - i = 0 by omega, Nat.pow_zero]
    rw [e0, Nat.div_one] at e1 e2
    rw [e0, Nat.div_one, Nat.div_one] at z ⊢
    exact ⟨fun u => by omega, fun u => by omega⟩
  · have : b < p := div_lt_of (q := k ^ (n - 1 - i)) (by omega)
    exact ⟨fun u => by omega, fun u => by omega⟩
theorem m_isSmaller (d : Nat) {S : aq_S} {kk n p b : Nat} {f g : Nat → Int32} {th il err rd tl pc lo cur hs sv : Int32} (hO : mO S th (nI kk) il err rd tl pc lo cur hs sv) (r5 : ia S 65 40 f) (r6 : ia S 66 40 g) (hk0 : 0 < kk) (hk : kk ≤ 3) (hp : p < kk ^ n) (hb : b < kk ^ n) (hn0 : 0 < n) (hn : n ≤ 40) (hf : ∀ i, i < n → f i = wlet kk n p i) (hg : ∀ i, i < n → g i = wlet kk n b i) : aX (d + 1) 198 [.ref 52, .int (nI n)] S (fun o S' => o = .inl (some (.int (bI (p < b)))) ∧ S' = S) := by
  refine ar_run (Nat.le_of_ble_eq_true rfl) (fun o S1 h => aq_le_of (aq_le_refl S) h) ?_
  refine ar_push i_X7_isSmaller_0 ?_
  refine ar_st i_X7_isSmaller_1 rfl rfl ?_
  have fin : ∀ i, i < n → (∀ j, j < i → wlet kk n p j = wlet kk n b j) → (i + 1 = n ∨ ¬ wlet kk n p i = wlet kk n b i) → aG d 198 (fun o S' => o = .inl (some (.int (bI (p < b)))) ∧ S' = S) 30 [(0, .ref 52), (1, .int (nI n)), (2, .int (nI i))] [] S := by
    intro i hi hag hl
    have hc := wlet_cmp hk0 hk hp hb hi hag hl
    refine ar_ld i_X7_isSmaller_30 rfl rfl ?_
    refine ar_gf i_X7_isSmaller_31 (hO) rfl ?_
    refine ar_ld i_X7_isSmaller_34 rfl rfl ?_
    refine av_ldi i_X7_isSmaller_35 (r5) (by omega) (by omega) ?_
    rw [hf i hi]
    refine ar_ld i_X7_isSmaller_36 rfl rfl ?_
    refine ar_gf i_X7_isSmaller_37 (hO) rfl ?_
    refine ar_ld i_X7_isSmaller_40 rfl rfl ?_
    refine av_ldi i_X7_isSmaller_41 (r6) (by omega) (by omega) ?_
    rw [hg i hi]
    by_cases hlt : p < b
    · refine ar_iff i_X7_isSmaller_42 rfl (Int32.not_le.mpr (hc.mpr hlt)) ?_
      refine ar_push i_X7_isSmaller_45 ?_
      refine ar_go i_X7_isSmaller_46 ?_
      exact ar_ret i_X7_isSmaller_50 ((Or.inr rfl)) ⟨by rw [bI_t hlt], rfl⟩
    · refine ar_ift i_X7_isSmaller_42 rfl (Int32.not_lt.mp (fun z => hlt (hc.mp z))) ?_
      refine ar_push i_X7_isSmaller_49 ?_
      exact ar_ret i_X7_isSmaller_50 ((Or.inl rfl)) ⟨by rw [bI_f hlt], rfl⟩
  suffices key : ∀ j i, i + j + 1 = n → (∀ j, j < i → wlet kk n p j = wlet kk n b j) → aG d 198 (fun o S' => o = .inl (some (.int (bI (p < b)))) ∧ S' = S) 2 [(0, .ref 52), (1, .int (nI n)), (2, .int (nI i))] [] S from key (n - 1) 0 (by omega) (fun j hj => absurd hj (Nat.not_lt_zero j))
  intro j
  induction j with
  | zero =>
    intro i hi hag
    refine ar_ld i_X7_isSmaller_2 rfl rfl ?_
    refine ar_ld i_X7_isSmaller_3 rfl rfl ?_
    refine ar_push i_X7_isSmaller_4 ?_
    refine ar_ar i_X7_isSmaller_5 rfl ?_
    rw [nI_m1 (by omega)]
    refine ar_ift i_X7_isSmaller_6 rfl (nI_le (show n - 1 ≤ i by omega) (by omega)) ?_
    exact fin i (by omega) hag (Or.inl (by omega))
  | succ j ih =>
    intro i hi hag
    refine ar_ld i_X7_isSmaller_2 rfl rfl ?_
    refine ar_ld i_X7_isSmaller_3 rfl rfl ?_
    refine ar_push i_X7_isSmaller_4 ?_
    refine ar_ar i_X7_isSmaller_5 rfl ?_
    rw [nI_m1 (by omega)]
    refine ar_iff i_X7_isSmaller_6 rfl (nI_ge (show i < n - 1 by omega) (by omega)) ?_
    refine ar_ld i_X7_isSmaller_9 rfl rfl ?_
    refine ar_gf i_X7_isSmaller_10 (hO) rfl ?_
    refine ar_ld i_X7_isSmaller_13 rfl rfl ?_
    refine av_ldi i_X7_isSmaller_14 (r5) (by omega) (by omega) ?_
    rw [hf i (by omega)]
    refine ar_ld i_X7_isSmaller_15 rfl rfl ?_
    refine ar_gf i_X7_isSmaller_16 (hO) rfl ?_
    refine ar_ld i_X7_isSmaller_19 rfl rfl ?_
    refine av_ldi i_X7_isSmaller_20 (r6) (by omega) (by omega) ?_
    rw [hg i (by omega)]
    by_cases e : wlet kk n p i = wlet kk n b i
    · refine ar_iff i_X7_isSmaller_21 rfl (fun z => z e) ?_
      refine ar_inc i_X7_isSmaller_24 rfl rfl ?_
      refine ar_go i_X7_isSmaller_27 ?_
      rw [nI_1]
      exact ih (i + 1) (by omega) (fun j hj => by
        by_cases ej : j = i
        · rw [ej]; exact e
        · exact hag j (by omega))
    · refine ar_ift i_X7_isSmaller_21 rfl (e) ?_
      exact fin i (by omega) hag (Or.inr e)
/-- the best cycle through a state below v -/
def cycB (lo : Int32) (k c : Nat) (pn : Nat → Nat) (pg : Nat → Nat → Int32) (v B : Nat) (g : Nat → Int32) : Prop := (B = 1000 ∧ ∀ w, w < v → ∀ n m, n ≤ 40 → ¬ clo k (tgR lo k c pn pg) n m w) ∨ (B ≤ 40 ∧ ∃ b, (∃ w, w < k ^ 4 ∧ clo k (tgR lo k c pn pg) B b w) ∧ (∀ w, w < v → ∀ n' m', clo k (tgR lo k c pn pg) n' m' w → ¬ lex n' m' B b) ∧ ∀ j, j < B → g j = wlet k B b j)
theorem m_cycLoop (d : Nat) {S : aq_S} {kk c r : Nat} {pn : Nat → Nat} {pg : Nat → Nat → Int32} {Q : aq_F} {th il err rd tl lo cur hs sv : Int32} (hO : mO S th (nI kk) il err rd tl (nI c) lo cur hs sv) (hp : mPt S c pn pg) (hpk : pOk c pn pg) (hmP : mP S) (hG : mGr S) (hk0 : 0 < kk) (hk : kk ≤ 3) (hQ : ∀ (S1 : aq_S) (B : Nat) (g : Nat → Int32) (L : List (Nat × Value)), (L = [] ∨ (∃ u, L = [(4, .int u)]) ∨ ∃ u w, L = [(4, .int u), (5, .int w)]) → mO S1 th (nI kk) il err rd tl (nI c) lo cur hs sv → mP S1 → mGr S1 → ia S1 66 40 g → cycB lo kk c pn pg (kk ^ 4) B g → aq_fr S S1 (fun q => q = 55 ∨ (60 ≤ q ∧ q ≤ 66)) → aG (d + 5) 199 Q 120 ((0, .ref 52) :: (1, .int (nI r)) :: (2, .int (nI B)) :: (3, .int (nI (kk ^ 4))) :: L) [] S1) : aG (d + 5) 199 Q 13 [(0, .ref 52), (1, .int (nI r))] [] S := by
  have h4 := pw4 kk (by omega)
  obtain ⟨fp, u5⟩ := hmP
  obtain ⟨⟨n0, r0⟩, ⟨e0, r1⟩, ⟨w0, r2⟩, ⟨nw, r3⟩, ⟨d0, r4⟩, ⟨c0, r5⟩, b0, r6⟩ := hG
  refine ar_ld i_X7_avoidingCycle_13 rfl rfl ?_
  refine av_cv i_X7_avoidingCycle_14 rfl ⟨_, _, _, rfl, hO⟩ (Nat.le_of_ble_eq_true rfl) (m_findGraph (d + 2) hO hp hpk u5 r0 r1 hk0 hk) (fun S2 q2 => ?_)
  obtain ⟨⟨⟨fn, x0, -⟩, ⟨fe, x1, hfe⟩, F, x5⟩, k2⟩ := q2
  have hfr2 : aq_fr S S2 (fun q => q = 55 ∨ (60 ≤ q ∧ q ≤ 66)) := k2.mono (fun q z => by omega)
  refine ar_push i_X7_avoidingCycle_17 ?_
  refine ar_st i_X7_avoidingCycle_20 rfl rfl ?_
  refine ar_push i_X7_avoidingCycle_21 ?_
  refine ar_st i_X7_avoidingCycle_22 rfl rfl ?_
  suffices key : ∀ j v (S1 : aq_S) (B : Nat) (f4 f5 g : Nat → Int32) (L : List (Nat × Value)), v + j = kk ^ 4 → (L = [] ∨ (∃ u, L = [(4, .int u)]) ∨ ∃ u w, L = [(4, .int u), (5, .int w)]) → mO S1 th (nI kk) il err rd tl (nI c) lo cur hs sv → ia S1 55 40 F → ba S1 60 81 fn → ba S1 61 243 fe → la S1 62 81 w0 → la S1 63 81 nw → ia S1 64 81 f4 → ia S1 65 40 f5 → ia S1 66 40 g → cycB lo kk c pn pg v B g → aq_fr S S1 (fun q => q = 55 ∨ (60 ≤ q ∧ q ≤ 66)) → aG (d + 5) 199 Q 23 ((0, .ref 52) :: (1, .int (nI r)) :: (2, .int (nI B)) :: (3, .int (nI v)) :: L) [] S1 from key (kk ^ 4) 0 S2 1000 d0 c0 b0 [] (by omega) (Or.inl rfl) (hO.fr k2 (by omega)) x5 x0 x1 (r2.fr k2 (by omega)) (r3.fr k2 (by omega)) (r4.fr k2 (by omega)) (r5.fr k2 (by omega)) (r6.fr k2 (by omega)) (Or.inl ⟨rfl, fun w hw => absurd hw (Nat.not_lt_zero w)⟩) hfr2
  clear hfr2 k2 x0 x1 x5 r0 r1 r2 r3 r4 r5 r6 u5 hp
  intro j
  induction j with
  | zero =>
    intro v S1 B f4 f5 g L hv hL o1 x5 x0 x1 y2 y3 y4 y5 y6 hB hfr
    have ev : v = kk ^ 4 := hv
    rw [ev]
    rw [ev] at hB
    refine ar_ld i_X7_avoidingCycle_23 rfl rfl ?_
    refine ar_ld i_X7_avoidingCycle_24 rfl rfl ?_
    refine ar_cr i_X7_avoidingCycle_25 rfl ⟨_, _, _, rfl, o1⟩ (Nat.le_of_ble_eq_true rfl) (m_nodes (d + 3) o1) ?_
    refine ar_ift i_X7_avoidingCycle_28 rfl (nI_le (Nat.le_refl _) (by omega)) ?_
    exact hQ S1 B g L hL o1 ⟨F, x5⟩ ⟨⟨fn, x0⟩, ⟨fe, x1⟩, ⟨w0, y2⟩, ⟨nw, y3⟩, ⟨f4, y4⟩, ⟨f5, y5⟩, g, y6⟩ y6 hB hfr
  | succ j ih =>
    intro v S1 B f4 f5 g L hv hL o1 x5 x0 x1 y2 y3 y4 y5 y6 hB hfr
    have hvk : v < kk ^ 4 := by omega
    have hB1 : B ≤ 1000 := by
      rcases hB with z | z <;> omega
    refine ar_ld i_X7_avoidingCycle_23 rfl rfl ?_
    refine ar_ld i_X7_avoidingCycle_24 rfl rfl ?_
    refine ar_cr i_X7_avoidingCycle_25 rfl ⟨_, _, _, rfl, o1⟩ (Nat.le_of_ble_eq_true rfl) (m_nodes (d + 3) o1) ?_
    refine ar_iff i_X7_avoidingCycle_28 rfl (nI_ge hvk (by omega)) ?_
    refine ar_ld i_X7_avoidingCycle_31 rfl rfl ?_
    refine ar_ld i_X7_avoidingCycle_32 rfl rfl ?_
    refine av_cv i_X7_avoidingCycle_33 rfl ⟨_, _, _, rfl, o1⟩ (Nat.le_of_ble_eq_true rfl) (m_findDistances (d + 1) o1 x1 hfe y4 hvk hk0 hk) (fun S3 q3 => ?_)
    obtain ⟨⟨D, f, z4, hD, hf⟩, k3⟩ := q3
    have o3 := o1.fr k3 (by omega)
    have x13 := x1.fr k3 (by omega)
    have hfr3 : aq_fr S S3 (fun q => q = 55 ∨ (60 ≤ q ∧ q ≤ 66)) := hfr.tr (k3.mono (fun q z => by omega))
    refine ar_ld i_X7_avoidingCycle_36 rfl rfl ?_
    refine ar_ld i_X7_avoidingCycle_37 rfl rfl ?_
    refine av_ce i_X7_avoidingCycle_38 rfl ⟨_, _, _, rfl, o3⟩ (Nat.le_of_ble_eq_true rfl) (m_roundOf (d + 1) o3 x13 hfe z4 hf hD.1.1 hvk hk0 hk) (fun rr S4 q4 => ?_)
    obtain ⟨hR, e4⟩ := q4
    subst e4
    have hR1 := hR.1
    have t5 := y5.fr k3 (by omega)
    have t6 := y6.fr k3 (by omega)
    have nxt : ∀ (S5 : aq_S) (B2 : Nat) (f5 g : Nat → Int32) (L : List (Nat × Value)), (L = [] ∨ ∃ w, L = [(5, .int w)]) → aq_fr S4 S5 (fun q => q = 65 ∨ q = 66) → ia S5 65 40 f5 → ia S5 66 40 g → cycB lo kk c pn pg (v + 1) B2 g → aG (d + 5) 199 Q 114 ((0, .ref 52) :: (1, .int (nI r)) :: (2, .int (nI B2)) :: (3, .int (nI v)) :: (4, .int (nI rr)) :: L) [] S5 := by
      intro S5 B2 f5 g L hL k5 y5 y6 hB
      refine ar_inc i_X7_avoidingCycle_114 rfl rfl ?_
      refine ar_go i_X7_avoidingCycle_117 ?_
      rw [nI_1]
      have hL2 : (∃ u, (4, Value.int (nI rr)) :: L = [(4, .int u)]) ∨ ∃ u w, (4, Value.int (nI rr)) :: L = [(4, .int u), (5, .int w)] := by
        rcases hL with e | ⟨w, e⟩
        · exact Or.inl ⟨_, by rw [e]⟩
        · exact Or.inr ⟨_, _, by rw [e]⟩
      have := ih (v + 1) S5 B2 f f5 g ((4, .int (nI rr)) :: L) (by omega) (Or.inr hL2) (o3.fr k5 (by omega)) ((x5.fr k3 (by omega)).fr k5 (by omega)) ((x0.fr k3 (by omega)).fr k5 (by omega)) (x13.fr k5 (by omega)) ((y2.fr k3 (by omega)).fr k5 (by omega)) ((y3.fr k3 (by omega)).fr k5 (by omega)) (z4.fr k5 (by omega)) y5 y6 hB (hfr3.tr (k5.mono (fun q z => by omega)))
      rcases hL with e | ⟨w, e⟩ <;> subst e <;> exact this
    have main : ∀ L : List (Nat × Value), (L = [] ∨ ∃ w, L = [(5, .int w)]) → aG (d + 5) 199 Q 43 ((0, .ref 52) :: (1, .int (nI r)) :: (2, .int (nI B)) :: (3, .int (nI v)) :: (4, .int (nI rr)) :: L) [] S4 := by
      intro L hL
      refine ar_ld i_X7_avoidingCycle_43 rfl rfl ?_
      refine ar_push i_X7_avoidingCycle_45 ?_
      by_cases h40 : 40 < rr
      · refine ar_ift i_X7_avoidingCycle_47 rfl (nI_lt (a := 40) h40 (by omega)) ?_
        refine nxt S4 B f5 g L hL aq_fr.rf t5 t6 ?_
        have far : ∀ n m, clo kk (tgR lo kk c pn pg) n m v → 40 < n := fun n m hc => Nat.lt_of_lt_of_le h40 (roO_le hk0 hD hR hc)
        rcases hB with ⟨e, z⟩ | ⟨e, b, z1, z2, z3⟩
        · refine Or.inl ⟨e, fun w hw n m hn hc => ?_⟩
          by_cases ew : w = v
          · rw [ew] at hc
            have := far n m hc
            omega
          · exact z w (by omega) n m hn hc
        · refine Or.inr ⟨e, b, z1, fun w hw n m hc hlx => ?_, z3⟩
          by_cases ew : w = v
          · rw [ew] at hc
            have := far n m hc
            unfold lex at hlx
            omega
          · exact z2 w (by omega) n m hc hlx
      · refine ar_iff i_X7_avoidingCycle_47 rfl (nI_nlt (a := 40) (show rr ≤ 40 by omega) (by omega)) ?_
        refine ar_ld i_X7_avoidingCycle_50 rfl rfl ?_
        refine ar_ld i_X7_avoidingCycle_52 rfl rfl ?_
        by_cases hle : rr ≤ B
        · refine ar_ift i_X7_avoidingCycle_53 rfl (nI_le hle (by omega)) ?_
          refine ar_ld i_X7_avoidingCycle_59 rfl rfl ?_
          refine ar_ld i_X7_avoidingCycle_60 rfl rfl ?_
          refine ar_ld i_X7_avoidingCycle_61 rfl rfl ?_
          refine av_cv i_X7_avoidingCycle_63 rfl ⟨_, _, _, rfl, o3⟩ (Nat.le_of_ble_eq_true rfl) (m_spellsCycle (d + 1) o3 x13 hfe z4 hf hD hR (show rr ≤ 40 by omega) t5 hvk hk0 hk) (fun S5 q5 => ?_)
          obtain ⟨⟨p, f6, g5, hcl, hmin, hf6⟩, k5⟩ := q5
          have o5 := o3.fr k5 (by omega)
          have g6 := t6.fr k5 (by omega)
          have hn0 := hcl.1
          have best : ∀ n m, clo kk (tgR lo kk c pn pg) n m v → ¬ lex n m rr p := fun n m hc hlx => by
            have h1 := roO_le hk0 hD hR hc
            have e : n = rr := by unfold lex at hlx; omega
            rw [e] at hc
            have := hmin m hc
            unfold lex at hlx
            omega
          have take : ∀ L : List (Nat × Value), (L = [] ∨ ∃ w, L = [(5, .int w)]) → (B = 1000 ∨ ∀ w, w < v → ∀ n m, clo kk (tgR lo kk c pn pg) n m w → ¬ lex n m rr p) → aG (d + 5) 199 Q 81 ((0, .ref 52) :: (1, .int (nI r)) :: (2, .int (nI B)) :: (3, .int (nI v)) :: (4, .int (nI rr)) :: L) [] S5 := by
            intro L hL hbt
            have copy : ∀ jj i (S6 : aq_S) (g : Nat → Int32), i + jj = rr → aq_fr S5 S6 (fun q => q = 66) → ia S6 66 40 g → (∀ x, x < i → g x = wlet kk rr p x) → aG (d + 5) 199 Q 84 [(0, .ref 52), (1, .int (nI r)), (2, .int (nI B)), (3, .int (nI v)), (4, .int (nI rr)), (5, .int (nI i))] [] S6 := by
              intro jj
              induction jj with
              | zero =>
                intro i S6 g hi k6 g6 hg
                refine ar_ld i_X7_avoidingCycle_84 rfl rfl ?_
                refine ar_ld i_X7_avoidingCycle_86 rfl rfl ?_
                refine ar_ift i_X7_avoidingCycle_88 rfl (nI_le (show rr ≤ i by omega) (by omega)) ?_
                refine ar_ld i_X7_avoidingCycle_111 rfl rfl ?_
                refine ar_st i_X7_avoidingCycle_113 rfl rfl ?_
                refine nxt S6 rr f6 g [(5, .int (nI i))] (Or.inr ⟨_, rfl⟩) ((k5.mono (fun q z => by omega)).tr (k6.mono (fun q z => by omega))) (g5.fr k6 (by omega)) g6 (Or.inr ⟨by omega, p, ⟨v, hvk, hcl⟩, fun w hw n m hc hlx => ?_, fun x hx => hg x (by omega)⟩)
                by_cases ew : w = v
                · rw [ew] at hc
                  exact best n m hc hlx
                · rcases hbt with e | z
                  · rcases hB with ⟨_, z⟩ | ⟨z, _⟩
                    · exact z w (by omega) n m (by unfold lex at hlx; omega) hc
                    · omega
                  · exact z w (by omega) n m hc hlx
              | succ jj ihj =>
                intro i S6 g hi k6 g6 hg
                have o6 := o5.fr k6 (by omega)
                refine ar_ld i_X7_avoidingCycle_84 rfl rfl ?_
                refine ar_ld i_X7_avoidingCycle_86 rfl rfl ?_
                refine ar_iff i_X7_avoidingCycle_88 rfl (nI_ge (show i < rr by omega) (by omega)) ?_
                refine ar_ld i_X7_avoidingCycle_91 rfl rfl ?_
                refine ar_gf i_X7_avoidingCycle_92 (o6) rfl ?_
                refine ar_ld i_X7_avoidingCycle_95 rfl rfl ?_
                refine ar_ld i_X7_avoidingCycle_97 rfl rfl ?_
                refine ar_gf i_X7_avoidingCycle_98 (o6) rfl ?_
                refine ar_ld i_X7_avoidingCycle_101 rfl rfl ?_
                refine av_ldi i_X7_avoidingCycle_103 (g5.fr k6 (by omega)) (by omega) (by omega) ?_
                rw [hf6 i (by omega)]
                refine av_sti i_X7_avoidingCycle_104 (by omega) (g6) (by omega) (by omega) (fun S7 g7 k7 => ?_)
                refine ar_inc i_X7_avoidingCycle_105 rfl rfl ?_
                refine ar_go i_X7_avoidingCycle_108 ?_
                rw [nI_1]
                exact ihj (i + 1) S7 _ (by omega) (k6.tr k7) g7 (fun x hx => by
                  by_cases e : x = i
                  · rw [e, upd_eq]
                  · rw [upd_ne e]; exact hg x (by omega))
            rcases hL with e | ⟨w, e⟩
            · subst e
              refine ar_push i_X7_avoidingCycle_81 ?_
              refine ar_st i_X7_avoidingCycle_82 rfl rfl ?_
              exact copy rr 0 S5 g (by omega) aq_fr.rf g6 (fun x hx => absurd hx (Nat.not_lt_zero x))
            · subst e
              refine ar_push i_X7_avoidingCycle_81 ?_
              refine ar_st i_X7_avoidingCycle_82 rfl rfl ?_
              exact copy rr 0 S5 g (by omega) aq_fr.rf g6 (fun x hx => absurd hx (Nat.not_lt_zero x))
          refine ar_ld i_X7_avoidingCycle_66 rfl rfl ?_
          refine ar_ld i_X7_avoidingCycle_68 rfl rfl ?_
          by_cases hlt : rr < B
          · refine ar_ift i_X7_avoidingCycle_69 rfl (nI_lt hlt (by omega)) ?_
            refine take L hL ?_
            rcases hB with ⟨e, z⟩ | ⟨e, b, z1, z2, z3⟩
            · exact Or.inl e
            · exact Or.inr fun w hw n m hc hlx => z2 w hw n m hc (by unfold lex at hlx ⊢; omega)
          · refine ar_iff i_X7_avoidingCycle_69 rfl (nI_nlt (show B ≤ rr by omega) (by omega)) ?_
            have eB : B = rr := by omega
            rcases hB with ⟨e, z⟩ | ⟨e, b, ⟨w1, hw1, hcb⟩, z2, z3⟩
            · omega
            · rw [eB] at hcb z2 z3
              refine ar_ld i_X7_avoidingCycle_72 rfl rfl ?_
              refine ar_ld i_X7_avoidingCycle_73 rfl rfl ?_
              refine ar_cr i_X7_avoidingCycle_75 rfl ⟨_, _, _, rfl, o5⟩ (Nat.le_of_ble_eq_true rfl) (m_isSmaller (d + 4) o5 g5 g6 hk0 hk hcl.2.1 hcb.2.1 hn0 (by omega) hf6 z3) ?_
              by_cases hs : p < b
              · refine ar_iff i_X7_avoidingCycle_78 rfl (bI_nz.mpr hs) ?_
                refine take L hL (Or.inr fun w hw n m hc hlx => z2 w hw n m hc (by unfold lex at hlx ⊢; omega))
              · refine ar_ift i_X7_avoidingCycle_78 rfl (bI_f hs) ?_
                have hB2 : cycB lo kk c pn pg (v + 1) rr g := by
                  refine Or.inr ⟨by omega, b, ⟨w1, hw1, hcb⟩, fun w hw n m hc hlx => ?_, z3⟩
                  by_cases ew : w = v
                  · rw [ew] at hc
                    exact best n m hc (by unfold lex at hlx ⊢; omega)
                  · exact z2 w (by omega) n m hc hlx
                have := nxt S5 rr f6 g L hL (k5.mono (fun q z => by omega)) g5 g6 hB2
                refine ar_ld i_X7_avoidingCycle_111 rfl rfl ?_
                refine ar_st i_X7_avoidingCycle_113 rfl rfl ?_
                rcases hL with e | ⟨w, e⟩ <;> subst e <;> exact this
        · refine ar_iff i_X7_avoidingCycle_53 rfl (Int32.not_le.mpr (nI_lt (show B < rr by omega) (by omega))) ?_
          refine ar_go i_X7_avoidingCycle_56 ?_
          refine nxt S4 B f5 g L hL aq_fr.rf t5 t6 ?_
          rcases hB with ⟨e, z⟩ | ⟨e, b, z1, z2, z3⟩
          · omega
          · refine Or.inr ⟨e, b, z1, fun w hw n m hc hlx => ?_, z3⟩
            by_cases ew : w = v
            · rw [ew] at hc
              have := roO_le hk0 hD hR hc
              unfold lex at hlx
              omega
            · exact z2 w (by omega) n m hc hlx
    rcases hL with e | ⟨u, e⟩ | ⟨u, w, e⟩
    · subst e
      refine ar_st i_X7_avoidingCycle_41 rfl rfl ?_
      exact main [] (Or.inl rfl)
    · subst e
      refine ar_st i_X7_avoidingCycle_41 rfl rfl ?_
      exact main [] (Or.inl rfl)
    · subst e
      refine ar_st i_X7_avoidingCycle_41 rfl rfl ?_
      exact main [(5, .int w)] (Or.inr ⟨_, rfl⟩)
end
