/-! ===== following a text; addPattern, removePattern, patternCount, avoids ===== -/
section
theorem isY_cases {s : Int32} (h : isY 3 s) : s = -1 ∨ ∃ l, l < 3 ∧ s = nI l := by
  rcases h with h | ⟨h1, h2⟩
  · exact Or.inl h
  · rcases pk_ix s (n := 3) (by omega) with h3 | h3 | h3
    · exact absurd h3 h1
    · exact absurd h2 (Int32.not_lt.mpr h3)
    · exact Or.inr h3
theorem nI_nm1 : ∀ l, l < 128 → ¬ nI l = -1 := by decide +kernel
theorem wdf_m1 (x : Int32) : ¬ wdf x (-1) := fun h => h.2.1 rfl
/-- a letter or a hole fits a letter of three -/
theorem pAcc_any {c : Nat} {pn : Nat → Nat} {pg : Nat → Nat → Int32} (h : pOk c pn pg) {t : Nat} : pAcc c pn pg (-1) t ↔ ∃ l, l < 3 ∧ pAcc c pn pg (nI l) t := by
  refine ⟨fun ⟨i, j, hi, hj, e, _⟩ => ?_, fun ⟨l, hl, i, j, hi, hj, e, _⟩ => ⟨i, j, hi, hj, e, wdf_m1 _⟩⟩
  rcases isY_cases (h.2.2 i j hi hj) with q | ⟨l, hl, q⟩
  · exact ⟨0, by omega, i, j, hi, hj, e, fun u => u.1 q⟩
  · exact ⟨l, hl, i, j, hi, hj, e, fun u => u.2.2 q⟩
theorem lb_starts : ∀ t, t < 64 → lb 37191016277640225 t = decide (t % 5 = 0 ∧ t < 60) := by decide +kernel
/-- the set after one more symbol -/
def fBit (c : Nat) (pn : Nat → Nat) (pg : Nat → Nat → Int32) (bg : Int64) (s : Int32) (t : Nat) : Prop := ∃ i j, i < c ∧ j < pn i ∧ t = 5 * i + j ∧ ¬ wdf (pg i j) s ∧ (j = 0 ∨ lb bg (t - 1) = true)
theorem fBit_iff {c : Nat} {pn : Nat → Nat} {pg : Nat → Nat → Int32} (h : pOk c pn pg) {bg z A : Int64} {s : Int32} {t : Nat} (ht : t < 64) (hA : lb A t = true ↔ pAcc c pn pg s t) (hz : z = (bg <<< ((1 : Int32).toInt64 &&& 63) ||| 37191016277640225) &&& A) : lb z t = true ↔ fBit c pn pg bg s t := by
  rw [hz, lb_and, lb_or, lb_shl1 _ ht, lb_starts t ht, Bool.and_eq_true, Bool.or_eq_true, Bool.and_eq_true, decide_eq_true_iff, decide_eq_true_iff, hA]
  refine ⟨fun ⟨u, i, j, hi, hj, e, w⟩ => ⟨i, j, hi, hj, e, w, ?_⟩, fun ⟨i, j, hi, hj, e, w, u⟩ => ⟨?_, i, j, hi, hj, e, w⟩⟩
  · have h5 := h.2.1 i hi
    rcases u with u | u
    · exact Or.inr u.2
    · left; omega
  · have h5 := h.2.1 i hi
    have h12 := h.1
    by_cases hj0 : j = 0
    · right; omega
    · exact Or.inl ⟨by omega, u.resolve_left hj0⟩
theorem p_follow (d : Nat) {S : aq_S} {b c : Nat} {pn : Nat → Nat} {pg : Nat → Nat → Int32} {bg : Int64} {s : Int32} (h : hP S b c pn pg) (hk : pOk c pn pg) (hs : isY 3 s) : aX (d + 1) 9 [.ref b, .long bg, .int s] S (fun o S' => ∃ z : Int64, o = .inl (some (.long z)) ∧ (∀ t, t < 64 → (lb z t = true ↔ fBit c pn pg bg s t)) ∧ S' = S) := by
  obtain ⟨E, acc, h1, h2, h0, h3, h4⟩ := h
  refine ar_run (Nat.le_of_ble_eq_true rfl) (fun o S1 h => by obtain ⟨_, -, -, rfl⟩ := h; exact aq_le_refl _) ?_
  refine ar_ld i_X0_follow_0 rfl rfl ?_
  refine ar_push i_X0_follow_1 ?_
  refine ar_ar i_X0_follow_2 rfl ?_
  refine ar_push i_X0_follow_3 ?_
  refine ar_ar i_X0_follow_6 rfl ?_
  refine ar_st i_X0_follow_7 rfl rfl ?_
  refine ar_ld i_X0_follow_9 rfl rfl ?_
  rcases isY_cases hs with e | ⟨l, hl, e⟩
  · subst e
    refine ar_ift i_X0_follow_10 rfl (by decide) ?_
    refine ar_push i_X0_follow_22 ?_
    refine ar_st i_X0_follow_23 rfl rfl ?_
    refine ar_push i_X0_follow_25 ?_
    refine ar_st i_X0_follow_26 rfl rfl ?_
    suffices key : ∀ j i (A : Int64), i + j = 3 → (∀ t, t < 64 → (lb A t = true ↔ ∃ l, l < i ∧ pAcc c pn pg (nI l) t)) → aG d 9 (fun o S' => ∃ z : Int64, o = .inl (some (.long z)) ∧ (∀ t, t < 64 → (lb z t = true ↔ fBit c pn pg bg (-1) t)) ∧ S' = S) 28 [(0, .ref b), (1, .long bg), (3, .int (-1)), (4, .long (bg <<< ((1 : Int32).toInt64 &&& 63) ||| 37191016277640225)), (6, .long A), (8, .int (nI i))] [] S from key 3 0 0 (by omega) (fun t ht => by rw [lb_0]; exact ⟨fun z => Bool.noConfusion z, fun ⟨_, z, _⟩ => absurd z (Nat.not_lt_zero _)⟩)
    intro j
    induction j with
    | zero =>
      intro i A hi hA
      refine ar_ld i_X0_follow_28 rfl rfl ?_
      refine ar_ld i_X0_follow_30 rfl rfl ?_
      refine ar_gf i_X0_follow_31 (h1) rfl ?_
      refine ar_len i_X0_follow_34 (by decide) (h2) ?_
      refine ar_ift i_X0_follow_35 rfl (nI_le (a := 3) (by omega) (by omega)) ?_
      refine ar_ld i_X0_follow_56 rfl rfl ?_
      refine ar_ld i_X0_follow_58 rfl rfl ?_
      refine ar_ar i_X0_follow_60 rfl ?_
      refine ar_ret i_X0_follow_61 rfl ⟨_, rfl, fun t ht => fBit_iff hk ht ?_ rfl, rfl⟩
      rw [hA t ht, pAcc_any hk, show i = 3 by omega]
    | succ j ih =>
      intro i A hi hA
      refine ar_ld i_X0_follow_28 rfl rfl ?_
      refine ar_ld i_X0_follow_30 rfl rfl ?_
      refine ar_gf i_X0_follow_31 (h1) rfl ?_
      refine ar_len i_X0_follow_34 (by decide) (h2) ?_
      refine ar_iff i_X0_follow_35 rfl (nI_ge (b := 3) (by omega) (by omega)) ?_
      refine ar_ld i_X0_follow_38 rfl rfl ?_
      refine ar_ld i_X0_follow_40 rfl rfl ?_
      refine ar_gf i_X0_follow_41 (h1) rfl ?_
      refine ar_ld i_X0_follow_44 rfl rfl ?_
      refine av_ldl i_X0_follow_46 (h2) (by omega) (by omega) ?_
      refine ar_ar i_X0_follow_47 rfl ?_
      refine ar_st i_X0_follow_48 rfl rfl ?_
      refine ar_inc i_X0_follow_50 rfl rfl ?_
      refine ar_go i_X0_follow_53 ?_
      have := ih (i + 1) (A ||| acc i) (by omega) (fun t ht => by
        rw [lb_or, Bool.or_eq_true, hA t ht, h3 i (by omega) t ht]
        refine ⟨fun z => ?_, fun ⟨l, hl, z⟩ => ?_⟩
        · rcases z with ⟨l, hl, z⟩ | z
          · exact ⟨l, by omega, z⟩
          · exact ⟨i, by omega, z⟩
        · by_cases e : l = i
          · rw [e] at z; exact Or.inr z
          · exact Or.inl ⟨l, by omega, z⟩)
      rw [← nI_1] at this
      exact this
  · subst e
    refine ar_iff i_X0_follow_10 rfl (nI_pos (by omega)) ?_
    refine ar_ld i_X0_follow_13 rfl rfl ?_
    refine ar_ld i_X0_follow_14 rfl rfl ?_
    refine ar_gf i_X0_follow_15 (h1) rfl ?_
    refine ar_len i_X0_follow_18 (by decide) (h2) ?_
    refine ar_ift i_X0_follow_19 rfl (nI_lt (a := l) (b := 3) (by omega) (by omega)) ?_
    refine ar_ld i_X0_follow_62 rfl rfl ?_
    refine ar_ld i_X0_follow_64 rfl rfl ?_
    refine ar_gf i_X0_follow_65 (h1) rfl ?_
    refine ar_ld i_X0_follow_68 rfl rfl ?_
    refine av_ldl i_X0_follow_69 (h2) (by omega) (by omega) ?_
    refine ar_ar i_X0_follow_70 rfl ?_
    exact ar_ret i_X0_follow_71 rfl ⟨_, rfl, fun t ht => fBit_iff hk ht (h3 l hl t ht) rfl, rfl⟩
/-- the bits of the beginnings of patterns that a text ends with -/
def sBeg (c : Nat) (pn : Nat → Nat) (pg : Nat → Nat → Int32) (f : Nat → Int32) (n : Nat) (bg : Int64) : Prop := ∀ t, t < 64 → (lb bg t = true ↔ ∃ i j, i < c ∧ j < pn i ∧ t = 5 * i + j ∧ j < n ∧ ∀ x, x ≤ j → ¬ wdf (pg i x) (f (n - 1 - j + x)))
theorem sBeg_0 {c : Nat} {pn : Nat → Nat} {pg : Nat → Nat → Int32} {f : Nat → Int32} : sBeg c pn pg f 0 0 := fun t ht => by
  rw [lb_0]
  exact ⟨fun z => Bool.noConfusion z, fun ⟨_, _, _, _, _, z, _⟩ => absurd z (Nat.not_lt_zero _)⟩
theorem sBeg_step {c : Nat} {pn : Nat → Nat} {pg : Nat → Nat → Int32} (h : pOk c pn pg) {f : Nat → Int32} {n : Nat} {bg z : Int64} (hb : sBeg c pn pg f n bg) (hz : ∀ t, t < 64 → (lb z t = true ↔ fBit c pn pg bg (f n) t)) : sBeg c pn pg f (n + 1) z := fun t ht => by
  rw [hz t ht]
  refine ⟨fun ⟨i, j, hi, hj, e, w, u⟩ => ⟨i, j, hi, hj, e, ?_⟩, fun ⟨i, j, hi, hj, e, hjn, w⟩ => ⟨i, j, hi, hj, e, ?_, ?_⟩⟩
  · have h5 := h.2.1 i hi
    by_cases hj0 : j = 0
    · subst hj0
      refine ⟨by omega, fun x hx => ?_⟩
      rw [show x = 0 by omega, show n + 1 - 1 - 0 + 0 = n by omega]
      exact w
    · obtain ⟨i2, j2, hi2, hj2, e2, hn2, w2⟩ := (hb (t - 1) (by omega)).mp (u.resolve_left hj0)
      have h52 := h.2.1 i2 hi2
      have ei : i2 = i := by omega
      subst ei
      have ej : j2 = j - 1 := by omega
      subst ej
      refine ⟨by omega, fun x hx => ?_⟩
      by_cases hxj : x = j
      · subst hxj
        rw [show n + 1 - 1 - x + x = n by omega]
        exact w
      · have := w2 x (by omega)
        rw [show n - 1 - (j - 1) + x = n + 1 - 1 - j + x by omega] at this
        exact this
  · have := w j (Nat.le_refl j)
    rw [show n + 1 - 1 - j + j = n by omega] at this
    exact this
  · have h5 := h.2.1 i hi
    by_cases hj0 : j = 0
    · exact Or.inl hj0
    · right
      refine (hb (t - 1) (by omega)).mpr ⟨i, j - 1, hi, by omega, by omega, by omega, fun x hx => ?_⟩
      have := w x (by omega)
      rw [show n + 1 - 1 - j + x = n - 1 - (j - 1) + x by omega] at this
      exact this
/-- a pattern ends with the n-th symbol -/
def pAt (c : Nat) (pn : Nat → Nat) (pg : Nat → Nat → Int32) (f : Nat → Int32) (n : Nat) : Prop := ∃ i, i < c ∧ pn i ≤ n ∧ ∀ x, x < pn i → ¬ wdf (pg i x) (f (n - pn i + x))
theorem sBeg_end {c : Nat} {pn : Nat → Nat} {pg : Nat → Nat → Int32} (h : pOk c pn pg) {f : Nat → Int32} {n : Nat} {bg E : Int64} (hb : sBeg c pn pg f n bg) (hE : ∀ t, t < 64 → (lb E t = true ↔ pEnd c pn t)) : (¬ bg &&& E = 0) ↔ pAt c pn pg f n := by
  rw [lb_nz]
  refine ⟨fun ⟨t, ht, z⟩ => ?_, fun ⟨i, hi, hn, w⟩ => ?_⟩
  · rw [lb_and, Bool.and_eq_true, hb t ht, hE t ht] at z
    obtain ⟨⟨i, j, hi, hj, e, hjn, w⟩, i2, hi2, e2⟩ := z
    have h1 := h.2.1 i hi
    have h2 := h.2.1 i2 hi2
    have ei : i2 = i := by omega
    subst ei
    refine ⟨i2, hi, by omega, fun x hx => ?_⟩
    have := w x (by omega)
    rw [show n - 1 - j + x = n - pn i2 + x by omega] at this
    exact this
  · have h1 := h.2.1 i hi
    have h12 := h.1
    refine ⟨5 * i + (pn i - 1), by omega, ?_⟩
    rw [lb_and, Bool.and_eq_true, hb _ (by omega), hE _ (by omega)]
    refine ⟨⟨i, pn i - 1, hi, by omega, rfl, by omega, fun x hx => ?_⟩, i, hi, by omega⟩
    have := w x (by omega)
    rw [show n - pn i + x = n - 1 - (pn i - 1) + x by omega] at this
    exact this
/-- none of the patterns is in the text -/
def wavoid (c : Nat) (pn : Nat → Nat) (pg : Nat → Nat → Int32) (n : Nat) (f : Nat → Int32) : Prop := ∀ i, i < c → ∀ p, p + pn i ≤ n → ¬ ∀ x, x < pn i → ¬ wdf (pg i x) (f (p + x))
theorem wavoid_iff {c : Nat} {pn : Nat → Nat} {pg : Nat → Nat → Int32} (h : pOk c pn pg) {n : Nat} {f : Nat → Int32} : wavoid c pn pg n f ↔ ∀ m, m < n → ¬ pAt c pn pg f (m + 1) := by
  refine ⟨fun z m hm ⟨i, hi, hn, w⟩ => z i hi (m + 1 - pn i) (by omega) w, fun z i hi p hp w => ?_⟩
  have h1 := h.2.1 i hi
  refine z (p + pn i - 1) (by omega) ⟨i, hi, by omega, fun x hx => ?_⟩
  have := w x hx
  rw [show p + pn i - 1 + 1 - pn i + x = p + x by omega]
  exact this
theorem x_avoids_r (d : Nat) {S : aq_S} {k : Nat} {hs : Int32} {a0 : Int32} (h : hT S k hs) (hp : a0 < 0 ∨ nI 4 ≤ a0) : aX (d + 3) 98 [.ref 1, .int a0] S (fun o S' => o = .inr "java/lang/IllegalArgumentException" ∧ S' = aq_thrown S) := by
  refine ar_run (Nat.le_of_ble_eq_true rfl) (fun o S1 h => aq_le_of (aq_le_thr S) h) ?_
  refine ar_ld i_X6_avoids_0 rfl rfl ?_
  refine ar_ld i_X6_avoids_1 rfl rfl ?_
  exact av_cx i_X6_avoids_2 rfl ⟨_, _, _, rfl, (h.1)⟩ (Nat.le_of_ble_eq_true rfl) (x_wordIn_no d h hp) (fun S1 h => ⟨rfl, h⟩)
theorem x_avoids (d : Nat) {S : aq_S} {k r c : Nat} {hs : Int32} {N : Nat → Nat} {G : Nat → Nat → Int32} {pn : Nat → Nat} {pg : Nat → Nat → Int32} (h : hT S k hs) (hw : hWs S 2 N G) (hp : hP S 4 c pn pg) (hk : pOk c pn pg) (hr : r < 4) (hy : ∀ j, j < N r → isY 3 (G r j)) : aX (d + 3) 98 [.ref 1, .int (nI r)] S (fun o S' => o = .inl (some (.int (bI (wavoid c pn pg (N r) (G r))))) ∧ S' = S) := by
  have hwr := hw r hr
  have hn := hwr.le
  rw [bI_cg (wavoid_iff hk)]
  have hp0 := hp
  obtain ⟨E0, acc0, hp1, -⟩ := hp0
  refine ar_run (Nat.le_of_ble_eq_true rfl) (fun o S1 h => aq_le_of (aq_le_refl S) h) ?_
  refine ar_ld i_X6_avoids_0 rfl rfl ?_
  refine ar_ld i_X6_avoids_1 rfl rfl ?_
  refine ar_cr i_X6_avoids_2 rfl ⟨_, _, _, rfl, (h.1)⟩ (Nat.le_of_ble_eq_true rfl) (x_wordIn d h hr) ?_
  refine ar_st i_X6_avoids_5 rfl rfl ?_
  refine ar_push i_X6_avoids_6 ?_
  refine ar_st i_X6_avoids_7 rfl rfl ?_
  refine ar_push i_X6_avoids_8 ?_
  refine ar_st i_X6_avoids_9 rfl rfl ?_
  suffices key : ∀ j i (bg : Int64), i + j = N r → sBeg c pn pg (G r) i bg → (∀ m, m < i → ¬ pAt c pn pg (G r) (m + 1)) → aG (d + 2) 98 (fun o S' => o = .inl (some (.int (bI (∀ m, m < N r → ¬ pAt c pn pg (G r) (m + 1))))) ∧ S' = S) 11 [(0, .ref 1), (1, .int (nI r)), (2, .ref (6 + 2 * r)), (3, .long bg), (5, .int (nI i))] [] S from key (N r) 0 0 (by omega) sBeg_0 (fun x hx => absurd hx (Nat.not_lt_zero x))
  intro j
  induction j with
  | zero =>
    intro i bg hi hb hag
    refine ar_ld i_X6_avoids_11 rfl rfl ?_
    refine ar_ld i_X6_avoids_13 rfl rfl ?_
    refine ar_cr i_X6_avoids_14 rfl ⟨_, _, _, rfl, hwr.obj⟩ (Nat.le_of_ble_eq_true rfl) (w_size (d + 1) hwr) ?_
    refine ar_ift i_X6_avoids_17 rfl (nI_le (by omega) (by omega)) ?_
    refine ar_push i_X6_avoids_63 ?_
    exact ar_ret i_X6_avoids_64 ((Or.inr rfl)) ⟨bR_t (fun m hm => hag m (by omega)), rfl⟩
  | succ j ih =>
    intro i bg hi hb hag
    refine ar_ld i_X6_avoids_11 rfl rfl ?_
    refine ar_ld i_X6_avoids_13 rfl rfl ?_
    refine ar_cr i_X6_avoids_14 rfl ⟨_, _, _, rfl, hwr.obj⟩ (Nat.le_of_ble_eq_true rfl) (w_size (d + 1) hwr) ?_
    refine ar_iff i_X6_avoids_17 rfl (nI_ge (by omega) (by omega)) ?_
    refine ar_ld i_X6_avoids_20 rfl rfl ?_
    refine ar_gf i_X6_avoids_21 (h.1) rfl ?_
    refine ar_gf i_X6_avoids_24 (h.2.1) rfl ?_
    refine ar_ld i_X6_avoids_27 rfl rfl ?_
    refine ar_ld i_X6_avoids_28 rfl rfl ?_
    refine ar_ld i_X6_avoids_29 rfl rfl ?_
    refine ar_cr i_X6_avoids_31 rfl ⟨_, _, _, rfl, hwr.obj⟩ (Nat.le_of_ble_eq_true rfl) (w_atj (d + 1) hwr i (by omega)) ?_
    refine av_ce i_X6_avoids_34 rfl ⟨_, _, _, rfl, hp1⟩ (Nat.le_of_ble_eq_true rfl) (p_follow (d + 1) (bg := bg) hp hk (hy i (by omega))) (fun z S3 hz => ?_)
    obtain ⟨hz2, e3⟩ := hz
    subst e3
    have hb2 := sBeg_step hk hb hz2
    refine ar_st i_X6_avoids_37 rfl rfl ?_
    refine ar_ld i_X6_avoids_38 rfl rfl ?_
    refine ar_ld i_X6_avoids_39 rfl rfl ?_
    refine ar_gf i_X6_avoids_40 (h.1) rfl ?_
    refine ar_gf i_X6_avoids_43 (h.2.1) rfl ?_
    refine av_ce i_X6_avoids_46 rfl ⟨_, _, _, rfl, hp1⟩ (Nat.le_of_ble_eq_true rfl) (p_ends (d + 1) hp) (fun E S4 hE => ?_)
    obtain ⟨hE2, e4⟩ := hE
    subst e4
    refine ar_ar i_X6_avoids_49 rfl ?_
    refine ar_push i_X6_avoids_50 ?_
    refine ar_ar i_X6_avoids_51 rfl ?_
    by_cases hat : pAt c pn pg (G r) (i + 1)
    · refine ar_iff i_X6_avoids_52 rfl (fun u => (sBeg_end hk hb2 hE2).mpr hat ((lg_cmp_eq _ _).mp u)) ?_
      refine ar_push i_X6_avoids_55 ?_
      exact ar_ret i_X6_avoids_56 ((Or.inl rfl)) ⟨bR_f (fun u => u i (by omega) hat), rfl⟩
    · refine ar_ift i_X6_avoids_52 rfl ((lg_cmp_eq _ _).mpr (Classical.byContradiction fun u => hat ((sBeg_end hk hb2 hE2).mp u))) ?_
      refine ar_inc i_X6_avoids_57 rfl rfl ?_
      refine ar_go i_X6_avoids_60 ?_
      have := ih (i + 1) z (by omega) hb2 (fun m hm => by
        by_cases e : m = i
        · rw [e]; exact hat
        · exact hag m (by omega))
      rw [← nI_1] at this
      exact this
theorem x_patternCount (d : Nat) {S : aq_S} {k c : Nat} {hs : Int32} {pn : Nat → Nat} {pg : Nat → Nat → Int32} (h : hT S k hs) (hp : hP S 4 c pn pg) : aX (d + 2) 97 [.ref 1] S (fun o S' => o = .inl (some (.int (nI c))) ∧ S' = S) := by
  have hp0 := hp
  obtain ⟨E0, acc0, hp1, -⟩ := hp0
  refine ar_run (Nat.le_of_ble_eq_true rfl) (fun o S1 h => aq_le_of (aq_le_refl S) h) ?_
  refine ar_ld i_X6_patternCount_0 rfl rfl ?_
  refine ar_gf i_X6_patternCount_1 (h.1) rfl ?_
  refine ar_gf i_X6_patternCount_4 (h.2.1) rfl ?_
  refine ar_cr i_X6_patternCount_7 rfl ⟨_, _, _, rfl, hp1⟩ (Nat.le_of_ble_eq_true rfl) (p_count d hp) ?_
  exact ar_ret i_X6_patternCount_10 rfl ⟨rfl, rfl⟩
theorem x_removePattern_i (d : Nat) {S : aq_S} {k c : Nat} {hs i : Int32} {pn : Nat → Nat} {pg : Nat → Nat → Int32} (h : hT S k hs) (hp : hP S 4 c pn pg) (hi : i < 0 ∨ nI c ≤ i) : aX (d + 3) 96 [.ref 1, .int i] S (fun o S' => o = .inr "java/lang/IndexOutOfBoundsException" ∧ S' = aq_thrown S) := by
  have hp0 := hp
  obtain ⟨E0, acc0, hp1, -⟩ := hp0
  refine ar_run (Nat.le_of_ble_eq_true rfl) (fun o S1 h => aq_le_of (aq_le_thr S) h) ?_
  refine ar_ld i_X6_removePattern_0 rfl rfl ?_
  refine ar_if i_X6_removePattern_1 rfl (fun c1 => ?_) (fun c1 => ?_)
  · exact ar_thr i_X6_removePattern_18 (Nat.le_of_ble_eq_true rfl) ⟨rfl, rfl⟩
  · refine ar_ld i_X6_removePattern_4 rfl rfl ?_
    refine ar_ld i_X6_removePattern_5 rfl rfl ?_
    refine ar_gf i_X6_removePattern_6 (h.1) rfl ?_
    refine ar_gf i_X6_removePattern_9 (h.2.1) rfl ?_
    refine ar_cr i_X6_removePattern_12 rfl ⟨_, _, _, rfl, hp1⟩ (Nat.le_of_ble_eq_true rfl) (p_count (d + 1) hp) ?_
    refine ar_iff i_X6_removePattern_15 rfl (fun z => absurd z (Int32.not_lt.mpr (hi.resolve_left c1))) ?_
    exact ar_thr i_X6_removePattern_18 (Nat.le_of_ble_eq_true rfl) ⟨rfl, rfl⟩
theorem x_removePattern (d : Nat) {S : aq_S} {k c i : Nat} {hs : Int32} {pn : Nat → Nat} {pg : Nat → Nat → Int32} (h : hT S k hs) (hp : hP S 4 c pn pg) (hk : pOk c pn pg) (hi : i < c) : aX (d + 3) 96 [.ref 1, .int (nI i)] S (fun o S' => o = .inl (some (.int (nI (c - 1)))) ∧ hP S' 4 (c - 1) (pnDel i pn) (pgDel i pg) ∧ aq_fr S S' (fun q => q = 4 ∨ q = 5)) := by
  have hp0 := hp
  obtain ⟨E0, acc0, hp1, -⟩ := hp0
  have hc := hk.1
  refine ar_run (Nat.le_of_ble_eq_true rfl) (fun o S1 h => h.2.2.le) ?_
  refine ar_ld i_X6_removePattern_0 rfl rfl ?_
  refine ar_iff i_X6_removePattern_1 rfl (nI_pos (by omega)) ?_
  refine ar_ld i_X6_removePattern_4 rfl rfl ?_
  refine ar_ld i_X6_removePattern_5 rfl rfl ?_
  refine ar_gf i_X6_removePattern_6 (h.1) rfl ?_
  refine ar_gf i_X6_removePattern_9 (h.2.1) rfl ?_
  refine ar_cr i_X6_removePattern_12 rfl ⟨_, _, _, rfl, hp1⟩ (Nat.le_of_ble_eq_true rfl) (p_count (d + 1) hp) ?_
  refine ar_ift i_X6_removePattern_15 rfl (nI_lt hi (by omega)) ?_
  refine ar_ld i_X6_removePattern_28 rfl rfl ?_
  refine ar_gf i_X6_removePattern_29 (h.1) rfl ?_
  refine ar_gf i_X6_removePattern_32 (h.2.1) rfl ?_
  refine ar_ld i_X6_removePattern_35 rfl rfl ?_
  refine av_cv i_X6_removePattern_36 rfl ⟨_, _, _, rfl, hp1⟩ (Nat.le_of_ble_eq_true rfl) (p_exclude d hp hk hi) (fun S2 h2 => ?_)
  have hT2 := h.fr h2.2 (by omega)
  have hp2 := h2.1
  obtain ⟨E3, acc3, hp3, -⟩ := hp2
  refine ar_ld i_X6_removePattern_39 rfl rfl ?_
  refine ar_gf i_X6_removePattern_40 (hT2.1) rfl ?_
  refine ar_gf i_X6_removePattern_43 (hT2.2.1) rfl ?_
  refine ar_cr i_X6_removePattern_46 rfl ⟨_, _, _, rfl, hp3⟩ (Nat.le_of_ble_eq_true rfl) (p_count (d + 1) h2.1) ?_
  exact ar_ret i_X6_removePattern_49 rfl ⟨rfl, h2⟩
theorem x_addPattern_r (d : Nat) {S : aq_S} {k : Nat} {hs : Int32} {a0 : Int32} (h : hT S k hs) (hp : a0 < 0 ∨ nI 4 ≤ a0) : aX (d + 3) 95 [.ref 1, .int a0] S (fun o S' => o = .inr "java/lang/IllegalArgumentException" ∧ S' = aq_thrown S) := by
  refine ar_run (Nat.le_of_ble_eq_true rfl) (fun o S1 h => aq_le_of (aq_le_thr S) h) ?_
  refine ar_ld i_X6_addPattern_0 rfl rfl ?_
  refine ar_ld i_X6_addPattern_1 rfl rfl ?_
  exact av_cx i_X6_addPattern_2 rfl ⟨_, _, _, rfl, (h.1)⟩ (Nat.le_of_ble_eq_true rfl) (x_wordIn_no d h hp) (fun S1 h => ⟨rfl, h⟩)
theorem x_addPattern_n (d : Nat) {S : aq_S} {k r c : Nat} {hs : Int32} {N : Nat → Nat} {G : Nat → Nat → Int32} {pn : Nat → Nat} {pg : Nat → Nat → Int32} (h : hT S k hs) (hw : hWs S 2 N G) (hp : hP S 4 c pn pg) (hk : pOk c pn pg) (hr : r < 4) (hb : c = 12 ∨ N r = 0 ∨ 5 < N r) : aX (d + 4) 95 [.ref 1, .int (nI r)] S (fun o S' => o = .inr "java/lang/IllegalStateException" ∧ S' = aq_thrown S) := by
  have hwr := hw r hr
  have hn := hwr.le
  have hc := hk.1
  have hp0 := hp
  obtain ⟨E0, acc0, hp1, -⟩ := hp0
  refine ar_run (Nat.le_of_ble_eq_true rfl) (fun o S1 h => aq_le_of (aq_le_thr S) h) ?_
  refine ar_ld i_X6_addPattern_0 rfl rfl ?_
  refine ar_ld i_X6_addPattern_1 rfl rfl ?_
  refine ar_cr i_X6_addPattern_2 rfl ⟨_, _, _, rfl, (h.1)⟩ (Nat.le_of_ble_eq_true rfl) (x_wordIn (d + 1) h hr) ?_
  refine ar_st i_X6_addPattern_5 rfl rfl ?_
  refine ar_ld i_X6_addPattern_6 rfl rfl ?_
  refine ar_gf i_X6_addPattern_7 (h.1) rfl ?_
  refine ar_gf i_X6_addPattern_10 (h.2.1) rfl ?_
  refine ar_cr i_X6_addPattern_13 rfl ⟨_, _, _, rfl, hp1⟩ (Nat.le_of_ble_eq_true rfl) (p_count (d + 2) hp) ?_
  refine ar_push i_X6_addPattern_16 ?_
  by_cases e12 : c = 12
  · subst e12
    refine ar_iff i_X6_addPattern_18 rfl (by decide +kernel) ?_
    exact ar_thr i_X6_addPattern_21 (Nat.le_of_ble_eq_true rfl) ⟨rfl, rfl⟩
  · refine ar_ift i_X6_addPattern_18 rfl (nI_lt (b := 12) (by omega) (by omega)) ?_
    refine ar_ld i_X6_addPattern_31 rfl rfl ?_
    refine ar_cr i_X6_addPattern_32 rfl ⟨_, _, _, rfl, hwr.obj⟩ (Nat.le_of_ble_eq_true rfl) (w_size (d + 2) hwr) ?_
    refine ar_push i_X6_addPattern_35 ?_
    by_cases e0 : N r = 0
    · rw [e0]
      refine ar_ift i_X6_addPattern_36 rfl (by decide) ?_
      exact ar_thr i_X6_addPattern_47 (Nat.le_of_ble_eq_true rfl) ⟨rfl, rfl⟩
    · refine ar_iff i_X6_addPattern_36 rfl (nI_nlt (b := 1) (by omega) (by omega)) ?_
      refine ar_ld i_X6_addPattern_39 rfl rfl ?_
      refine ar_cr i_X6_addPattern_40 rfl ⟨_, _, _, rfl, hwr.obj⟩ (Nat.le_of_ble_eq_true rfl) (w_size (d + 2) hwr) ?_
      refine ar_push i_X6_addPattern_43 ?_
      refine ar_iff i_X6_addPattern_44 rfl (nI_ge (a := 5) (by omega) (by omega)) ?_
      exact ar_thr i_X6_addPattern_47 (Nat.le_of_ble_eq_true rfl) ⟨rfl, rfl⟩
theorem x_addPattern (d : Nat) {S : aq_S} {k r c : Nat} {hs : Int32} {N : Nat → Nat} {G : Nat → Nat → Int32} {pn : Nat → Nat} {pg : Nat → Nat → Int32} (h : hT S k hs) (hw : hWs S 2 N G) (hp : hP S 4 c pn pg) (hk : pOk c pn pg) (hr : r < 4) (hc : c < 12) (h1 : 1 ≤ N r) (h5 : N r ≤ 5) : aX (d + 4) 95 [.ref 1, .int (nI r)] S (fun o S' => o = .inl (some (.int (nI c))) ∧ hP S' 4 (c + 1) (pnAdd c pn (N r)) (pgAdd c pg (G r)) ∧ aq_fr S S' (fun q => q = 4 ∨ q = 5)) := by
  have hwr := hw r hr
  have hp0 := hp
  obtain ⟨E0, acc0, hp1, -⟩ := hp0
  refine ar_run (Nat.le_of_ble_eq_true rfl) (fun o S1 h => h.2.2.le) ?_
  refine ar_ld i_X6_addPattern_0 rfl rfl ?_
  refine ar_ld i_X6_addPattern_1 rfl rfl ?_
  refine ar_cr i_X6_addPattern_2 rfl ⟨_, _, _, rfl, (h.1)⟩ (Nat.le_of_ble_eq_true rfl) (x_wordIn (d + 1) h hr) ?_
  refine ar_st i_X6_addPattern_5 rfl rfl ?_
  refine ar_ld i_X6_addPattern_6 rfl rfl ?_
  refine ar_gf i_X6_addPattern_7 (h.1) rfl ?_
  refine ar_gf i_X6_addPattern_10 (h.2.1) rfl ?_
  refine ar_cr i_X6_addPattern_13 rfl ⟨_, _, _, rfl, hp1⟩ (Nat.le_of_ble_eq_true rfl) (p_count (d + 2) hp) ?_
  refine ar_push i_X6_addPattern_16 ?_
  refine ar_ift i_X6_addPattern_18 rfl (nI_lt (b := 12) (by omega) (by omega)) ?_
  refine ar_ld i_X6_addPattern_31 rfl rfl ?_
  refine ar_cr i_X6_addPattern_32 rfl ⟨_, _, _, rfl, hwr.obj⟩ (Nat.le_of_ble_eq_true rfl) (w_size (d + 2) hwr) ?_
  refine ar_push i_X6_addPattern_35 ?_
  refine ar_iff i_X6_addPattern_36 rfl (nI_nlt (b := 1) (by omega) (by omega)) ?_
  refine ar_ld i_X6_addPattern_39 rfl rfl ?_
  refine ar_cr i_X6_addPattern_40 rfl ⟨_, _, _, rfl, hwr.obj⟩ (Nat.le_of_ble_eq_true rfl) (w_size (d + 2) hwr) ?_
  refine ar_push i_X6_addPattern_43 ?_
  refine ar_ift i_X6_addPattern_44 rfl (nI_le (b := 5) h5 (by omega)) ?_
  refine ar_ld i_X6_addPattern_57 rfl rfl ?_
  refine ar_gf i_X6_addPattern_58 (h.1) rfl ?_
  refine ar_gf i_X6_addPattern_61 (h.2.1) rfl ?_
  refine ar_ld i_X6_addPattern_64 rfl rfl ?_
  refine av_cv i_X6_addPattern_65 rfl ⟨_, _, _, rfl, hp1⟩ (Nat.le_of_ble_eq_true rfl) (p_include d hp hk hwr hc h1 h5 (by omega)) (fun S2 h2 => ?_)
  have hT2 := h.fr h2.2 (by omega)
  have hp2 := h2.1
  obtain ⟨E3, acc3, hp3, -⟩ := hp2
  refine ar_ld i_X6_addPattern_68 rfl rfl ?_
  refine ar_gf i_X6_addPattern_69 (hT2.1) rfl ?_
  refine ar_gf i_X6_addPattern_72 (hT2.2.1) rfl ?_
  refine ar_cr i_X6_addPattern_75 rfl ⟨_, _, _, rfl, hp3⟩ (Nat.le_of_ble_eq_true rfl) (p_count (d + 2) h2.1) ?_
  refine ar_push i_X6_addPattern_78 ?_
  refine ar_ar i_X6_addPattern_79 rfl ?_
  rw [nI_pred]
  exact ar_ret i_X6_addPattern_80 rfl ⟨rfl, h2⟩
end
