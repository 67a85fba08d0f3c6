/-! ===== unavoidable, minimal, the longest words: the class ===== -/
section
theorem tgL_pos {k : Nat} {al : Nat → Nat → Nat → Prop} (hk : 0 < k) (s a t : Nat) (h : tgL k al s a = some t) : 0 < t ∧ t < off k 5 := by
  unfold tgL at h
  by_cases ha : a < k
  · rw [if_pos ha] at h
    unfold tgG at h
    by_cases e : ∃ n u, n ≤ 4 ∧ u < k ^ n ∧ s = off k n + u ∧ al n u a
    · have e0 := e
      obtain ⟨n, u, h1, h2, h3, h4⟩ := e0
      have e2 := tgG_at (k := k) (al := al) (a := a) h1 h2
      rw [pif_t h4, ← h3] at e2
      unfold tgG at e2
      rw [h] at e2
      rw [Option.some.inj e2]
      exact nxS_lt hk h1 h2 ha
    · rw [pif_f e] at h
      cases h
  · rw [if_neg ha] at h
    cases h
theorem k_longA (d : Nat) {S : aq_S} {k c : Nat} {lo : Int32} {pn : Nat → Nat} {pg : Nat → Nat → Int32} (hg : kG S k (tgG k (alP lo k c pn pg))) (hA : kA S) (hpk : pOk c pn pg) (hk : k ≤ 3) (hk0 : 0 < k) : aX (d + 4) 39 [.ref 31] S (fun o S' => o = .inl (some (.int (if lon lo k c pn pg < 85 then nI (lon lo k c pn pg) else -1))) ∧ kA S' ∧ aq_fr S S' (fun q => 36 ≤ q ∧ q ≤ 38)) := by
  refine k_longest d hg.lt hA hk hk0 (tgL_pos hk0) (fun L hL => ?_) (fun hI => ?_)
  · obtain ⟨e, h⟩ := lonW_lon hpk hk0 hk hL
    rw [e, if_pos h]
  · rw [infW_lon hpk hk0 hk hI, if_neg (Nat.lt_irrefl 85)]
theorem eE_wo {c i : Nat} {pn : Nat → Nat} {E : Int64} (hc : c ≤ 12) (hi : i < c) (h : ∀ t, t < 64 → (lb E t = true ↔ ∃ j, j < c ∧ j ≠ i ∧ t + 1 = 5 * j + pn j)) : eE (nI i) c pn E := fun t ht => by
  rw [h t ht]
  exact ⟨fun ⟨j, hj, hn, e⟩ => ⟨j, hj, fun z => hn (nI_inj (by omega) (by omega) z), e⟩, fun ⟨j, hj, hn, e⟩ => ⟨j, hj, fun z => hn (by rw [z]), e⟩⟩
theorem aq_thE {S S' : aq_S} {P : Nat → Prop} {K : aq_S → Prop} (h : ∃ S2, S' = aq_thrown S2 ∧ K S2 ∧ aq_fr S S2 P) : aq_le S S' := by
  obtain ⟨S2, e, -, h⟩ := h
  rw [e]
  exact ⟨Nat.le_trans h.le.1 (aq_le_thr S2).1, Nat.le_trans h.le.2.1 (aq_le_thr S2).2.1, Nat.le_trans h.le.2.2 (aq_le_thr S2).2.2⟩
theorem nIm1 {L : Nat} (h : L < 85) : ¬ nI L = -1 := nI_nm1 L (by omega)
theorem x_isUnavoidable (d : Nat) {S : aq_S} {k c : Nat} {hs : Int32} {pn : Nat → Nat} {pg : Nat → Nat → Int32} (h : hT S k hs) (hp : hP S 4 c pn pg) (hpk : pOk c pn pg) (hq : kQ S) (hk0 : 0 < k) (hk : k ≤ 3) : aX (d + 5) 99 [.ref 1] S (fun o S' => o = .inl (some (.int (bI (lon (-1) k c pn pg < 85)))) ∧ kQ S' ∧ aq_fr S S' (fun q => 31 ≤ q ∧ q ≤ 41)) := by
  obtain ⟨⟨lt, st, ko⟩, kA0⟩ := hq
  have hp0 := hp
  obtain ⟨E0, acc0, hp1, -⟩ := hp0
  refine ar_run (Nat.le_of_ble_eq_true rfl) (fun o S1 h => h.2.2.le) ?_
  refine ar_ld i_X6_isUnavoidable_0 rfl rfl ?_
  refine ar_gf i_X6_isUnavoidable_1 (h.1) rfl ?_
  refine ar_ld i_X6_isUnavoidable_4 rfl rfl ?_
  refine ar_gf i_X6_isUnavoidable_5 (h.1) rfl ?_
  refine ar_gf i_X6_isUnavoidable_8 (h.2.1) rfl ?_
  refine ar_ld i_X6_isUnavoidable_11 rfl rfl ?_
  refine ar_gf i_X6_isUnavoidable_12 (h.1) rfl ?_
  refine ar_gf i_X6_isUnavoidable_15 (h.2.1) rfl ?_
  refine ar_ld i_X6_isUnavoidable_18 rfl rfl ?_
  refine ar_gf i_X6_isUnavoidable_19 (h.1) rfl ?_
  refine ar_gf i_X6_isUnavoidable_22 (h.2.1) rfl ?_
  refine av_ce i_X6_isUnavoidable_25 rfl ⟨_, _, _, rfl, hp1⟩ (Nat.le_of_ble_eq_true rfl) (p_ends (d + 3) hp) (fun E S2 hE => ?_)
  obtain ⟨hE2, e2⟩ := hE
  subst e2
  refine av_cv i_X6_isUnavoidable_28 rfl ⟨_, _, _, rfl, ko⟩ (Nat.le_of_ble_eq_true rfl) (k_build (d + 2) ko kA0 hp hpk (eE_ends hpk.1 hE2) hk0 hk) (fun S3 q3 => ?_)
  obtain ⟨⟨g3, a3⟩, k3⟩ := q3
  have hT3 := h.fr k3 (by omega)
  refine ar_ld i_X6_isUnavoidable_31 rfl rfl ?_
  refine ar_gf i_X6_isUnavoidable_32 (hT3.1) rfl ?_
  refine av_cr i_X6_isUnavoidable_35 rfl ⟨_, _, _, rfl, g3.1⟩ (Nat.le_of_ble_eq_true rfl) (k_longA d g3 a3 hpk hk hk0) (fun S4 q4 => ?_)
  have hQ : kQ S4 := ⟨⟨_, _, g3.1.fr q4.2 (by omega)⟩, q4.1⟩
  have hfr : aq_fr S2 S4 (fun q => 31 ≤ q ∧ q ≤ 41) := (k3.mono (fun q z => by omega)).tr (q4.2.mono (fun q z => by omega))
  by_cases hl : lon (-1) k c pn pg < 85
  · rw [if_pos hl]
    refine ar_push i_X6_isUnavoidable_38 ?_
    refine ar_iff i_X6_isUnavoidable_39 rfl (nIm1 hl) ?_
    refine ar_push i_X6_isUnavoidable_42 ?_
    refine ar_go i_X6_isUnavoidable_43 ?_
    exact ar_ret i_X6_isUnavoidable_47 ((Or.inr rfl)) ⟨by rw [bI_t hl], hQ, hfr⟩
  · rw [if_neg hl]
    refine ar_push i_X6_isUnavoidable_38 ?_
    refine ar_ift i_X6_isUnavoidable_39 rfl (rfl) ?_
    refine ar_push i_X6_isUnavoidable_46 ?_
    exact ar_ret i_X6_isUnavoidable_47 ((Or.inl rfl)) ⟨by rw [bI_f hl], hQ, hfr⟩
theorem x_longestAvoiding (d : Nat) {S : aq_S} {k c : Nat} {hs : Int32} {pn : Nat → Nat} {pg : Nat → Nat → Int32} (h : hT S k hs) (hp : hP S 4 c pn pg) (hpk : pOk c pn pg) (hq : kQ S) (hk0 : 0 < k) (hk : k ≤ 3) (hl : lon (-1) k c pn pg < 85) : aX (d + 5) 101 [.ref 1] S (fun o S' => o = .inl (some (.int (nI (lon (-1) k c pn pg)))) ∧ kQ S' ∧ aq_fr S S' (fun q => 31 ≤ q ∧ q ≤ 41)) := by
  obtain ⟨⟨lt, st, ko⟩, kA0⟩ := hq
  have hp0 := hp
  obtain ⟨E0, acc0, hp1, -⟩ := hp0
  refine ar_run (Nat.le_of_ble_eq_true rfl) (fun o S1 h => h.2.2.le) ?_
  refine ar_ld i_X6_longestAvoiding_0 rfl rfl ?_
  refine ar_gf i_X6_longestAvoiding_1 (h.1) rfl ?_
  refine ar_ld i_X6_longestAvoiding_4 rfl rfl ?_
  refine ar_gf i_X6_longestAvoiding_5 (h.1) rfl ?_
  refine ar_gf i_X6_longestAvoiding_8 (h.2.1) rfl ?_
  refine ar_ld i_X6_longestAvoiding_11 rfl rfl ?_
  refine ar_gf i_X6_longestAvoiding_12 (h.1) rfl ?_
  refine ar_gf i_X6_longestAvoiding_15 (h.2.1) rfl ?_
  refine ar_ld i_X6_longestAvoiding_18 rfl rfl ?_
  refine ar_gf i_X6_longestAvoiding_19 (h.1) rfl ?_
  refine ar_gf i_X6_longestAvoiding_22 (h.2.1) rfl ?_
  refine av_ce i_X6_longestAvoiding_25 rfl ⟨_, _, _, rfl, hp1⟩ (Nat.le_of_ble_eq_true rfl) (p_ends (d + 3) hp) (fun E S2 hE => ?_)
  obtain ⟨hE2, e2⟩ := hE
  subst e2
  refine av_cv i_X6_longestAvoiding_28 rfl ⟨_, _, _, rfl, ko⟩ (Nat.le_of_ble_eq_true rfl) (k_build (d + 2) ko kA0 hp hpk (eE_ends hpk.1 hE2) hk0 hk) (fun S3 q3 => ?_)
  obtain ⟨⟨g3, a3⟩, k3⟩ := q3
  have hT3 := h.fr k3 (by omega)
  refine ar_ld i_X6_longestAvoiding_31 rfl rfl ?_
  refine ar_gf i_X6_longestAvoiding_32 (hT3.1) rfl ?_
  refine av_cr i_X6_longestAvoiding_35 rfl ⟨_, _, _, rfl, g3.1⟩ (Nat.le_of_ble_eq_true rfl) (k_longA d g3 a3 hpk hk hk0) (fun S4 q4 => ?_)
  rw [if_pos hl]
  refine ar_st i_X6_longestAvoiding_38 rfl rfl ?_
  refine ar_ld i_X6_longestAvoiding_39 rfl rfl ?_
  refine ar_push i_X6_longestAvoiding_40 ?_
  refine ar_ift i_X6_longestAvoiding_41 rfl (nIm1 hl) ?_
  refine ar_ld i_X6_longestAvoiding_55 rfl rfl ?_
  exact ar_ret i_X6_longestAvoiding_56 rfl ⟨rfl, ⟨⟨_, _, g3.1.fr q4.2 (by omega)⟩, q4.1⟩, (k3.mono (fun q z => by omega)).tr (q4.2.mono (fun q z => by omega))⟩
theorem x_longestAvoiding_x (d : Nat) {S : aq_S} {k c : Nat} {hs : Int32} {pn : Nat → Nat} {pg : Nat → Nat → Int32} (h : hT S k hs) (hp : hP S 4 c pn pg) (hpk : pOk c pn pg) (hq : kQ S) (hk0 : 0 < k) (hk : k ≤ 3) (hl : ¬ lon (-1) k c pn pg < 85) : aX (d + 5) 101 [.ref 1] S (fun o S' => o = .inr "java/util/NoSuchElementException" ∧ ∃ S2, S' = aq_thrown S2 ∧ kQ S2 ∧ aq_fr S S2 (fun q => 31 ≤ q ∧ q ≤ 41)) := by
  obtain ⟨⟨lt, st, ko⟩, kA0⟩ := hq
  have hp0 := hp
  obtain ⟨E0, acc0, hp1, -⟩ := hp0
  refine ar_run (Nat.le_of_ble_eq_true rfl) (fun o S1 h => aq_thE h.2) ?_
  refine ar_ld i_X6_longestAvoiding_0 rfl rfl ?_
  refine ar_gf i_X6_longestAvoiding_1 (h.1) rfl ?_
  refine ar_ld i_X6_longestAvoiding_4 rfl rfl ?_
  refine ar_gf i_X6_longestAvoiding_5 (h.1) rfl ?_
  refine ar_gf i_X6_longestAvoiding_8 (h.2.1) rfl ?_
  refine ar_ld i_X6_longestAvoiding_11 rfl rfl ?_
  refine ar_gf i_X6_longestAvoiding_12 (h.1) rfl ?_
  refine ar_gf i_X6_longestAvoiding_15 (h.2.1) rfl ?_
  refine ar_ld i_X6_longestAvoiding_18 rfl rfl ?_
  refine ar_gf i_X6_longestAvoiding_19 (h.1) rfl ?_
  refine ar_gf i_X6_longestAvoiding_22 (h.2.1) rfl ?_
  refine av_ce i_X6_longestAvoiding_25 rfl ⟨_, _, _, rfl, hp1⟩ (Nat.le_of_ble_eq_true rfl) (p_ends (d + 3) hp) (fun E S2 hE => ?_)
  obtain ⟨hE2, e2⟩ := hE
  subst e2
  refine av_cv i_X6_longestAvoiding_28 rfl ⟨_, _, _, rfl, ko⟩ (Nat.le_of_ble_eq_true rfl) (k_build (d + 2) ko kA0 hp hpk (eE_ends hpk.1 hE2) hk0 hk) (fun S3 q3 => ?_)
  obtain ⟨⟨g3, a3⟩, k3⟩ := q3
  have hT3 := h.fr k3 (by omega)
  refine ar_ld i_X6_longestAvoiding_31 rfl rfl ?_
  refine ar_gf i_X6_longestAvoiding_32 (hT3.1) rfl ?_
  refine av_cr i_X6_longestAvoiding_35 rfl ⟨_, _, _, rfl, g3.1⟩ (Nat.le_of_ble_eq_true rfl) (k_longA d g3 a3 hpk hk hk0) (fun S4 q4 => ?_)
  rw [if_neg hl]
  refine ar_st i_X6_longestAvoiding_38 rfl rfl ?_
  refine ar_ld i_X6_longestAvoiding_39 rfl rfl ?_
  refine ar_push i_X6_longestAvoiding_40 ?_
  refine ar_iff i_X6_longestAvoiding_41 rfl (fun z => z rfl) ?_
  have hQ : kQ S4 := ⟨⟨_, _, g3.1.fr q4.2 (by omega)⟩, q4.1⟩
  have hfr : aq_fr S2 S4 (fun q => 31 ≤ q ∧ q ≤ 41) := (k3.mono (fun q z => by omega)).tr (q4.2.mono (fun q z => by omega))
  exact ar_thr i_X6_longestAvoiding_44 (Nat.le_of_ble_eq_true rfl) ⟨rfl, _, rfl, hQ, hfr⟩
theorem x_isMinimal (d : Nat) {S : aq_S} {k c : Nat} {hs : Int32} {pn : Nat → Nat} {pg : Nat → Nat → Int32} (h : hT S k hs) (hp : hP S 4 c pn pg) (hpk : pOk c pn pg) (hq : kQ S) (hk0 : 0 < k) (hk : k ≤ 3) : aX (d + 5) 100 [.ref 1] S (fun o S' => o = .inl (some (.int (bI (mini k c pn pg)))) ∧ kQ S' ∧ aq_fr S S' (fun q => 31 ≤ q ∧ q ≤ 41)) := by
  have hc := hpk.1
  have ph : ∀ j i (S1 : aq_S), i + j = c → lon (-1) k c pn pg < 85 → (∀ x, x < i → ¬ lon (nI x) k c pn pg < 85) → hT S1 k hs → hP S1 4 c pn pg → kQ S1 → aq_fr S S1 (fun q => 31 ≤ q ∧ q ≤ 41) → aG (d + 4) 100 (fun o S' => o = .inl (some (.int (bI (mini k c pn pg)))) ∧ kQ S' ∧ aq_fr S S' (fun q => 31 ≤ q ∧ q ≤ 41)) 46 [(0, .ref 1), (1, .int (nI i))] [] S1 := by
    intro j
    induction j with
    | zero =>
      intro i S1 hi h0 hx h hp hq hfr
      have ei : i = c := hi
      have hp0 := hp
      obtain ⟨E0, acc0, hp1, -⟩ := hp0
      refine ar_ld i_X6_isMinimal_46 rfl rfl ?_
      refine ar_ld i_X6_isMinimal_47 rfl rfl ?_
      refine ar_gf i_X6_isMinimal_48 (h.1) rfl ?_
      refine ar_gf i_X6_isMinimal_51 (h.2.1) rfl ?_
      refine ar_cr i_X6_isMinimal_54 rfl ⟨_, _, _, rfl, hp1⟩ (Nat.le_of_ble_eq_true rfl) (p_count (d + 3) hp) ?_
      refine ar_ift i_X6_isMinimal_57 rfl (nI_le (show c ≤ i by omega) (by omega)) ?_
      refine ar_push i_X6_isMinimal_111 ?_
      exact ar_ret i_X6_isMinimal_112 ((Or.inr rfl)) ⟨by rw [bI_t ⟨h0, fun x hx2 => hx x (by omega)⟩], hq, hfr⟩
    | succ j ih =>
      intro i S1 hi h0 hx h hp hq hfr
      obtain ⟨⟨lt, st, ko⟩, kA0⟩ := hq
      have hp0 := hp
      obtain ⟨E0, acc0, hp1, -⟩ := hp0
      refine ar_ld i_X6_isMinimal_46 rfl rfl ?_
      refine ar_ld i_X6_isMinimal_47 rfl rfl ?_
      refine ar_gf i_X6_isMinimal_48 (h.1) rfl ?_
      refine ar_gf i_X6_isMinimal_51 (h.2.1) rfl ?_
      refine ar_cr i_X6_isMinimal_54 rfl ⟨_, _, _, rfl, hp1⟩ (Nat.le_of_ble_eq_true rfl) (p_count (d + 3) hp) ?_
      refine ar_iff i_X6_isMinimal_57 rfl (nI_ge (show i < c by omega) (by omega)) ?_
      refine ar_ld i_X6_isMinimal_60 rfl rfl ?_
      refine ar_gf i_X6_isMinimal_61 (h.1) rfl ?_
      refine ar_ld i_X6_isMinimal_64 rfl rfl ?_
      refine ar_gf i_X6_isMinimal_65 (h.1) rfl ?_
      refine ar_gf i_X6_isMinimal_68 (h.2.1) rfl ?_
      refine ar_ld i_X6_isMinimal_71 rfl rfl ?_
      refine ar_gf i_X6_isMinimal_72 (h.1) rfl ?_
      refine ar_gf i_X6_isMinimal_75 (h.2.1) rfl ?_
      refine ar_ld i_X6_isMinimal_78 rfl rfl ?_
      refine ar_gf i_X6_isMinimal_79 (h.1) rfl ?_
      refine ar_gf i_X6_isMinimal_82 (h.2.1) rfl ?_
      refine ar_ld i_X6_isMinimal_85 rfl rfl ?_
      refine av_ce i_X6_isMinimal_86 rfl ⟨_, _, _, rfl, hp1⟩ (Nat.le_of_ble_eq_true rfl) (p_endsWithout (d + 3) hp hpk (show i < c by omega)) (fun E S2 hE => ?_)
      obtain ⟨hE2, e2⟩ := hE
      subst e2
      refine av_cv i_X6_isMinimal_89 rfl ⟨_, _, _, rfl, ko⟩ (Nat.le_of_ble_eq_true rfl) (k_build (d + 2) ko kA0 hp hpk (eE_wo hpk.1 (show i < c by omega) hE2) hk0 hk) (fun S3 q3 => ?_)
      obtain ⟨⟨g3, a3⟩, k3⟩ := q3
      have hT3 := h.fr k3 (by omega)
      refine ar_ld i_X6_isMinimal_92 rfl rfl ?_
      refine ar_gf i_X6_isMinimal_93 (hT3.1) rfl ?_
      refine av_cr i_X6_isMinimal_96 rfl ⟨_, _, _, rfl, g3.1⟩ (Nat.le_of_ble_eq_true rfl) (k_longA d g3 a3 hpk hk hk0) (fun S4 q4 => ?_)
      have hQ : kQ S4 := ⟨⟨_, _, g3.1.fr q4.2 (by omega)⟩, q4.1⟩
      have hfr2 : aq_fr S2 S4 (fun q => 31 ≤ q ∧ q ≤ 41) := (k3.mono (fun q z => by omega)).tr (q4.2.mono (fun q z => by omega))
      by_cases hl : lon (nI i) k c pn pg < 85
      · rw [if_pos hl]
        refine ar_push i_X6_isMinimal_99 ?_
        refine ar_iff i_X6_isMinimal_100 rfl (nIm1 hl) ?_
        refine ar_push i_X6_isMinimal_103 ?_
        exact ar_ret i_X6_isMinimal_104 ((Or.inl rfl)) ⟨by rw [bI_f (fun z => z.2 i (by omega) hl)], hQ, hfr.tr hfr2⟩
      · rw [if_neg hl]
        refine ar_push i_X6_isMinimal_99 ?_
        refine ar_ift i_X6_isMinimal_100 rfl (rfl) ?_
        refine ar_inc i_X6_isMinimal_105 rfl rfl ?_
        refine ar_go i_X6_isMinimal_108 ?_
        rw [nI_1]
        exact ih (i + 1) S4 (by omega) h0 (fun x hx2 => by
          by_cases e : x = i
          · rw [e]; exact hl
          · exact hx x (by omega)) (h.fr hfr2 (by omega)) (hp.fr hfr2 (by omega) (by omega)) hQ (hfr.tr hfr2)
  obtain ⟨⟨lt, st, ko⟩, kA0⟩ := hq
  have hp0 := hp
  obtain ⟨E0, acc0, hp1, -⟩ := hp0
  refine ar_run (Nat.le_of_ble_eq_true rfl) (fun o S1 h => h.2.2.le) ?_
  refine ar_ld i_X6_isMinimal_0 rfl rfl ?_
  refine ar_gf i_X6_isMinimal_1 (h.1) rfl ?_
  refine ar_ld i_X6_isMinimal_4 rfl rfl ?_
  refine ar_gf i_X6_isMinimal_5 (h.1) rfl ?_
  refine ar_gf i_X6_isMinimal_8 (h.2.1) rfl ?_
  refine ar_ld i_X6_isMinimal_11 rfl rfl ?_
  refine ar_gf i_X6_isMinimal_12 (h.1) rfl ?_
  refine ar_gf i_X6_isMinimal_15 (h.2.1) rfl ?_
  refine ar_ld i_X6_isMinimal_18 rfl rfl ?_
  refine ar_gf i_X6_isMinimal_19 (h.1) rfl ?_
  refine ar_gf i_X6_isMinimal_22 (h.2.1) rfl ?_
  refine av_ce i_X6_isMinimal_25 rfl ⟨_, _, _, rfl, hp1⟩ (Nat.le_of_ble_eq_true rfl) (p_ends (d + 3) hp) (fun E S2 hE => ?_)
  obtain ⟨hE2, e2⟩ := hE
  subst e2
  refine av_cv i_X6_isMinimal_28 rfl ⟨_, _, _, rfl, ko⟩ (Nat.le_of_ble_eq_true rfl) (k_build (d + 2) ko kA0 hp hpk (eE_ends hpk.1 hE2) hk0 hk) (fun S3 q3 => ?_)
  obtain ⟨⟨g3, a3⟩, k3⟩ := q3
  have hT3 := h.fr k3 (by omega)
  refine ar_ld i_X6_isMinimal_31 rfl rfl ?_
  refine ar_gf i_X6_isMinimal_32 (hT3.1) rfl ?_
  refine av_cr i_X6_isMinimal_35 rfl ⟨_, _, _, rfl, g3.1⟩ (Nat.le_of_ble_eq_true rfl) (k_longA d g3 a3 hpk hk hk0) (fun S4 q4 => ?_)
  have hQ : kQ S4 := ⟨⟨_, _, g3.1.fr q4.2 (by omega)⟩, q4.1⟩
  have hfr : aq_fr S2 S4 (fun q => 31 ≤ q ∧ q ≤ 41) := (k3.mono (fun q z => by omega)).tr (q4.2.mono (fun q z => by omega))
  by_cases hl : lon (-1) k c pn pg < 85
  · rw [if_pos hl]
    refine ar_push i_X6_isMinimal_38 ?_
    refine ar_ift i_X6_isMinimal_39 rfl (nIm1 hl) ?_
    refine ar_push i_X6_isMinimal_44 ?_
    refine ar_st i_X6_isMinimal_45 rfl rfl ?_
    exact ph c 0 S4 (by omega) hl (fun x hx => absurd hx (Nat.not_lt_zero x)) (h.fr hfr (by omega)) (hp.fr hfr (by omega) (by omega)) hQ hfr
  · rw [if_neg hl]
    refine ar_push i_X6_isMinimal_38 ?_
    refine ar_iff i_X6_isMinimal_39 rfl (fun z => z rfl) ?_
    refine ar_push i_X6_isMinimal_42 ?_
    exact ar_ret i_X6_isMinimal_43 ((Or.inl rfl)) ⟨by rw [bI_f (fun z => hl z.1)], hQ, hfr⟩
end
