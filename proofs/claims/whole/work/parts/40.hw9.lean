/-! ===== feed, parseWord, errorPosition, newRow ===== -/
section
theorem x_feed_no (d : Nat) {S : aq_S} {x : Int32} (hx : x < 33 ∨ nI 127 ≤ x) : aX (d + 3) 69 [.ref 1, .int x] S (fun o S' => o = .inr "java/lang/IllegalArgumentException" ∧ S' = aq_thrown S) := by
  refine ar_run (Nat.le_of_ble_eq_true rfl) (fun o S1 h => aq_le_of (aq_le_thr S) h) ?_
  refine ar_ld i_X6_feed_0 rfl rfl ?_
  refine ar_push i_X6_feed_1 ?_
  refine ar_if i_X6_feed_3 rfl (fun c3 => ?_) (fun c3 => ?_)
  · exact ar_thr i_X6_feed_12 (Nat.le_of_ble_eq_true rfl) ⟨rfl, rfl⟩
  · refine ar_ld i_X6_feed_6 rfl rfl ?_
    refine ar_push i_X6_feed_7 ?_
    refine ar_iff i_X6_feed_9 rfl (fun z => absurd (Int32.le_trans (hx.resolve_left c3) z) (by decide +kernel)) ?_
    exact ar_thr i_X6_feed_12 (Nat.le_of_ble_eq_true rfl) ⟨rfl, rfl⟩
theorem x_feed_full (d : Nat) {S : aq_S} {k n x : Nat} {hs err : Int32} {inp : Nat → Nat} (h : hT S k hs) (hi : hI S n inp err) (hx : 33 ≤ x) (hx2 : x ≤ 126) (hn : n = 30) : aX (d + 3) 69 [.ref 1, .int (nI x)] S (fun o S' => o = .inr "java/lang/IllegalStateException" ∧ S' = aq_thrown S) := by
  obtain ⟨m, g, tl, oc, is, mr, mc, F, O, h1, h2, h3, h4⟩ := hi
  subst hn
  refine ar_run (Nat.le_of_ble_eq_true rfl) (fun o S1 h => aq_le_of (aq_le_thr S) h) ?_
  refine ar_ld i_X6_feed_0 rfl rfl ?_
  refine ar_push i_X6_feed_1 ?_
  refine ar_iff i_X6_feed_3 rfl (nI_nlt (b := 33) hx (by omega)) ?_
  refine ar_ld i_X6_feed_6 rfl rfl ?_
  refine ar_push i_X6_feed_7 ?_
  refine ar_ift i_X6_feed_9 rfl (nI_le (b := 126) hx2 (by omega)) ?_
  refine ar_ld i_X6_feed_22 rfl rfl ?_
  refine ar_gf i_X6_feed_23 (h.1) rfl ?_
  refine ar_ld i_X6_feed_26 rfl rfl ?_
  have call : aX (d + 2) 27 [.ref 26, .int (nI x)] S (fun o S' => o = .inl (some (.int 0)) ∧ S' = S) := by
    refine ar_run (Nat.le_of_ble_eq_true rfl) (fun o S1 h => aq_le_of (aq_le_refl S) h) ?_
    refine ar_ld i_X3_accept_0 rfl rfl ?_
    refine ar_gf i_X3_accept_1 (h1.1) rfl ?_
    refine ar_iff i_X3_accept_4 rfl (by decide) ?_
    refine ar_ld i_X3_accept_7 rfl rfl ?_
    refine ar_gf i_X3_accept_8 (h1.1) rfl ?_
    refine ar_ld i_X3_accept_11 rfl rfl ?_
    refine ar_gf i_X3_accept_12 (h1.1) rfl ?_
    refine ar_len i_X3_accept_15 (by decide) (h1.2.1) ?_
    refine ar_iff i_X3_accept_16 rfl (nI_nlt (a := 30) (b := 30) (by omega) (by omega)) ?_
    refine ar_push i_X3_accept_19 ?_
    exact ar_ret i_X3_accept_20 ((Or.inl rfl)) ⟨rfl, rfl⟩
  refine ar_cr i_X6_feed_27 rfl ⟨_, _, _, rfl, h1.1⟩ (Nat.le_of_ble_eq_true rfl) (call) ?_
  refine ar_iff i_X6_feed_30 rfl (fun z => z rfl) ?_
  exact ar_thr i_X6_feed_33 (Nat.le_of_ble_eq_true rfl) ⟨rfl, rfl⟩
theorem x_feed (d : Nat) {S : aq_S} {k n x : Nat} {hs err : Int32} {inp : Nat → Nat} (h : hT S k hs) (hi : hI S n inp err) (hx : 33 ≤ x) (hx2 : x ≤ 126) (hn : n < 30) : aX (d + 3) 69 [.ref 1, .int (nI x)] S (fun o S' => o = .inl (some (.int (nI (n + 1)))) ∧ hI S' (n + 1) (updN inp n x) err ∧ aq_fr S S' (fun q => 26 ≤ q ∧ q ≤ 30)) := by
  obtain ⟨m, g, tl, oc, is, mr, mc, F, O, h1, h2, h3, h4⟩ := hi
  refine ar_run (Nat.le_of_ble_eq_true rfl) (fun o S1 h => h.2.2.le) ?_
  refine ar_ld i_X6_feed_0 rfl rfl ?_
  refine ar_push i_X6_feed_1 ?_
  refine ar_iff i_X6_feed_3 rfl (nI_nlt (b := 33) hx (by omega)) ?_
  refine ar_ld i_X6_feed_6 rfl rfl ?_
  refine ar_push i_X6_feed_7 ?_
  refine ar_ift i_X6_feed_9 rfl (nI_le (b := 126) hx2 (by omega)) ?_
  refine ar_ld i_X6_feed_22 rfl rfl ?_
  refine ar_gf i_X6_feed_23 (h.1) rfl ?_
  refine ar_ld i_X6_feed_26 rfl rfl ?_
  have call : aX (d + 2) 27 [.ref 26, .int (nI x)] S (fun o S' => o = .inl (some (.int 1)) ∧ rJ S' (n + 1) err m g tl oc is mr mc (upd F n (nI x)) O ∧ aq_fr S S' (fun q => 26 ≤ q ∧ q ≤ 30)) := by
    refine ar_run (Nat.le_of_ble_eq_true rfl) (fun o S1 h => h.2.2.le) ?_
    refine ar_ld i_X3_accept_0 rfl rfl ?_
    refine ar_gf i_X3_accept_1 (h1.1) rfl ?_
    refine ar_iff i_X3_accept_4 rfl (nI_pos (by omega)) ?_
    refine ar_ld i_X3_accept_7 rfl rfl ?_
    refine ar_gf i_X3_accept_8 (h1.1) rfl ?_
    refine ar_ld i_X3_accept_11 rfl rfl ?_
    refine ar_gf i_X3_accept_12 (h1.1) rfl ?_
    refine ar_len i_X3_accept_15 (by decide) (h1.2.1) ?_
    refine ar_ift i_X3_accept_16 rfl (nI_lt (b := 30) hn (by omega)) ?_
    refine ar_ld i_X3_accept_21 rfl rfl ?_
    refine ar_gf i_X3_accept_22 (h1.1) rfl ?_
    refine ar_ld i_X3_accept_25 rfl rfl ?_
    refine ar_gf i_X3_accept_26 (h1.1) rfl ?_
    refine ar_ld i_X3_accept_29 rfl rfl ?_
    refine av_sti i_X3_accept_30 (by omega) (h1.2.1) (by omega) (by omega) (fun S1 g1 k1 => ?_)
    have j1 : rJ S1 n err m g tl oc is mr mc (upd F n (nI x)) O := ⟨(k1.2.2.2 26 (by omega)).trans h1.1, g1, h1.2.2.1.fr k1 (by omega) (by omega), (k1.2.2.2 30 (by omega)).trans h1.2.2.2⟩
    refine ar_ld i_X3_accept_31 rfl rfl ?_
    refine ar_ar i_X3_accept_32 rfl ?_
    refine ar_gf i_X3_accept_33 (j1.1) rfl ?_
    refine ar_push i_X3_accept_36 ?_
    refine ar_ar i_X3_accept_37 rfl ?_
    rw [nI_1]
    refine av_pf i_X3_accept_38 (j1.1) (Nat.le_of_ble_eq_true rfl) (rfl) rfl (fun S2 g2 k2 => ?_)
    refine ar_push i_X3_accept_41 ?_
    exact ar_ret i_X3_accept_42 ((Or.inr rfl)) ⟨rfl, j1.ob g2 k2, (k1.mono (fun q z => by omega)).tr (k2.mono (fun q z => by omega))⟩
  refine av_cr i_X6_feed_27 rfl ⟨_, _, _, rfl, h1.1⟩ (Nat.le_of_ble_eq_true rfl) (call) (fun S2 q2 => ?_)
  refine ar_ift i_X6_feed_30 rfl (by decide) ?_
  refine ar_ld i_X6_feed_43 rfl rfl ?_
  refine ar_gf i_X6_feed_44 (h.1.fr q2.2 (by omega)) rfl ?_
  have call2 : aX (d + 2) 23 [.ref 26] S2 (fun o S' => o = .inl (some (.int (nI (n + 1)))) ∧ S' = S2) := by
    refine ar_run (Nat.le_of_ble_eq_true rfl) (fun o S1 h => aq_le_of (aq_le_refl S2) h) ?_
    refine ar_ld i_X3_inputSize_0 rfl rfl ?_
    refine ar_gf i_X3_inputSize_1 (q2.1.1) rfl ?_
    exact ar_ret i_X3_inputSize_4 rfl ⟨rfl, rfl⟩
  refine ar_cr i_X6_feed_47 rfl ⟨_, _, _, rfl, q2.1.1⟩ (Nat.le_of_ble_eq_true rfl) (call2) ?_
  refine ar_ret i_X6_feed_50 rfl ⟨rfl, ⟨m, g, tl, oc, is, mr, mc, _, O, q2.1, fun j hj => ?_, hn, fun j hj => ?_⟩, q2.2⟩
  · unfold updN
    by_cases e : j = n
    · rw [e, upd_eq, if_pos rfl]
    · rw [upd_ne e, if_neg e]
      exact h2 j (by omega)
  · unfold updN
    split
    · omega
    · exact h4 j (by omega)
theorem r_errorOffset (d : Nat) {S : aq_S} {n : Nat} {inp : Nat → Nat} {err : Int32} (hi : hI S n inp err) : aX (d + 1) 24 [.ref 26] S (fun o S' => o = .inl (some (.int err)) ∧ S' = S) := by
  obtain ⟨m, g, tl, oc, is, mr, mc, F, O, h1, h2⟩ := hi
  refine ar_run (Nat.le_of_ble_eq_true rfl) (fun o S1 h => aq_le_of (aq_le_refl S) h) ?_
  refine ar_ld i_X3_errorOffset_0 rfl rfl ?_
  refine ar_gf i_X3_errorOffset_1 (h1.1) rfl ?_
  exact ar_ret i_X3_errorOffset_4 rfl ⟨rfl, rfl⟩
theorem x_errorPosition_no (d : Nat) {S : aq_S} {k n : Nat} {hs : Int32} {inp : Nat → Nat} (h : hT S k hs) (hi : hI S n inp (-1)) : aX (d + 2) 71 [.ref 1] S (fun o S' => o = .inr "java/util/NoSuchElementException" ∧ S' = aq_thrown S) := by
  have hi0 := hi
  obtain ⟨m, g, tl, oc, is, mr, mc, F, O, h1, h2⟩ := hi0
  refine ar_run (Nat.le_of_ble_eq_true rfl) (fun o S1 h => aq_le_of (aq_le_thr S) h) ?_
  refine ar_ld i_X6_errorPosition_0 rfl rfl ?_
  refine ar_gf i_X6_errorPosition_1 (h.1) rfl ?_
  refine ar_cr i_X6_errorPosition_4 rfl ⟨_, _, _, rfl, h1.1⟩ (Nat.le_of_ble_eq_true rfl) (r_errorOffset d hi) ?_
  refine ar_push i_X6_errorPosition_7 ?_
  refine ar_iff i_X6_errorPosition_8 rfl (fun z => z rfl) ?_
  exact ar_thr i_X6_errorPosition_11 (Nat.le_of_ble_eq_true rfl) ⟨rfl, rfl⟩
theorem x_errorPosition (d : Nat) {S : aq_S} {k n : Nat} {hs err : Int32} {inp : Nat → Nat} (h : hT S k hs) (hi : hI S n inp err) (he : ¬ err = -1) : aX (d + 2) 71 [.ref 1] S (fun o S' => o = .inl (some (.int err)) ∧ S' = S) := by
  have hi0 := hi
  obtain ⟨m, g, tl, oc, is, mr, mc, F, O, h1, h2⟩ := hi0
  refine ar_run (Nat.le_of_ble_eq_true rfl) (fun o S1 h => aq_le_of (aq_le_refl S) h) ?_
  refine ar_ld i_X6_errorPosition_0 rfl rfl ?_
  refine ar_gf i_X6_errorPosition_1 (h.1) rfl ?_
  refine ar_cr i_X6_errorPosition_4 rfl ⟨_, _, _, rfl, h1.1⟩ (Nat.le_of_ble_eq_true rfl) (r_errorOffset d hi) ?_
  refine ar_push i_X6_errorPosition_7 ?_
  refine ar_ift i_X6_errorPosition_8 rfl (he) ?_
  refine ar_ld i_X6_errorPosition_21 rfl rfl ?_
  refine ar_gf i_X6_errorPosition_22 (h.1) rfl ?_
  refine ar_cr i_X6_errorPosition_25 rfl ⟨_, _, _, rfl, h1.1⟩ (Nat.le_of_ble_eq_true rfl) (r_errorOffset d hi) ?_
  exact ar_ret i_X6_errorPosition_28 rfl ⟨rfl, rfl⟩
theorem x_parseWord_r (d : Nat) {S : aq_S} {k : Nat} {hs : Int32} {a0 : Int32} (h : hT S k hs) (hp : a0 < 0 ∨ nI 4 ≤ a0) : aX (d + 3) 70 [.ref 1, .int a0] S (fun o S' => o = .inr "java/lang/IllegalArgumentException" ∧ S' = aq_thrown S) := by
  refine ar_run (Nat.le_of_ble_eq_true rfl) (fun o S1 h => aq_le_of (aq_le_thr S) h) ?_
  refine ar_ld i_X6_parseWord_0 rfl rfl ?_
  refine ar_ld i_X6_parseWord_1 rfl rfl ?_
  exact av_cx i_X6_parseWord_2 rfl ⟨_, _, _, rfl, (h.1)⟩ (Nat.le_of_ble_eq_true rfl) (x_wordIn_no d h hp) (fun S1 h => ⟨rfl, h⟩)
/-- a text is read: its error -/
def psE (k n : Nat) (inp : Nat → Nat) : Option Nat := psErr n (psRun k inp n 0 ps0)
theorem psRun_some {k n : Nat} {inp : Nat → Nat} : ∀ j i p q, i + j = n → (psRun k inp j i p).2 = some q → psRun k inp j i p = (n, some q)
  | 0, i, p, q, hi, h => by
    have e : some p = some q := h
    cases e
    show (i, some p) = _
    rw [show i = n by omega]
  | j + 1, i, p, q, hi, h => by
    cases hst : psStep k (inp i) p with
    | none =>
      rw [psRun_n hst] at h
      cases h
    | some p' =>
      rw [psRun_s hst] at h ⊢
      exact psRun_some j (i + 1) p' q (by omega) h
theorem x_parseWord_e (d : Nat) {S : aq_S} {k r n e : Nat} {hs err : Int32} {inp : Nat → Nat} (h : hT S k hs) (hk : k ≤ 3) (hi : hI S n inp err) (hr : r < 4) (he : psE k n inp = some e) : aX (d + 6) 70 [.ref 1, .int (nI r)] S (fun o S' => o = .inr "java/lang/IllegalStateException" ∧ ∃ S1, S' = aq_thrown S1 ∧ hI S1 0 inp (nI e) ∧ aq_fr S S1 (fun q => 26 ≤ q ∧ q ≤ 30)) := by
  have hi0 := hi
  obtain ⟨m, g, tl, oc, is, mr, mc, F, O, h1, h2⟩ := hi0
  refine ar_run (Nat.le_of_ble_eq_true rfl) (fun o S1 h => by
    obtain ⟨-, S2, e1, -, e2⟩ := h
    subst e1
    have a := e2.le
    have b := aq_le_thr S2
    exact ⟨Nat.le_trans a.1 b.1, Nat.le_trans a.2.1 b.2.1, Nat.le_trans a.2.2 b.2.2⟩) ?_
  refine ar_ld i_X6_parseWord_0 rfl rfl ?_
  refine ar_ld i_X6_parseWord_1 rfl rfl ?_
  refine ar_cr i_X6_parseWord_2 rfl ⟨_, _, _, rfl, (h.1)⟩ (Nat.le_of_ble_eq_true rfl) (x_wordIn (d + 3) h hr) ?_
  refine ar_st i_X6_parseWord_5 rfl rfl ?_
  refine ar_ld i_X6_parseWord_6 rfl rfl ?_
  refine ar_gf i_X6_parseWord_7 (h.1) rfl ?_
  refine ar_ld i_X6_parseWord_10 rfl rfl ?_
  refine ar_gf i_X6_parseWord_11 (h.1) rfl ?_
  refine ar_gf i_X6_parseWord_14 (h.2.1) rfl ?_
  refine ar_call i_X6_parseWord_17 rfl ⟨_, _, _, rfl, h1.1⟩ (Nat.le_of_ble_eq_true rfl) (r_read d hi hk) (fun v S1 hq => ?_) (fun E S1 hq => ?_)
  · obtain ⟨q1, q2, q3⟩ := hq
    obtain ⟨q4, q5⟩ := q1 e he
    cases q4
    refine ar_iff i_X6_parseWord_20 rfl (fun z => z rfl) ?_
    exact ar_thr i_X6_parseWord_23 (Nat.le_of_ble_eq_true rfl) ⟨rfl, S1, rfl, q5, q3⟩
  · obtain ⟨q1, q2, q3⟩ := hq
    obtain ⟨q4, q5⟩ := q1 e he
    cases q4
theorem rJ.hI0 {S : aq_S} {m : Nat} {err tl oc is mr mc : Int32} {g F O : Nat → Int32} (inp : Nat → Nat) (h : rJ S 0 err m g tl oc is mr mc F O) : hI S 0 inp err := ⟨m, g, tl, oc, is, mr, mc, F, O, h, fun j hj => absurd hj (Nat.not_lt_zero j), Nat.zero_le _, fun j hj => absurd hj (Nat.not_lt_zero j)⟩
theorem psE_some {k n : Nat} {inp : Nat → Nat} (h : psE k n inp = none) : ∃ p, psRun k inp n 0 ps0 = (n, some p) ∧ ¬ 0 < p.2.1 := by
  cases hq : (psRun k inp n 0 ps0).2 with
  | none =>
    have : psErr n (psRun k inp n 0 ps0) = some (psRun k inp n 0 ps0).1 := by
      unfold psErr
      rw [hq]
      rfl
    unfold psE at h
    rw [this] at h
    cases h
  | some p =>
    have hr := psRun_some (n := n) n 0 ps0 p (by omega) hq
    refine ⟨p, hr, fun z => ?_⟩
    unfold psE psErr at h
    rw [hr] at h
    have h' : (if 0 < p.2.1 then some n else none) = none := h
    rw [if_pos z] at h'
    cases h'
theorem x_parseWord_l (d : Nat) {S : aq_S} {k r n : Nat} {hs err : Int32} {inp : Nat → Nat} {p : pS} (h : hT S k hs) (hk : k ≤ 3) (hi : hI S n inp err) (hr : r < 4) (hp : psRun k inp n 0 ps0 = (n, some p)) (ho : ¬ 0 < p.2.1) (ht : p.1.2.2 = 1) : aX (d + 6) 70 [.ref 1, .int (nI r)] S (fun o S' => o = .inr "java/lang/IllegalStateException" ∧ ∃ S1, S' = aq_thrown S1 ∧ hI S1 0 inp err ∧ aq_fr S S1 (fun q => 26 ≤ q ∧ q ≤ 30)) := by
  have hi0 := hi
  obtain ⟨m, g, tl, oc, is, mr, mc, F, O, h1, h2⟩ := hi0
  refine ar_run (Nat.le_of_ble_eq_true rfl) (fun o S1 h => by
    obtain ⟨-, S2, e1, -, e2⟩ := h
    subst e1
    have a := e2.le
    have b := aq_le_thr S2
    exact ⟨Nat.le_trans a.1 b.1, Nat.le_trans a.2.1 b.2.1, Nat.le_trans a.2.2 b.2.2⟩) ?_
  refine ar_ld i_X6_parseWord_0 rfl rfl ?_
  refine ar_ld i_X6_parseWord_1 rfl rfl ?_
  refine ar_cr i_X6_parseWord_2 rfl ⟨_, _, _, rfl, (h.1)⟩ (Nat.le_of_ble_eq_true rfl) (x_wordIn (d + 3) h hr) ?_
  refine ar_st i_X6_parseWord_5 rfl rfl ?_
  refine ar_ld i_X6_parseWord_6 rfl rfl ?_
  refine ar_gf i_X6_parseWord_7 (h.1) rfl ?_
  refine ar_ld i_X6_parseWord_10 rfl rfl ?_
  refine ar_gf i_X6_parseWord_11 (h.1) rfl ?_
  refine ar_gf i_X6_parseWord_14 (h.2.1) rfl ?_
  refine ar_call i_X6_parseWord_17 rfl ⟨_, _, _, rfl, h1.1⟩ (Nat.le_of_ble_eq_true rfl) (r_read d hi hk) (fun v S1 hq => ?_) (fun E S1 hq => ?_)
  · obtain ⟨q1, q2, q3⟩ := hq
    obtain ⟨q4, is2, mr2, mc2, F2, O2, q5⟩ := q2 p hp ho
    cases q4
    rw [ht] at q5
    refine ar_ift i_X6_parseWord_20 rfl (by decide) ?_
    refine ar_ld i_X6_parseWord_33 rfl rfl ?_
    refine ar_gf i_X6_parseWord_34 (h.1.fr q3 (by omega)) rfl ?_
    have call : aX (d + 5) 26 [.ref 26] S1 (fun o S' => o = .inl (some (.int 1)) ∧ S' = S1) := by
      refine ar_run (Nat.le_of_ble_eq_true rfl) (fun o S2 h => aq_le_of (aq_le_refl S1) h) ?_
      refine ar_ld i_X3_isTooLong_0 rfl rfl ?_
      refine ar_gf i_X3_isTooLong_1 (q5.1) rfl ?_
      exact ar_ret i_X3_isTooLong_4 ((Or.inr rfl)) ⟨rfl, rfl⟩
    refine ar_cr i_X6_parseWord_37 rfl ⟨_, _, _, rfl, q5.1⟩ (Nat.le_of_ble_eq_true rfl) (call) ?_
    refine ar_iff i_X6_parseWord_40 rfl (by decide) ?_
    exact ar_thr i_X6_parseWord_43 (Nat.le_of_ble_eq_true rfl) ⟨rfl, S1, rfl, q5.hI0 inp, q3⟩
  · obtain ⟨q1, q2, q3⟩ := hq
    obtain ⟨q4, q5⟩ := q2 p hp ho
    cases q4
theorem x_parseWord (d : Nat) {S : aq_S} {k r n : Nat} {hs err : Int32} {inp : Nat → Nat} {p : pS} {N : Nat → Nat} {G : Nat → Nat → Int32} (h : hT S k hs) (hk : k ≤ 3) (hw : hWs S 2 N G) (hi : hI S n inp err) (hr : r < 4) (hp : psRun k inp n 0 ps0 = (n, some p)) (ho : ¬ 0 < p.2.1) (ht : p.1.2.2 = 0) : aX (d + 6) 70 [.ref 1, .int (nI r)] S (fun o S' => o = .inl (some (.int (nI p.1.1))) ∧ isW S' (6 + 2 * r) p.1.1 p.1.2.1 ∧ hI S' 0 inp err ∧ aq_fr S S' (fun q => (26 ≤ q ∧ q ≤ 30) ∨ q = 6 + 2 * r ∨ q = 6 + 2 * r + 1)) := by
  have hi0 := hi
  obtain ⟨m, g, tl, oc, is, mr, mc, F, O, h1, h2⟩ := hi0
  have hwr := hw r hr
  refine ar_run (Nat.le_of_ble_eq_true rfl) (fun o S1 h => h.2.2.2.le) ?_
  refine ar_ld i_X6_parseWord_0 rfl rfl ?_
  refine ar_ld i_X6_parseWord_1 rfl rfl ?_
  refine ar_cr i_X6_parseWord_2 rfl ⟨_, _, _, rfl, (h.1)⟩ (Nat.le_of_ble_eq_true rfl) (x_wordIn (d + 3) h hr) ?_
  refine ar_st i_X6_parseWord_5 rfl rfl ?_
  refine ar_ld i_X6_parseWord_6 rfl rfl ?_
  refine ar_gf i_X6_parseWord_7 (h.1) rfl ?_
  refine ar_ld i_X6_parseWord_10 rfl rfl ?_
  refine ar_gf i_X6_parseWord_11 (h.1) rfl ?_
  refine ar_gf i_X6_parseWord_14 (h.2.1) rfl ?_
  refine ar_call i_X6_parseWord_17 rfl ⟨_, _, _, rfl, h1.1⟩ (Nat.le_of_ble_eq_true rfl) (r_read d hi hk) (fun v S1 hq => ?_) (fun E S1 hq => ?_)
  · obtain ⟨q1, q2, q3⟩ := hq
    obtain ⟨q4, is2, mr2, mc2, F2, O2, q5⟩ := q2 p hp ho
    cases q4
    rw [ht] at q5
    refine ar_ift i_X6_parseWord_20 rfl (by decide) ?_
    have hX1 := h.1.fr q3 (by omega)
    refine ar_ld i_X6_parseWord_33 rfl rfl ?_
    refine ar_gf i_X6_parseWord_34 (hX1) rfl ?_
    have call : aX (d + 5) 26 [.ref 26] S1 (fun o S' => o = .inl (some (.int 0)) ∧ S' = S1) := by
      refine ar_run (Nat.le_of_ble_eq_true rfl) (fun o S2 h => aq_le_of (aq_le_refl S1) h) ?_
      refine ar_ld i_X3_isTooLong_0 rfl rfl ?_
      refine ar_gf i_X3_isTooLong_1 (q5.1) rfl ?_
      exact ar_ret i_X3_isTooLong_4 ((Or.inl rfl)) ⟨rfl, rfl⟩
    have call2 : aX (d + 5) 25 [.ref 26] S1 (fun o S' => o = .inl (some (.ref 28)) ∧ S' = S1) := by
      refine ar_run (Nat.le_of_ble_eq_true rfl) (fun o S2 h => aq_le_of (aq_le_refl S1) h) ?_
      refine ar_ld i_X3_result_0 rfl rfl ?_
      refine ar_gf i_X3_result_1 (q5.1) rfl ?_
      exact ar_ret i_X3_result_4 rfl ⟨rfl, rfl⟩
    refine ar_cr i_X6_parseWord_37 rfl ⟨_, _, _, rfl, q5.1⟩ (Nat.le_of_ble_eq_true rfl) (call) ?_
    refine ar_ift i_X6_parseWord_40 rfl (by decide) ?_
    refine ar_ld i_X6_parseWord_53 rfl rfl ?_
    refine ar_ld i_X6_parseWord_54 rfl rfl ?_
    refine ar_gf i_X6_parseWord_55 (hX1) rfl ?_
    refine ar_cr i_X6_parseWord_58 rfl ⟨_, _, _, rfl, q5.1⟩ (Nat.le_of_ble_eq_true rfl) (call2) ?_
    have hw1 := hwr.fr q3 (by omega) (by omega)
    refine av_cv i_X6_parseWord_61 rfl ⟨_, _, _, rfl, hw1.obj⟩ (Nat.le_of_ble_eq_true rfl) (w_copyFrom (d + 3) hw1 q5.2.2.1) (fun S3 h3 => ?_)
    refine ar_ld i_X6_parseWord_64 rfl rfl ?_
    refine ar_cr i_X6_parseWord_65 rfl ⟨_, _, _, rfl, h3.1.obj⟩ (Nat.le_of_ble_eq_true rfl) (w_size (d + 4) h3.1) ?_
    exact ar_ret i_X6_parseWord_68 rfl ⟨rfl, h3.1, (q5.fr h3.2 (by omega)).hI0 inp, (q3.mono (fun q z => Or.inl z)).tr (h3.2.mono (fun q z => Or.inr z))⟩
  · obtain ⟨q1, q2, q3⟩ := hq
    obtain ⟨q4, q5⟩ := q2 p hp ho
    cases q4
end
