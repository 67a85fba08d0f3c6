/-! ===== the constructors: reader, store ===== -/
section
theorem i_reader (d : Nat) {S : aq_S} {inp : Nat → Nat} (h : S.2.2.2 26 = some (.inr (3, [.null, .int 0, .int 0, .null, .int 0, .null, .int 0, .int 0, .int 0, .int 0]))) (h1 : S.1 = 27) (h2 : S.2.1 = 0) : aX (d + 2) 22 [.ref 26] S (fun o S' => o = .inl none ∧ hI S' 0 inp (-1) ∧ aq_gr S S' 26 31 76) := by
  refine ar_run (Nat.le_of_ble_eq_true rfl) (fun o S1 h => h.2.2.le) ?_
  refine ar_ld i_X3_init_0 rfl rfl ?_
  refine ar_oi i_X3_init_1 (Nat.le_of_ble_eq_true rfl) ?_
  refine ar_ld i_X3_init_4 rfl rfl ?_
  refine ar_push i_X3_init_5 ?_
  refine av_na (m := 30) i_X3_init_7 (h2) (h1) (by decide) (by decide) (by decide) (fun S2 q2 => ?_)
  obtain ⟨e1, e2, e3, e4, e5⟩ := q2
  refine av_pf i_X3_init_9 ((e5 26 (by omega)).trans h) (Nat.le_of_ble_eq_true rfl) (rfl) rfl (fun S3 g3 k3 => ?_)
  obtain ⟨c1, c2, c3, c4⟩ := k3
  refine ar_ld i_X3_init_12 rfl rfl ?_
  refine ar_push i_X3_init_13 ?_
  refine av_pf i_X3_init_14 (g3) (Nat.le_of_ble_eq_true rfl) (rfl) rfl (fun S4 g4 k4 => ?_)
  obtain ⟨c5, c6, c7, c8⟩ := k4
  refine ar_ld i_X3_init_17 rfl rfl ?_
  refine av_new i_X3_init_18 (c6.trans (c2.trans e3)) (c5.trans (c1.trans e2)) (fun S5 q5 => ?_)
  obtain ⟨p1, p2, p3, p4, p5⟩ := q5
  refine ar_ar i_X3_init_21 rfl ?_
  refine av_cv i_X3_init_22 rfl ⟨_, _, _, rfl, p1⟩ (Nat.le_of_ble_eq_true rfl) (i_word d p1 (by omega) p2 p3) (fun S6 q6 => ?_)
  obtain ⟨wd, j1, j2, j3, j4, j5, j6⟩ := q6
  refine av_pf i_X3_init_25 (((j6 26 (by omega)).trans (p5 26 (by omega))).trans g4) (Nat.le_of_ble_eq_true rfl) (rfl) rfl (fun S7 g7 k7 => ?_)
  obtain ⟨c9, c10, c11, c12⟩ := k7
  refine ar_ld i_X3_init_28 rfl rfl ?_
  refine ar_push i_X3_init_29 ?_
  refine av_na (m := 4) i_X3_init_30 (c10.trans j2) (c9.trans j1) (by decide) (by decide) (by decide) (fun S8 q8 => ?_)
  obtain ⟨i1, i2, i3, i4, i5⟩ := q8
  refine av_pf i_X3_init_32 ((i5 26 (by omega)).trans g7) (Nat.le_of_ble_eq_true rfl) (rfl) rfl (fun S9 g9 k9 => ?_)
  obtain ⟨c13, c14, c15, c16⟩ := k9
  have b7 : ∀ q, q ≠ 26 → q < 30 → S9.2.2.2 q = S6.2.2.2 q := fun q a b => (c16 q a).trans ((i5 q (by omega)).trans (c12 q a))
  have b4 : ∀ q, q ≠ 26 → q < 28 → S9.2.2.2 q = S2.2.2.2 q := fun q a b => (b7 q a (by omega)).trans ((j6 q (by omega)).trans ((p5 q (by omega)).trans ((c8 q a).trans (c4 q a))))
  have hw : rW S9 28 0 (fun _ => 0) := ⟨(b7 28 (by omega) (by omega)).trans wd.1, (b7 29 (by omega) (by omega)).trans wd.2.1, wd.2.2⟩
  refine ar_retv i_X3_init_35 ⟨rfl, ?_, c13.trans i2, c14.trans i3, by omega, by omega, h2, fun q hq => (b4 q (by omega) (by omega)).trans (e5 q (by omega))⟩
  have t1 : ia S9 27 30 (fun _ => 0) := (b4 27 (by omega) (by omega)).trans e1
  have t2 : ia S9 30 4 (fun _ => 0) := (c16 30 (by omega)).trans i1
  exact ⟨0, fun _ => 0, 0, 0, 0, 0, 0, fun _ => 0, fun _ => 0, ⟨g9, t1, ⟨_, hw, fun i hi => absurd hi (Nat.not_lt_zero i)⟩, t2⟩, fun j hj => absurd hj (Nat.not_lt_zero j), Nat.zero_le _, fun j hj => absurd hj (Nat.not_lt_zero j)⟩
theorem av_sta {d y : Nat} {Q : aq_F} {pc n : Nat} {L : aq_L} {r : List Value} {S : aq_S} {kd ci a m j v : Nat} {f : Nat → Option Nat} {vs : List Value} (hm : aq_T y pc = some (aq_sta kd ci n)) (h0 : a ≠ 0) (h1 : v ≠ 0) (ha : S.2.2.2 a = some (.inl (kd, (m, .inr (.inr (.inr (.inr f))))))) (hv : S.2.2.2 v = some (.inr (ci, vs))) (hj : j < m) (hm2 : m < 2 ^ 31) (k : ∀ S2 : aq_S, S2.2.2.2 a = some (.inl (kd, (m, .inr (.inr (.inr (.inr (va_up f j (some v)))))))) → aq_fr S S2 (fun q => q = a) → aG d y Q n L r S2) : aG d y Q pc L (.ref v :: .int (nI j) :: .ref a :: r) S := by
  refine ar_sta hm h0 h1 ha hv (vp_in_nI hj hm2) rfl ?_
  rw [nI_clamp (by omega)]
  exact k _ aq_sg (aq_fr.set rfl)
theorem i_store (d : Nat) {S : aq_S} {b : Nat} {pn : Nat → Nat} {pg G : Nat → Nat → Int32} (h : S.2.2.2 b = some (.inr (2, [.null, .null, .int 0]))) (hb : b ≠ 0) (h1 : S.1 = b + 1) (h2 : S.2.1 = 0) : aX (d + 2) 18 [.ref b] S (fun o S' => o = .inl none ∧ (hS S' b 2 ∧ hA S' b ∧ hP S' (b + 2) 0 pn pg ∧ hWs S' b (fun _ => 0) G) ∧ aq_gr S S' b (b + 12) 178) := by
  refine ar_run (Nat.le_of_ble_eq_true rfl) (fun o S1 h => h.2.2.le) ?_
  refine ar_ld i_X2_init_0 rfl rfl ?_
  refine ar_oi i_X2_init_1 (Nat.le_of_ble_eq_true rfl) ?_
  refine ar_ld i_X2_init_4 rfl rfl ?_
  refine ar_push i_X2_init_5 ?_
  refine av_na (m := 4) i_X2_init_6 (h2) (h1) (by decide) (by decide) (by decide) (fun S2 q2 => ?_)
  obtain ⟨e1, e2, e3, e4, e5⟩ := q2
  refine av_pf i_X2_init_9 ((e5 b (by omega)).trans h) (Nat.le_of_ble_eq_true rfl) (rfl) rfl (fun S3 g3 k3 => ?_)
  obtain ⟨c1, c2, c3, c4⟩ := k3
  refine ar_ld i_X2_init_12 rfl rfl ?_
  refine av_new i_X2_init_13 (c2.trans e3) (c1.trans e2) (fun S4 q4 => ?_)
  obtain ⟨p1, p2, p3, p4, p5⟩ := q4
  refine ar_ar i_X2_init_16 rfl ?_
  refine av_cv i_X2_init_17 rfl ⟨_, _, _, rfl, p1⟩ (Nat.le_of_ble_eq_true rfl) (i_pats d (pn := pn) (pg := pg) p1 (by omega) p2 p3) (fun S5 q5 => ?_)
  obtain ⟨hpt, j1, j2, j3, j4, j5, j6⟩ := q5
  refine av_pf i_X2_init_20 (((j6 b (by omega)).trans (p5 b (by omega))).trans g3) (Nat.le_of_ble_eq_true rfl) (rfl) rfl (fun S6 g6 k6 => ?_)
  refine ar_ld i_X2_init_23 rfl rfl ?_
  refine ar_push i_X2_init_24 ?_
  refine av_pf i_X2_init_25 (g6) (Nat.le_of_ble_eq_true rfl) (rfl) rfl (fun S7 g7 k7 => ?_)
  have k67 := k6.tr k7
  obtain ⟨c5, c6, c7, c8⟩ := k67
  refine ar_push i_X2_init_28 ?_
  refine ar_st i_X2_init_29 rfl rfl ?_
  have row : S7.2.2.2 (b + 1) = some (.inl (5, (4, .inr (.inr (.inr (.inr (fun _ => none))))))) := (c8 (b + 1) (by omega)).trans ((j6 (b + 1) (by omega)).trans ((p5 (b + 1) (by omega)).trans ((c4 (b + 1) (by omega)).trans e1)))
  have low : ∀ q, q < b → S7.2.2.2 q = S.2.2.2 q := fun q hq => (c8 q (by omega)).trans ((j6 q (by omega)).trans ((p5 q (by omega)).trans ((c4 q (by omega)).trans (e5 q (by omega)))))
  have hpt7 := hpt.fr ⟨c5, c6, c7, c8⟩ (by omega) (by omega)
  suffices key : ∀ j i (S1 : aq_S) (f : Nat → Option Nat), i + j = 4 → S1.1 = b + 4 + 2 * i → S1.2.1 = 0 → S1.2.2.1 = S.2.2.1 + 10 + 42 * i → hS S1 b 2 → S1.2.2.2 (b + 1) = some (.inl (5, (4, .inr (.inr (.inr (.inr f)))))) → (∀ x, x < i → f x = some (b + 4 + 2 * x)) → hP S1 (b + 2) 0 pn pg → (∀ x, x < i → rW S1 (b + 4 + 2 * x) 0 (fun _ => 0)) → (∀ q, q < b → S1.2.2.2 q = S.2.2.2 q) → aG (d + 1) 18 (fun o S' => o = .inl none ∧ (hS S' b 2 ∧ hA S' b ∧ hP S' (b + 2) 0 pn pg ∧ hWs S' b (fun _ => 0) G) ∧ aq_gr S S' b (b + 12) 178) 30 [(0, .ref b), (1, .int (nI i))] [] S1 from key 4 0 S7 (fun _ => none) (by omega) (c5.trans j1) (c6.trans j2) (by omega) g7 row (fun x hx => absurd hx (Nat.not_lt_zero x)) hpt7 (fun x hx => absurd hx (Nat.not_lt_zero x)) low
  intro j
  induction j with
  | zero =>
    intro i S1 f hi n1 n2 n3 hs hrow hf hp hw hlow
    have ei : i = 4 := hi
    subst ei
    refine ar_ld i_X2_init_30 rfl rfl ?_
    refine ar_ld i_X2_init_31 rfl rfl ?_
    refine ar_gf i_X2_init_32 (hs) rfl ?_
    refine ar_len i_X2_init_35 (by decide) (hrow) ?_
    refine ar_ift i_X2_init_36 rfl (nI_le (a := 4) (b := 4) (by omega) (by omega)) ?_
    exact ar_retv i_X2_init_58 ⟨rfl, ⟨hs, ⟨f, hrow, hf⟩, hp, fun r hr => ⟨_, hw r hr, fun i hi => absurd hi (Nat.not_lt_zero i)⟩⟩, n1, n2, by omega, by omega, h2, hlow⟩
  | succ j ih =>
    intro i S1 f hi n1 n2 n3 hs hrow hf hp hw hlow
    refine ar_ld i_X2_init_30 rfl rfl ?_
    refine ar_ld i_X2_init_31 rfl rfl ?_
    refine ar_gf i_X2_init_32 (hs) rfl ?_
    refine ar_len i_X2_init_35 (by decide) (hrow) ?_
    refine ar_iff i_X2_init_36 rfl (nI_ge (b := 4) (by omega) (by omega)) ?_
    refine ar_ld i_X2_init_39 rfl rfl ?_
    refine ar_gf i_X2_init_40 (hs) rfl ?_
    refine ar_ld i_X2_init_43 rfl rfl ?_
    refine av_new i_X2_init_44 (n2) (n1) (fun S2 q2 => ?_)
    obtain ⟨p1, p2, p3, p4, p5⟩ := q2
    refine ar_ar i_X2_init_47 rfl ?_
    refine av_cv i_X2_init_48 rfl ⟨_, _, _, rfl, p1⟩ (Nat.le_of_ble_eq_true rfl) (i_word d p1 (by omega) p2 p3) (fun S3 q3 => ?_)
    obtain ⟨hwd, j1, j2, j3, j4, j5, j6⟩ := q3
    have old : ∀ q, q < b + 4 + 2 * i → S3.2.2.2 q = S1.2.2.2 q := fun q hq => (j6 q hq).trans (p5 q (by omega))
    have row3 := (old (b + 1) (by omega)).trans hrow
    refine av_sta i_X2_init_51 (by omega) (by omega) (row3) (hwd.1) (by omega) (by omega) (fun S4 g4 k4 => ?_)
    obtain ⟨m1, m2, m3, m4⟩ := k4
    have new4 : ∀ q, q ≠ b + 1 → q < b + 4 + 2 * i → S4.2.2.2 q = S1.2.2.2 q := fun q hq hlt => (m4 q hq).trans (old q hlt)
    have hs4 : hS S4 b 2 := (new4 b (by omega) (by omega)).trans hs
    have hp4 : hP S4 (b + 2) 0 pn pg := by
      obtain ⟨E, acc, a1, a2, a3, a4⟩ := hp
      exact ⟨E, acc, (new4 (b + 2) (by omega) (by omega)).trans a1, (new4 (b + 2 + 1) (by omega) (by omega)).trans a2, a3, a4⟩
    have hw4 : ∀ x, x < i + 1 → rW S4 (b + 4 + 2 * x) 0 (fun _ => 0) := fun x hx => by
      by_cases e : x = i
      · rw [e]
        exact ⟨(m4 _ (by omega)).trans hwd.1, (m4 _ (by omega)).trans hwd.2.1, hwd.2.2⟩
      · have hwx := hw x (by omega)
        exact ⟨(new4 _ (by omega) (by omega)).trans hwx.1, (new4 _ (by omega) (by omega)).trans hwx.2.1, hwx.2.2⟩
    have := ih (i + 1) S4 _ (by omega) (by rw [m1, j1]; omega) (m2.trans j2) (by rw [m3, j3, p4, n3]; omega) hs4 g4 (fun x hx => by
      by_cases e : x = i
      · rw [e]; exact if_pos rfl
      · exact (if_neg e).trans (hf x (by omega))) hp4 hw4 (fun q hq => (new4 q (by omega) (by omega)).trans (hlow q hq))
    rw [← nI_1 i] at this
    refine ar_inc i_X2_init_52 rfl rfl ?_
    refine ar_go i_X2_init_55 ?_
    exact this
end
