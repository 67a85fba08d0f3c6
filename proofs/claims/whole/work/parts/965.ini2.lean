/-! ===== the constructors: reader, store ===== -/
section
theorem i_reader (d : Nat) {S : aq_S} {inp : Nat → Nat} (h : S.2.2.2 26 = some (.inr (3, [.null, .int 0, .int 0, .null, .int 0, .null, .int 0, .int 0, .int 0, .int 0]))) (h1 : S.1 = 27) (h2 : S.2.1 = 0) : aX (d + 2) 22 [.ref 26] S (fun o S' => o = .inl none ∧ hI S' 0 inp (-1) ∧ aq_gr S S' 26 31 76) := by
  refine ar_run (Nat.le_of_ble_eq_true rfl) (fun o S1 h => h.2.2.le) ?_
  refine ar_ld i_X3_init_0 rfl rfl ?_
  refine ar_oi i_X3_init_1 (Nat.le_of_ble_eq_true rfl) ?_
  refine ar_ld i_X3_init_4 rfl rfl ?_
  refine ar_push i_X3_init_5 ?_
  refine av_na (m := 30) i_X3_init_7 (h2) (h1) (by decide) (by decide) (by decide) (fun S2 q2 => ?_)
  obtain ⟨e1, e2, e3, e4, e5⟩ := q2
  refine av_pf i_X3_init_9 ((e5 26 (by omega)).trans h) (Nat.le_of_ble_eq_true rfl) (rfl) rfl (fun S3 g3 k3 => ?_)
  obtain ⟨c1, c2, c3, c4⟩ := k3
  refine ar_ld i_X3_init_12 rfl rfl ?_
  refine ar_push i_X3_init_13 ?_
  refine av_pf i_X3_init_14 (g3) (Nat.le_of_ble_eq_true rfl) (rfl) rfl (fun S4 g4 k4 => ?_)
  obtain ⟨c5, c6, c7, c8⟩ := k4
  refine ar_ld i_X3_init_17 rfl rfl ?_
  refine av_new i_X3_init_18 (c6.trans (c2.trans e3)) (c5.trans (c1.trans e2)) (fun S5 q5 => ?_)
  obtain ⟨p1, p2, p3, p4, p5⟩ := q5
  refine ar_ar i_X3_init_21 rfl ?_
  refine av_cv i_X3_init_22 rfl ⟨_, _, _, rfl, p1⟩ (Nat.le_of_ble_eq_true rfl) (i_word d p1 (by omega) p2 p3) (fun S6 q6 => ?_)
  obtain ⟨wd, j1, j2, j3, j4, j5, j6⟩ := q6
  refine av_pf i_X3_init_25 (((j6 26 (by omega)).trans (p5 26 (by omega))).trans g4) (Nat.le_of_ble_eq_true rfl) (rfl) rfl (fun S7 g7 k7 => ?_)
  obtain ⟨c9, c10, c11, c12⟩ := k7
  refine ar_ld i_X3_init_28 rfl rfl ?_
  refine ar_push i_X3_init_29 ?_
  refine av_na (m := 4) i_X3_init_30 (c10.trans j2) (c9.trans j1) (by decide) (by decide) (by decide) (fun S8 q8 => ?_)
  obtain ⟨i1, i2, i3, i4, i5⟩ := q8
  refine av_pf i_X3_init_32 ((i5 26 (by omega)).trans g7) (Nat.le_of_ble_eq_true rfl) (rfl) rfl (fun S9 g9 k9 => ?_)
  obtain ⟨c13, c14, c15, c16⟩ := k9
  have b7 : ∀ q, q ≠ 26 → q < 30 → S9.2.2.2 q = S6.2.2.2 q := fun q a b => (c16 q a).trans ((i5 q (by omega)).trans (c12 q a))
  have b4 : ∀ q, q ≠ 26 → q < 28 → S9.2.2.2 q = S2.2.2.2 q := fun q a b => (b7 q a (by omega)).trans ((j6 q (by omega)).trans ((p5 q (by omega)).trans ((c8 q a).trans (c4 q a))))
  have hw : rW S9 28 0 (fun _ => 0) := ⟨(b7 28 (by omega) (by omega)).trans wd.1, (b7 29 (by omega) (by omega)).trans wd.2.1, wd.2.2⟩
  refine ar_retv i_X3_init_35 ⟨rfl, ?_, c13.trans i2, c14.trans i3, by omega, by omega, h2, fun q hq => (b4 q (by omega) (by omega)).trans (e5 q (by omega))⟩
  have t1 : ia S9 27 30 (fun _ => 0) := (b4 27 (by omega) (by omega)).trans e1
  have t2 : ia S9 30 4 (fun _ => 0) := (c16 30 (by omega)).trans i1
  exact ⟨0, fun _ => 0, 0, 0, 0, 0, 0, fun _ => 0, fun _ => 0, ⟨g9, t1, ⟨_, hw, fun i hi => absurd hi (Nat.not_lt_zero i)⟩, t2⟩, fun j hj => absurd hj (Nat.not_lt_zero j), Nat.zero_le _, fun j hj => absurd hj (Nat.not_lt_zero j)⟩
end
