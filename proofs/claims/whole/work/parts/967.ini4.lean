/-! ===== the constructor of the class ===== -/
section
/-- an object's constructor, and then the object into a field of 1 -/
theorem i_class (d : Nat) {S : aq_S} {inp : Nat → Nat} {pn pn2 : Nat → Nat} {pg pg2 G G2 : Nat → Nat → Int32} (h : S.2.2.2 1 = some (.inr (6, [.null, .null, .null, .null, .null, .null, .null, .null, .int 0]))) (h1 : S.1 = 2) (h2 : S.2.1 = 0) : aX (d + 3) 66 [.ref 1] S (fun o S' => o = .inl none ∧ (hT S' 2 0 ∧ hP S' 4 0 pn pg ∧ hWs S' 2 (fun _ => 0) G ∧ (hS S' 14 2 ∧ hA S' 14 ∧ hP S' 16 0 pn2 pg2 ∧ hWs S' 14 (fun _ => 0) G2) ∧ hI S' 0 inp (-1) ∧ kQ S' ∧ hRA S' ∧ hD S' ∧ la S' 47 3 (fun _ => 0) ∧ hRs S' (fun _ => -1) (fun _ => 0) (fun _ _ => 0)) ∧ S'.1 = 52 ∧ S'.2.1 = 0 ∧ S'.2.2.1 ≤ S.2.2.1 + 2200 ∧ S.2.2.1 ≤ S'.2.2.1 ∧ S'.2.2.2 0 = S.2.2.2 0) := by
  refine ar_run (Nat.le_of_ble_eq_true rfl) (fun o S1 h => ⟨by omega, by omega, h.2.2.2.2.2.1⟩) ?_
  refine ar_ld i_X6_init_0 rfl rfl ?_
  refine ar_oi i_X6_init_1 (Nat.le_of_ble_eq_true rfl) ?_
  refine ar_ld i_X6_init_4 rfl rfl ?_
  refine av_new i_X6_init_5 (h2) (h1) (fun S2 q2 => ?_)
  refine ar_ar i_X6_init_8 rfl ?_
  refine av_cv i_X6_init_9 rfl ⟨_, _, _, rfl, q2.1⟩ (Nat.le_of_ble_eq_true rfl) (i_store d (pn := pn) (pg := pg) (G := G) q2.1 (by omega) q2.2.1 q2.2.2.1) (fun S3 q3 => ?_)
  obtain ⟨⟨sA, sB, sC, sD⟩, j3⟩ := q3
  have o3 := j3.cell (by omega) ((q2.2.2.2.2 1 (by omega)).trans h)
  refine av_pf i_X6_init_12 (o3) (Nat.le_of_ble_eq_true rfl) (rfl) rfl (fun S4 g4 k4 => ?_)
  refine ar_ld i_X6_init_15 rfl rfl ?_
  refine av_new i_X6_init_16 (k4.2.1.trans j3.2.1) (k4.1.trans j3.1) (fun S5 q5 => ?_)
  refine ar_ar i_X6_init_19 rfl ?_
  refine av_cv i_X6_init_20 rfl ⟨_, _, _, rfl, q5.1⟩ (Nat.le_of_ble_eq_true rfl) (i_store d (pn := pn2) (pg := pg2) (G := G2) q5.1 (by omega) q5.2.1 q5.2.2.1) (fun S6 q6 => ?_)
  obtain ⟨⟨tA, tB, tC, tD⟩, j6⟩ := q6
  have o6 := j6.cell (by omega) ((q5.2.2.2.2 1 (by omega)).trans g4)
  refine av_pf i_X6_init_23 (o6) (Nat.le_of_ble_eq_true rfl) (rfl) rfl (fun S7 g7 k7 => ?_)
  refine ar_ld i_X6_init_26 rfl rfl ?_
  refine av_new i_X6_init_27 (k7.2.1.trans j6.2.1) (k7.1.trans j6.1) (fun S8 q8 => ?_)
  refine ar_ar i_X6_init_30 rfl ?_
  refine av_cv i_X6_init_31 rfl ⟨_, _, _, rfl, q8.1⟩ (Nat.le_of_ble_eq_true rfl) (i_reader d (inp := inp) q8.1 q8.2.1 q8.2.2.1) (fun S9 q9 => ?_)
  obtain ⟨rI, j9⟩ := q9
  have o9 := j9.cell (by omega) ((q8.2.2.2.2 1 (by omega)).trans g7)
  refine av_pf i_X6_init_34 (o9) (Nat.le_of_ble_eq_true rfl) (rfl) rfl (fun S10 g10 k10 => ?_)
  refine ar_ld i_X6_init_37 rfl rfl ?_
  refine av_new i_X6_init_38 (k10.2.1.trans j9.2.1) (k10.1.trans j9.1) (fun S11 q11 => ?_)
  refine ar_ar i_X6_init_41 rfl ?_
  refine av_cv i_X6_init_42 rfl ⟨_, _, _, rfl, q11.1⟩ (Nat.le_of_ble_eq_true rfl) (i_walks (d + 1) q11.1 q11.2.1 q11.2.2.1) (fun S12 q12 => ?_)
  obtain ⟨wQ, j12⟩ := q12
  have o12 := j12.cell (by omega) ((q11.2.2.2.2 1 (by omega)).trans g10)
  refine av_pf i_X6_init_45 (o12) (Nat.le_of_ble_eq_true rfl) (rfl) rfl (fun S13 g13 k13 => ?_)
  refine ar_ld i_X6_init_48 rfl rfl ?_
  refine ar_push i_X6_init_49 ?_
  refine av_na (m := 2) i_X6_init_50 (k13.2.1.trans j12.2.1) (k13.1.trans j12.1) (by decide) (by decide) (by decide) (fun S14 q14 => ?_)
  refine av_pf i_X6_init_53 ((q14.2.2.2.2 1 (by omega)).trans g13) (Nat.le_of_ble_eq_true rfl) (rfl) rfl (fun S15 g15 k15 => ?_)
  refine ar_ld i_X6_init_56 rfl rfl ?_
  refine av_new i_X6_init_57 (k15.2.1.trans q14.2.2.1) (k15.1.trans q14.2.1) (fun S16 q16 => ?_)
  refine ar_ar i_X6_init_60 rfl ?_
  refine av_cv i_X6_init_61 rfl ⟨_, _, _, rfl, q16.1⟩ (Nat.le_of_ble_eq_true rfl) (i_word (d + 1) q16.1 (by omega) q16.2.1 q16.2.2.1) (fun S17 q17 => ?_)
  obtain ⟨dW, j17⟩ := q17
  have o17 := j17.cell (by omega) ((q16.2.2.2.2 1 (by omega)).trans g15)
  refine av_pf i_X6_init_64 (o17) (Nat.le_of_ble_eq_true rfl) (rfl) rfl (fun S18 g18 k18 => ?_)
  refine ar_ld i_X6_init_67 rfl rfl ?_
  refine av_new i_X6_init_68 (k18.2.1.trans j17.2.1) (k18.1.trans j17.1) (fun S19 q19 => ?_)
  refine ar_ar i_X6_init_71 rfl ?_
  refine av_cv i_X6_init_72 rfl ⟨_, _, _, rfl, q19.1⟩ (Nat.le_of_ble_eq_true rfl) (i_word (d + 1) q19.1 (by omega) q19.2.1 q19.2.2.1) (fun S20 q20 => ?_)
  obtain ⟨fW, j20⟩ := q20
  have o20 := j20.cell (by omega) ((q19.2.2.2.2 1 (by omega)).trans g18)
  refine av_pf i_X6_init_75 (o20) (Nat.le_of_ble_eq_true rfl) (rfl) rfl (fun S21 g21 k21 => ?_)
  refine ar_ld i_X6_init_78 rfl rfl ?_
  refine ar_push i_X6_init_79 ?_
  refine av_na (m := 3) i_X6_init_80 (k21.2.1.trans j20.2.1) (k21.1.trans j20.1) (by decide) (by decide) (by decide) (fun S22 q22 => ?_)
  refine av_pf i_X6_init_82 ((q22.2.2.2.2 1 (by omega)).trans g21) (Nat.le_of_ble_eq_true rfl) (rfl) rfl (fun S23 g23 k23 => ?_)
  refine ar_push i_X6_init_85 ?_
  refine ar_st i_X6_init_86 rfl rfl ?_
  have u34 : aq_kq S3 S4 (fun q => q = 1) := k4.2.2.2
  have u46 : aq_kq S4 S6 (fun q => 14 ≤ q) := fun q hq => (j6.2.2.2.2.2 q (by omega)).trans (q5.2.2.2.2 q (by omega))
  have u67 : aq_kq S6 S7 (fun q => q = 1) := k7.2.2.2
  have u79 : aq_kq S7 S9 (fun q => 26 ≤ q) := fun q hq => (j9.2.2.2.2.2 q (by omega)).trans (q8.2.2.2.2 q (by omega))
  have u910 : aq_kq S9 S10 (fun q => q = 1) := k10.2.2.2
  have u1012 : aq_kq S10 S12 (fun q => 31 ≤ q) := fun q hq => (j12.2.2.2.2.2 q (by omega)).trans (q11.2.2.2.2 q (by omega))
  have u1215 : aq_kq S12 S15 (fun q => q = 1 ∨ 42 ≤ q) := fun q hq => (k15.2.2.2 q (by omega)).trans ((q14.2.2.2.2 q (by omega)).trans (k13.2.2.2 q (by omega)))
  have u1417 : aq_kq S14 S17 (fun q => q = 1 ∨ 43 ≤ q) := fun q hq => (j17.2.2.2.2.2 q (by omega)).trans ((q16.2.2.2.2 q (by omega)).trans (k15.2.2.2 q (by omega)))
  have u1517 : aq_kq S15 S17 (fun q => 43 ≤ q) := fun q hq => (j17.2.2.2.2.2 q (by omega)).trans (q16.2.2.2.2 q (by omega))
  have u1720 : aq_kq S17 S20 (fun q => q = 1 ∨ 45 ≤ q) := fun q hq => (j20.2.2.2.2.2 q (by omega)).trans ((q19.2.2.2.2 q (by omega)).trans (k18.2.2.2 q (by omega)))
  have u2023 : aq_kq S20 S23 (fun q => q = 1 ∨ 47 ≤ q) := fun q hq => (k23.2.2.2 q (by omega)).trans ((q22.2.2.2.2 q (by omega)).trans (k21.2.2.2 q (by omega)))
  have v17 : aq_kq S17 S23 (fun q => q = 1 ∨ 45 ≤ q) := u1720.tr u2023 (fun q z => by omega)
  have v14 : aq_kq S14 S23 (fun q => q = 1 ∨ 43 ≤ q) := u1417.tr v17 (fun q z => by omega)
  have v12 : aq_kq S12 S23 (fun q => q = 1 ∨ 42 ≤ q) := (u1215.tr u1517 (P3 := fun q => q = 1 ∨ 42 ≤ q) (fun q z => by omega)).tr v17 (fun q z => by omega)
  have v9 : aq_kq S9 S23 (fun q => q = 1 ∨ 31 ≤ q) := (u910.tr u1012 (P3 := fun q => q = 1 ∨ 31 ≤ q) (fun q z => by omega)).tr v12 (fun q z => by omega)
  have v6 : aq_kq S6 S23 (fun q => q = 1 ∨ 26 ≤ q) := (u67.tr u79 (P3 := fun q => q = 1 ∨ 26 ≤ q) (fun q z => by omega)).tr v9 (fun q z => by omega)
  have v3 : aq_kq S3 S23 (fun q => q = 1 ∨ 14 ≤ q) := (u34.tr u46 (P3 := fun q => q = 1 ∨ 14 ≤ q) (fun q z => by omega)).tr v6 (fun q z => by omega)
  have v0 : S23.2.2.2 0 = S.2.2.2 0 := (v3 0 (by omega)).trans ((j3.2.2.2.2.2 0 (by omega)).trans (q2.2.2.2.2 0 (by omega)))
  have n23 : S23.1 = 48 ∧ S23.2.1 = 0 ∧ S23.2.2.1 = S.2.2.1 + 2001 := by
    have z3 := j3.2.2.1
    have z6 := j6.2.2.1
    have z9 := j9.2.2.1
    have z12 := j12.2.2.1
    have z17 := j17.2.2.1
    have z20 := j20.2.2.1
    have y2 := q2.2.2.2.1
    have y5 := q5.2.2.2.1
    have y8 := q8.2.2.2.1
    have y11 := q11.2.2.2.1
    have y14 := q14.2.2.2.1
    have y16 := q16.2.2.2.1
    have y19 := q19.2.2.2.1
    have y22 := q22.2.2.2.1
    have x4 := k4.2.2.1
    have x7 := k7.2.2.1
    have x10 := k10.2.2.1
    have x13 := k13.2.2.1
    have x15 := k15.2.2.1
    have x18 := k18.2.2.1
    have x21 := k21.2.2.1
    have x23 := k23.2.2.1
    refine ⟨k23.1.trans q22.2.1, k23.2.1.trans q22.2.2.1, ?_⟩
    omega
  have row : S23.2.2.2 42 = some (.inl (4, (2, .inr (.inr (.inr (.inr (fun _ => none))))))) := (v14 42 (by omega)).trans q14.1
  suffices key : ∀ j i (S1 : aq_S) (f : Nat → Option Nat), i + j = 2 → S1.1 = 48 + 2 * i → S1.2.1 = 0 → S1.2.2.1 = S.2.2.1 + 2001 + 45 * i → aq_kq S23 S1 (fun q => q = 42 ∨ 48 ≤ q) → S1.2.2.2 42 = some (.inl (4, (2, .inr (.inr (.inr (.inr f)))))) → (∀ x, x < i → f x = some (48 + 2 * x)) → (∀ x, x < i → hRow S1 (48 + 2 * x) (-1) 0 (fun _ => 0)) → aG (d + 2) 66 (fun o S' => o = .inl none ∧ (hT S' 2 0 ∧ hP S' 4 0 pn pg ∧ hWs S' 2 (fun _ => 0) G ∧ (hS S' 14 2 ∧ hA S' 14 ∧ hP S' 16 0 pn2 pg2 ∧ hWs S' 14 (fun _ => 0) G2) ∧ hI S' 0 inp (-1) ∧ kQ S' ∧ hRA S' ∧ hD S' ∧ la S' 47 3 (fun _ => 0) ∧ hRs S' (fun _ => -1) (fun _ => 0) (fun _ _ => 0)) ∧ S'.1 = 52 ∧ S'.2.1 = 0 ∧ S'.2.2.1 ≤ S.2.2.1 + 2200 ∧ S.2.2.1 ≤ S'.2.2.1 ∧ S'.2.2.2 0 = S.2.2.2 0) 87 [(0, .ref 1), (1, .int (nI i))] [] S1 from key 2 0 S23 (fun _ => none) (by omega) n23.1 n23.2.1 n23.2.2 (fun q _ => rfl) row (fun x hx => absurd hx (Nat.not_lt_zero x)) (fun x hx => absurd hx (Nat.not_lt_zero x))
  intro j
  induction j with
  | zero =>
    intro i S1 f hi n1 n2 n3 hk hrow hf hR
    have ei : i = 2 := hi
    subst ei
    have ob : hX S1 0 := (hk 1 (by omega)).trans g23
    refine ar_ld i_X6_init_87 rfl rfl ?_
    refine ar_ld i_X6_init_88 rfl rfl ?_
    refine ar_gf i_X6_init_89 (ob) rfl ?_
    refine ar_len i_X6_init_92 (by decide) (hrow) ?_
    refine ar_ift i_X6_init_93 rfl (nI_le (a := 2) (b := 2) (by omega) (by omega)) ?_
    have w3 : aq_kq S3 S1 (fun q => q = 1 ∨ 14 ≤ q) := v3.tr hk (fun q z => by omega)
    have w6 : aq_kq S6 S1 (fun q => q = 1 ∨ 26 ≤ q) := v6.tr hk (fun q z => by omega)
    have w9 : aq_kq S9 S1 (fun q => q = 1 ∨ 31 ≤ q) := v9.tr hk (fun q z => by omega)
    have w12 : aq_kq S12 S1 (fun q => q = 1 ∨ 42 ≤ q) := v12.tr hk (fun q z => by omega)
    have w17 : aq_kq S17 S1 (fun q => q = 1 ∨ q = 42 ∨ 45 ≤ q) := v17.tr hk (fun q z => by omega)
    have w20 : aq_kq S20 S1 (fun q => q = 1 ∨ q = 42 ∨ 47 ≤ q) := u2023.tr hk (fun q z => by omega)
    have a1 : hS S1 2 2 := (w3 2 (by omega)).trans sA
    have a2 : hA S1 2 := by
      have z : hA (S1.1, S1.2.1, S1.2.2.1, S3.2.2.2) 2 := sB
      exact z.fr w3.fr (by omega)
    have a3 : hP S1 4 0 pn pg := by
      have z : hP (S1.1, S1.2.1, S1.2.2.1, S3.2.2.2) 4 0 pn pg := sC
      exact z.fr w3.fr (by omega) (by omega)
    have a4 : hWs S1 2 (fun _ => 0) G := fun r hr => by
      have z : isW (S1.1, S1.2.1, S1.2.2.1, S3.2.2.2) (2 + 4 + 2 * r) 0 (G r) := sD r hr
      exact z.fr w3.fr (by omega) (by omega)
    have b1 : hS S1 14 2 := (w6 14 (by omega)).trans tA
    have b2 : hA S1 14 := by
      have z : hA (S1.1, S1.2.1, S1.2.2.1, S6.2.2.2) 14 := tB
      exact z.fr w6.fr (by omega)
    have b3 : hP S1 16 0 pn2 pg2 := by
      have z : hP (S1.1, S1.2.1, S1.2.2.1, S6.2.2.2) 16 0 pn2 pg2 := tC
      exact z.fr w6.fr (by omega) (by omega)
    have b4 : hWs S1 14 (fun _ => 0) G2 := fun r hr => by
      have z : isW (S1.1, S1.2.1, S1.2.2.1, S6.2.2.2) (14 + 4 + 2 * r) 0 (G2 r) := tD r hr
      exact z.fr w6.fr (by omega) (by omega)
    have c1 : hI S1 0 inp (-1) := by
      have z : hI (S1.1, S1.2.1, S1.2.2.1, S9.2.2.2) 0 inp (-1) := rI
      exact z.fr w9.fr (fun x h1 h2 => by omega)
    have c2 : kQ S1 := by
      obtain ⟨⟨lt, st, ko⟩, ⟨f1, r1⟩, ⟨f2, r2⟩, ⟨f3, r3⟩, ⟨f4, r4, z4⟩, ⟨f5, r5⟩, ⟨f6, r6⟩, ⟨f7, r7⟩, ⟨f8, r8⟩, ⟨f9, r9⟩, f10, r10⟩ := wQ
      exact ⟨⟨lt, st, (w12 31 (by omega)).trans ko⟩, ⟨f1, (w12 32 (by omega)).trans r1⟩, ⟨f2, (w12 33 (by omega)).trans r2⟩, ⟨f3, (w12 34 (by omega)).trans r3⟩, ⟨f4, (w12 35 (by omega)).trans r4, z4⟩, ⟨f5, (w12 36 (by omega)).trans r5⟩, ⟨f6, (w12 37 (by omega)).trans r6⟩, ⟨f7, (w12 38 (by omega)).trans r7⟩, ⟨f8, (w12 39 (by omega)).trans r8⟩, ⟨f9, (w12 40 (by omega)).trans r9⟩, f10, (w12 41 (by omega)).trans r10⟩
    have c3 : hD S1 := by
      have z1 : rW (S1.1, S1.2.1, S1.2.2.1, S17.2.2.2) 43 0 (fun _ => 0) := dW
      have z2 : rW (S1.1, S1.2.1, S1.2.2.1, S20.2.2.2) 45 0 (fun _ => 0) := fW
      exact ⟨⟨0, fun _ => 0, _, z1.fr w17.fr (by omega) (by omega), fun i hi => absurd hi (Nat.not_lt_zero i)⟩, 0, fun _ => 0, _, z2.fr w20.fr (by omega) (by omega), fun i hi => absurd hi (Nat.not_lt_zero i)⟩
    have c4 : la S1 47 3 (fun _ => 0) := (hk 47 (by omega)).trans ((k23.2.2.2 47 (by omega)).trans q22.1)
    exact ar_retv i_X6_init_115 ⟨rfl, ⟨⟨ob, a1, a2⟩, a3, a4, ⟨b1, b2, b3, b4⟩, c1, c2, ⟨f, hrow, hf⟩, c3, c4, fun r hr => hR r hr⟩, n1, n2, by omega, by omega, (hk 0 (by omega)).trans v0⟩
  | succ j ih =>
    intro i S1 f hi n1 n2 n3 hk hrow hf hR
    have ob : hX S1 0 := (hk 1 (by omega)).trans g23
    refine ar_ld i_X6_init_87 rfl rfl ?_
    refine ar_ld i_X6_init_88 rfl rfl ?_
    refine ar_gf i_X6_init_89 (ob) rfl ?_
    refine ar_len i_X6_init_92 (by decide) (hrow) ?_
    refine ar_iff i_X6_init_93 rfl (nI_ge (b := 2) (by omega) (by omega)) ?_
    refine ar_ld i_X6_init_96 rfl rfl ?_
    refine ar_gf i_X6_init_97 (ob) rfl ?_
    refine ar_ld i_X6_init_100 rfl rfl ?_
    refine av_new i_X6_init_101 (n2) (n1) (fun T2 p2 => ?_)
    refine ar_ar i_X6_init_104 rfl ?_
    refine av_cv i_X6_init_105 rfl ⟨_, _, _, rfl, p2.1⟩ (Nat.le_of_ble_eq_true rfl) (i_row (d + 1) p2.1 (by omega) p2.2.1 p2.2.2.1) (fun T3 p3 => ?_)
    obtain ⟨hRn, j30⟩ := p3
    have old : ∀ q, q < 48 + 2 * i → T3.2.2.2 q = S1.2.2.2 q := fun q hq => (j30.2.2.2.2.2 q hq).trans (p2.2.2.2.2 q (by omega))
    refine av_sta i_X6_init_108 (by omega) (by omega) ((old 42 (by omega)).trans hrow) (hRn.1) (by omega) (by omega) (fun T4 g4 k40 => ?_)
    have new4 : aq_kq S1 T4 (fun q => q = 42 ∨ 48 + 2 * i ≤ q) := fun q hq => (k40.2.2.2 q (by omega)).trans (old q (by omega))
    have := ih (i + 1) T4 _ (by omega) (by rw [k40.1, j30.1]; omega) (k40.2.1.trans j30.2.1) (by rw [k40.2.2.1, j30.2.2.1, p2.2.2.2.1, n3]; omega) (hk.tr new4 (fun q z => by omega)) g4 (fun x hx => by
      by_cases e : x = i
      · rw [e]; exact if_pos rfl
      · exact (if_neg e).trans (hf x (by omega))) (fun x hx => by
      by_cases e : x = i
      · rw [e]; exact hRn.fr k40 (by omega) (by omega)
      · have z : hRow (T4.1, T4.2.1, T4.2.2.1, S1.2.2.2) (48 + 2 * x) (-1) 0 (fun _ => 0) := hR x (by omega)
        exact z.fr new4.fr (by omega) (by omega))
    rw [← nI_1 i] at this
    refine ar_inc i_X6_init_109 rfl rfl ?_
    refine ar_go i_X6_init_112 ?_
    exact this
end
