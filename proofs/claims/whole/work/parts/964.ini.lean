/-! ===== the constructors ===== -/
section
/-- one more cell -/
def aq_nx (S S2 : aq_S) (w : Nat) (e : aq_E) (nf : Nat) : Prop := S2.2.2.2 w = some e ∧ S2.1 = w + 1 ∧ S2.2.1 = 0 ∧ S2.2.2.1 = S.2.2.1 + nf ∧ ∀ q, q ≠ w → S2.2.2.2 q = S.2.2.2 q
theorem aq_nx.mk {S : aq_S} {w nf : Nat} {e : aq_E} (h0 : S.2.1 = 0) (hw : S.1 = w) : aq_nx S (aq_mk S e nf) w e nf := by
  refine ⟨?_, ?_, h0, rfl, fun q hq => ?_⟩
  · show (bif Nat.beq w S.1 then some e else S.2.2.2 w) = some e
    rw [hw, show Nat.beq w w = true from Nat.beq_refl w]
    rfl
  · show S.1 + 1 = w + 1
    rw [hw]
  · show (bif Nat.beq q S.1 then some e else S.2.2.2 q) = S.2.2.2 q
    have : Nat.beq q S.1 = false := by
      rw [hw]
      exact Bool.eq_false_iff.mpr (fun z => hq (Nat.eq_of_beq_eq_true z))
    rw [this]
    rfl
theorem av_new {d y : Nat} {Q : aq_F} {pc n : Nat} {L : aq_L} {st : List Value} {S : aq_S} {ci nf w : Nat} {fs : List Value} (hm : aq_T y pc = some (aq_new ci nf fs n)) (h0 : S.2.1 = 0) (hw : S.1 = w) (k : ∀ S2 : aq_S, aq_nx S S2 w (.inr (ci, fs)) nf → aG d y Q n L (.ref w :: st) S2) : aG d y Q pc L st S := by
  refine ar_new hm h0 rfl ?_
  rw [hw]
  exact k _ (aq_nx.mk h0 hw)
theorem av_na {d y : Nat} {Q : aq_F} {pc n : Nat} {L : aq_L} {r : List Value} {S : aq_S} {kd m w : Nat} {i : Int32} (hm : aq_T y pc = some (aq_newa kd n)) (h0 : S.2.1 = 0) (hw : S.1 = w) (hi : ¬ i < 0) (hz : i.toNatClampNeg = m) (hm2 : m ≤ 1000) (k : ∀ S2 : aq_S, aq_nx S S2 w (.inl (kd, (m, aq_dflt kd))) m → aG d y Q n L (.ref w :: r) S2) : aG d y Q pc L (.int i :: r) S := by
  refine ar_newa hm h0 hi hz hm2 rfl ?_
  rw [hw]
  exact k _ (aq_nx.mk h0 hw)
/-- the cells from w are new -/
def aq_gr (S S2 : aq_S) (w v u : Nat) : Prop := S2.1 = v ∧ S2.2.1 = 0 ∧ S2.2.2.1 = S.2.2.1 + u ∧ S.1 ≤ v ∧ S.2.1 = 0 ∧ ∀ q, q < w → S2.2.2.2 q = S.2.2.2 q
theorem aq_gr.le {S S2 : aq_S} {w v u : Nat} (h : aq_gr S S2 w v u) : aq_le S S2 := by
  obtain ⟨h1, h2, h3, h4, h5, -⟩ := h
  exact ⟨by omega, by omega, by omega⟩
theorem i_word (d : Nat) {S : aq_S} {w : Nat} (h : S.2.2.2 w = some (.inr (5, [.null, .int 0]))) (hw : w ≠ 0) (h1 : S.1 = w + 1) (h2 : S.2.1 = 0) : aX (d + 1) 48 [.ref w] S (fun o S' => o = .inl none ∧ rW S' w 0 (fun _ => 0) ∧ aq_gr S S' w (w + 2) 40) := by
  refine ar_run (Nat.le_of_ble_eq_true rfl) (fun o S1 h => h.2.2.le) ?_
  refine ar_ld i_X5_init_0 rfl rfl ?_
  refine ar_oi i_X5_init_1 (Nat.le_of_ble_eq_true rfl) ?_
  refine ar_ld i_X5_init_4 rfl rfl ?_
  refine ar_push i_X5_init_5 ?_
  refine av_na (m := 40) i_X5_init_7 (h2) (h1) (by decide) (by decide) (by decide) (fun S2 q2 => ?_)
  obtain ⟨e1, e2, e3, e4, e5⟩ := q2
  refine av_pf i_X5_init_9 ((e5 w (by omega)).trans h) (Nat.le_of_ble_eq_true rfl) (rfl) rfl (fun S3 g3 k3 => ?_)
  obtain ⟨c1, c2, c3, c4⟩ := k3
  exact ar_retv i_X5_init_12 ⟨rfl, ⟨g3, (c4 (w + 1) (by omega)).trans e1, Nat.zero_le _, hw⟩, c1.trans e2, c2.trans e3, c3.trans e4, by omega, h2, fun q hq => (c4 q (by omega)).trans (e5 q (by omega))⟩
theorem i_pats (d : Nat) {S : aq_S} {b : Nat} {pn : Nat → Nat} {pg : Nat → Nat → Int32} (h : S.2.2.2 b = some (.inr (0, [.null, .long 0, .int 0]))) (hb : b ≠ 0) (h1 : S.1 = b + 1) (h2 : S.2.1 = 0) : aX (d + 1) 0 [.ref b] S (fun o S' => o = .inl none ∧ hP S' b 0 pn pg ∧ aq_gr S S' b (b + 2) 3) := by
  refine ar_run (Nat.le_of_ble_eq_true rfl) (fun o S1 h => h.2.2.le) ?_
  refine ar_ld i_X0_init_0 rfl rfl ?_
  refine ar_oi i_X0_init_1 (Nat.le_of_ble_eq_true rfl) ?_
  refine ar_ld i_X0_init_4 rfl rfl ?_
  refine ar_push i_X0_init_5 ?_
  refine av_na (m := 3) i_X0_init_6 (h2) (h1) (by decide) (by decide) (by decide) (fun S2 q2 => ?_)
  obtain ⟨e1, e2, e3, e4, e5⟩ := q2
  refine av_pf i_X0_init_8 ((e5 b (by omega)).trans h) (Nat.le_of_ble_eq_true rfl) (rfl) rfl (fun S3 g3 k3 => ?_)
  obtain ⟨c1, c2, c3, c4⟩ := k3
  exact ar_retv i_X0_init_11 ⟨rfl, ⟨0, fun _ => 0, g3, (c4 (b + 1) (by omega)).trans e1, hb, fun l hl t ht => ⟨fun z => (by rw [lb_0] at z; cases z), fun ⟨i, j, hi, _⟩ => absurd hi (Nat.not_lt_zero i)⟩, fun t ht => ⟨fun z => (by rw [lb_0] at z; cases z), fun ⟨i, hi, _⟩ => absurd hi (Nat.not_lt_zero i)⟩⟩, c1.trans e2, c2.trans e3, c3.trans e4, by omega, h2, fun q hq => (c4 q (by omega)).trans (e5 q (by omega))⟩
theorem i_row (d : Nat) {S : aq_S} {a : Nat} (h : S.2.2.2 a = some (.inr (1, [.null, .int 0, .int 0, .int 0]))) (ha : a ≠ 0) (h1 : S.1 = a + 1) (h2 : S.2.1 = 0) : aX (d + 1) 10 [.ref a] S (fun o S' => o = .inl none ∧ hRow S' a (-1) 0 (fun _ => 0) ∧ aq_gr S S' a (a + 2) 41) := by
  refine ar_run (Nat.le_of_ble_eq_true rfl) (fun o S1 h => h.2.2.le) ?_
  refine ar_ld i_X1_init_0 rfl rfl ?_
  refine ar_oi i_X1_init_1 (Nat.le_of_ble_eq_true rfl) ?_
  refine ar_ld i_X1_init_4 rfl rfl ?_
  refine ar_push i_X1_init_5 ?_
  refine av_na (m := 41) i_X1_init_7 (h2) (h1) (by decide) (by decide) (by decide) (fun S2 q2 => ?_)
  obtain ⟨e1, e2, e3, e4, e5⟩ := q2
  refine av_pf i_X1_init_9 ((e5 a (by omega)).trans h) (Nat.le_of_ble_eq_true rfl) (rfl) rfl (fun S3 g3 k3 => ?_)
  obtain ⟨c1, c2, c3, c4⟩ := k3
  refine ar_ld i_X1_init_12 rfl rfl ?_
  refine ar_push i_X1_init_13 ?_
  refine av_pf i_X1_init_14 (g3) (Nat.le_of_ble_eq_true rfl) (Or.inr rfl) rfl (fun S4 g4 k4 => ?_)
  obtain ⟨c1', c2', c3', c4'⟩ := k4
  have e : S4.2.2.2 a = some (.inr (1, [.ref (a + 1), .int (bI ((-1 : Int32) = -1)), .int (bI ((-1 : Int32) = 1)), .int (nI 0)])) := by
    rw [bI_t rfl, bI_f (by decide)]
    exact g4
  exact ar_retv i_X1_init_17 ⟨rfl, ⟨e, ha, Nat.zero_le _, _, ((c4' (a + 1) (by omega)).trans (c4 (a + 1) (by omega))).trans e1, fun i _ => rfl⟩, c1'.trans (c1.trans e2), c2'.trans (c2.trans e3), c3'.trans (c3.trans e4), by omega, h2, fun q hq => (c4' q (by omega)).trans ((c4 q (by omega)).trans (e5 q (by omega)))⟩
theorem i_walks (d : Nat) {S : aq_S} (h : S.2.2.2 31 = some (.inr (4, [.int 0, .int 0, .null, .null, .null, .null, .null, .null, .null, .null, .null, .null]))) (h1 : S.1 = 32) (h2 : S.2.1 = 0) : aX (d + 1) 35 [.ref 31] S (fun o S' => o = .inl none ∧ kQ S' ∧ aq_gr S S' 31 42 1452) := by
  refine ar_run (Nat.le_of_ble_eq_true rfl) (fun o S1 h => h.2.2.le) ?_
  refine ar_ld i_X4_init_0 rfl rfl ?_
  refine ar_oi i_X4_init_1 (Nat.le_of_ble_eq_true rfl) ?_
  refine ar_ld i_X4_init_4 rfl rfl ?_
  refine ar_push i_X4_init_5 ?_
  refine av_na (m := 363) i_X4_init_8 (h2) (h1) (by decide) (by decide) (by decide) (fun S2 q2 => ?_)
  obtain ⟨e1, e2, e3, e4, e5⟩ := q2
  refine av_pf i_X4_init_10 ((e5 31 (by omega)).trans h) (Nat.le_of_ble_eq_true rfl) (rfl) rfl (fun S3 g3 k3 => ?_)
  refine ar_ld i_X4_init_13 rfl rfl ?_
  refine ar_push i_X4_init_14 ?_
  refine av_na (m := 121) i_X4_init_16 (k3.2.1.trans e3) (k3.1.trans e2) (by decide) (by decide) (by decide) (fun S4 q4 => ?_)
  refine av_pf i_X4_init_18 ((q4.2.2.2.2 31 (by omega)).trans g3) (Nat.le_of_ble_eq_true rfl) (rfl) rfl (fun S5 g5 k5 => ?_)
  refine ar_ld i_X4_init_21 rfl rfl ?_
  refine ar_push i_X4_init_22 ?_
  refine av_na (m := 121) i_X4_init_24 (k5.2.1.trans q4.2.2.1) (k5.1.trans q4.2.1) (by decide) (by decide) (by decide) (fun S6 q6 => ?_)
  refine av_pf i_X4_init_26 ((q6.2.2.2.2 31 (by omega)).trans g5) (Nat.le_of_ble_eq_true rfl) (rfl) rfl (fun S7 g7 k7 => ?_)
  refine ar_ld i_X4_init_29 rfl rfl ?_
  refine ar_push i_X4_init_30 ?_
  refine av_na (m := 121) i_X4_init_32 (k7.2.1.trans q6.2.2.1) (k7.1.trans q6.2.1) (by decide) (by decide) (by decide) (fun S8 q8 => ?_)
  refine av_pf i_X4_init_34 ((q8.2.2.2.2 31 (by omega)).trans g7) (Nat.le_of_ble_eq_true rfl) (rfl) rfl (fun S9 g9 k9 => ?_)
  refine ar_ld i_X4_init_37 rfl rfl ?_
  refine ar_push i_X4_init_38 ?_
  refine av_na (m := 121) i_X4_init_40 (k9.2.1.trans q8.2.2.1) (k9.1.trans q8.2.1) (by decide) (by decide) (by decide) (fun S10 q10 => ?_)
  refine av_pf i_X4_init_42 ((q10.2.2.2.2 31 (by omega)).trans g9) (Nat.le_of_ble_eq_true rfl) (rfl) rfl (fun S11 g11 k11 => ?_)
  refine ar_ld i_X4_init_45 rfl rfl ?_
  refine ar_push i_X4_init_46 ?_
  refine av_na (m := 121) i_X4_init_48 (k11.2.1.trans q10.2.2.1) (k11.1.trans q10.2.1) (by decide) (by decide) (by decide) (fun S12 q12 => ?_)
  refine av_pf i_X4_init_50 ((q12.2.2.2.2 31 (by omega)).trans g11) (Nat.le_of_ble_eq_true rfl) (rfl) rfl (fun S13 g13 k13 => ?_)
  refine ar_ld i_X4_init_53 rfl rfl ?_
  refine ar_push i_X4_init_54 ?_
  refine av_na (m := 121) i_X4_init_56 (k13.2.1.trans q12.2.2.1) (k13.1.trans q12.2.1) (by decide) (by decide) (by decide) (fun S14 q14 => ?_)
  refine av_pf i_X4_init_58 ((q14.2.2.2.2 31 (by omega)).trans g13) (Nat.le_of_ble_eq_true rfl) (rfl) rfl (fun S15 g15 k15 => ?_)
  refine ar_ld i_X4_init_61 rfl rfl ?_
  refine ar_push i_X4_init_62 ?_
  refine av_na (m := 121) i_X4_init_64 (k15.2.1.trans q14.2.2.1) (k15.1.trans q14.2.1) (by decide) (by decide) (by decide) (fun S16 q16 => ?_)
  refine av_pf i_X4_init_66 ((q16.2.2.2.2 31 (by omega)).trans g15) (Nat.le_of_ble_eq_true rfl) (rfl) rfl (fun S17 g17 k17 => ?_)
  refine ar_ld i_X4_init_69 rfl rfl ?_
  refine ar_push i_X4_init_70 ?_
  refine av_na (m := 121) i_X4_init_72 (k17.2.1.trans q16.2.2.1) (k17.1.trans q16.2.1) (by decide) (by decide) (by decide) (fun S18 q18 => ?_)
  refine av_pf i_X4_init_74 ((q18.2.2.2.2 31 (by omega)).trans g17) (Nat.le_of_ble_eq_true rfl) (rfl) rfl (fun S19 g19 k19 => ?_)
  refine ar_ld i_X4_init_77 rfl rfl ?_
  refine ar_push i_X4_init_78 ?_
  refine av_na (m := 121) i_X4_init_80 (k19.2.1.trans q18.2.2.1) (k19.1.trans q18.2.1) (by decide) (by decide) (by decide) (fun S20 q20 => ?_)
  refine av_pf i_X4_init_82 ((q20.2.2.2.2 31 (by omega)).trans g19) (Nat.le_of_ble_eq_true rfl) (rfl) rfl (fun S21 g21 k21 => ?_)
  have f3 := k3.2.2.2
  have f5 := k5.2.2.2
  have f7 := k7.2.2.2
  have f9 := k9.2.2.2
  have f11 := k11.2.2.2
  have f13 := k13.2.2.2
  have f15 := k15.2.2.2
  have f17 := k17.2.2.2
  have f19 := k19.2.2.2
  have f21 := k21.2.2.2
  have y4 := q4.2.2.2.2
  have y6 := q6.2.2.2.2
  have y8 := q8.2.2.2.2
  have y10 := q10.2.2.2.2
  have y12 := q12.2.2.2.2
  have y14 := q14.2.2.2.2
  have y16 := q16.2.2.2.2
  have y18 := q18.2.2.2.2
  have y20 := q20.2.2.2.2
  have b20 : ∀ q, q ≠ 31 → q ≠ 41 → S21.2.2.2 q = S19.2.2.2 q := fun q a b => (f21 q a).trans (y20 q b)
  have b18 : ∀ q, q ≠ 31 → q < 40 → S21.2.2.2 q = S17.2.2.2 q := fun q a b => (b20 q a (by omega)).trans ((f19 q a).trans (y18 q (by omega)))
  have b16 : ∀ q, q ≠ 31 → q < 39 → S21.2.2.2 q = S15.2.2.2 q := fun q a b => (b18 q a (by omega)).trans ((f17 q a).trans (y16 q (by omega)))
  have b14 : ∀ q, q ≠ 31 → q < 38 → S21.2.2.2 q = S13.2.2.2 q := fun q a b => (b16 q a (by omega)).trans ((f15 q a).trans (y14 q (by omega)))
  have b12 : ∀ q, q ≠ 31 → q < 37 → S21.2.2.2 q = S11.2.2.2 q := fun q a b => (b14 q a (by omega)).trans ((f13 q a).trans (y12 q (by omega)))
  have b10 : ∀ q, q ≠ 31 → q < 36 → S21.2.2.2 q = S9.2.2.2 q := fun q a b => (b12 q a (by omega)).trans ((f11 q a).trans (y10 q (by omega)))
  have b8 : ∀ q, q ≠ 31 → q < 35 → S21.2.2.2 q = S7.2.2.2 q := fun q a b => (b10 q a (by omega)).trans ((f9 q a).trans (y8 q (by omega)))
  have b6 : ∀ q, q ≠ 31 → q < 34 → S21.2.2.2 q = S5.2.2.2 q := fun q a b => (b8 q a (by omega)).trans ((f7 q a).trans (y6 q (by omega)))
  have b4 : ∀ q, q ≠ 31 → q < 33 → S21.2.2.2 q = S3.2.2.2 q := fun q a b => (b6 q a (by omega)).trans ((f5 q a).trans (y4 q (by omega)))
  have b2 : ∀ q, q < 31 → S21.2.2.2 q = S.2.2.2 q := fun q a => (b4 q (by omega) (by omega)).trans ((f3 q (by omega)).trans (e5 q (by omega)))
  refine ar_retv i_X4_init_85 ⟨rfl, ⟨⟨_, _, g21⟩, ⟨_, (b4 32 (by omega) (by omega)).trans ((f3 32 (by omega)).trans e1)⟩, ⟨_, (b6 33 (by omega) (by omega)).trans ((f5 33 (by omega)).trans q4.1)⟩, ⟨_, (b8 34 (by omega) (by omega)).trans ((f7 34 (by omega)).trans q6.1)⟩, ⟨_, (b10 35 (by omega) (by omega)).trans ((f9 35 (by omega)).trans q8.1), rfl⟩, ⟨_, (b12 36 (by omega) (by omega)).trans ((f11 36 (by omega)).trans q10.1)⟩, ⟨_, (b14 37 (by omega) (by omega)).trans ((f13 37 (by omega)).trans q12.1)⟩, ⟨_, (b16 38 (by omega) (by omega)).trans ((f15 38 (by omega)).trans q14.1)⟩, ⟨_, (b18 39 (by omega) (by omega)).trans ((f17 39 (by omega)).trans q16.1)⟩, ⟨_, (b20 40 (by omega) (by omega)).trans ((f19 40 (by omega)).trans q18.1)⟩, _, (f21 41 (by omega)).trans q20.1⟩, k21.1.trans q20.2.1, k21.2.1.trans q20.2.2.1, ?_, by omega, h2, b2⟩
  have z3 := k3.2.2.1
  have z5 := k5.2.2.1
  have z7 := k7.2.2.1
  have z9 := k9.2.2.1
  have z11 := k11.2.2.1
  have z13 := k13.2.2.1
  have z15 := k15.2.2.1
  have z17 := k17.2.2.1
  have z19 := k19.2.2.1
  have z21 := k21.2.2.1
  have w4 := q4.2.2.2.1
  have w6 := q6.2.2.2.1
  have w8 := q8.2.2.2.1
  have w10 := q10.2.2.2.1
  have w12 := q12.2.2.2.1
  have w14 := q14.2.2.2.1
  have w16 := q16.2.2.2.1
  have w18 := q18.2.2.2.1
  have w20 := q20.2.2.2.1
  omega
end
