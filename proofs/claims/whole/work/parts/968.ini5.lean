/-! ===== the constructor of the reference ===== -/
section
theorem i_ref (d : Nat) {S : aq_S} (h : S.2.2.2 52 = some (.inr (7, [.int 0, .int 0, .null, .null, .null, .null, .null, .int 0, .int 0, .int 0, .int 0, .null, .null, .int 0, .int 0, .null, .null, .null, .null, .null, .null, .null, .null, .null, .null, .null, .int 0, .int 0, .int 0]))) (h1 : S.1 = 53) (h2 : S.2.1 = 0) : aX (d + 1) 125 [.ref 52] S (fun o S' => o = .inl none ∧ (mO S' 0 2 0 (-1) 0 0 0 (-1) 0 0 0 ∧ ia S' 53 4 (fun _ => 0) ∧ ia S' 54 160 (fun _ => 0) ∧ ia S' 55 40 (fun _ => 0) ∧ ia S' 56 30 (fun _ => 0) ∧ ia S' 57 5 (fun _ => 0) ∧ ia S' 58 12 (fun _ => 0) ∧ ia S' 59 60 (fun _ => 0) ∧ ba S' 60 81 (fun _ => 0) ∧ ba S' 61 243 (fun _ => 0) ∧ la S' 62 81 (fun _ => 0) ∧ la S' 63 81 (fun _ => 0) ∧ ia S' 64 81 (fun _ => 0) ∧ ia S' 65 40 (fun _ => 0) ∧ ia S' 66 40 (fun _ => 0) ∧ da S' 67 82 (fun _ => 0) ∧ ia S' 68 2 (upd (upd (fun _ => 0) 0 (-1)) 1 (-1)) ∧ ia S' 69 2 (fun _ => 0) ∧ ia S' 70 240 (fun _ => 0)) ∧ aq_gr S S' 52 71 1284) := by
  refine ar_run (Nat.le_of_ble_eq_true rfl) (fun o S1 h => h.2.2.le) ?_
  refine ar_ld i_X7_init_0 rfl rfl ?_
  refine ar_oi i_X7_init_1 (Nat.le_of_ble_eq_true rfl) ?_
  refine ar_ld i_X7_init_4 rfl rfl ?_
  refine ar_push i_X7_init_5 ?_
  refine av_pf i_X7_init_6 (h) (Nat.le_of_ble_eq_true rfl) (rfl) rfl (fun A0 g0 k0 => ?_)
  refine ar_ld i_X7_init_9 rfl rfl ?_
  refine ar_push i_X7_init_10 ?_
  refine av_na (m := 4) i_X7_init_11 (k0.2.1.trans h2) (k0.1.trans h1) (by decide) (by decide) (by decide) (fun B1 q1 => ?_)
  refine av_pf i_X7_init_13 ((q1.2.2.2.2 52 (by omega)).trans g0) (Nat.le_of_ble_eq_true rfl) (rfl) rfl (fun A1 g1 k1 => ?_)
  refine ar_ld i_X7_init_16 rfl rfl ?_
  refine ar_push i_X7_init_17 ?_
  refine av_na (m := 160) i_X7_init_20 (k1.2.1.trans (q1.2.2.1)) (k1.1.trans (q1.2.1)) (by decide) (by decide) (by decide) (fun B2 q2 => ?_)
  refine av_pf i_X7_init_22 ((q2.2.2.2.2 52 (by omega)).trans g1) (Nat.le_of_ble_eq_true rfl) (rfl) rfl (fun A2 g2 k2 => ?_)
  refine ar_ld i_X7_init_25 rfl rfl ?_
  refine ar_push i_X7_init_26 ?_
  refine av_na (m := 40) i_X7_init_28 (k2.2.1.trans (q2.2.2.1)) (k2.1.trans (q2.2.1)) (by decide) (by decide) (by decide) (fun B3 q3 => ?_)
  refine av_pf i_X7_init_30 ((q3.2.2.2.2 52 (by omega)).trans g2) (Nat.le_of_ble_eq_true rfl) (rfl) rfl (fun A3 g3 k3 => ?_)
  refine ar_ld i_X7_init_33 rfl rfl ?_
  refine ar_push i_X7_init_34 ?_
  refine av_na (m := 30) i_X7_init_36 (k3.2.1.trans (q3.2.2.1)) (k3.1.trans (q3.2.1)) (by decide) (by decide) (by decide) (fun B4 q4 => ?_)
  refine av_pf i_X7_init_38 ((q4.2.2.2.2 52 (by omega)).trans g3) (Nat.le_of_ble_eq_true rfl) (rfl) rfl (fun A4 g4 k4 => ?_)
  refine ar_ld i_X7_init_41 rfl rfl ?_
  refine ar_push i_X7_init_42 ?_
  refine av_na (m := 5) i_X7_init_43 (k4.2.1.trans (q4.2.2.1)) (k4.1.trans (q4.2.1)) (by decide) (by decide) (by decide) (fun B5 q5 => ?_)
  refine av_pf i_X7_init_45 ((q5.2.2.2.2 52 (by omega)).trans g4) (Nat.le_of_ble_eq_true rfl) (rfl) rfl (fun A5 g5 k5 => ?_)
  refine ar_ld i_X7_init_48 rfl rfl ?_
  refine ar_push i_X7_init_49 ?_
  refine av_pf i_X7_init_50 (g5) (Nat.le_of_ble_eq_true rfl) (rfl) rfl (fun A6 g6 k6 => ?_)
  refine ar_ld i_X7_init_53 rfl rfl ?_
  refine ar_push i_X7_init_54 ?_
  refine av_na (m := 12) i_X7_init_56 (k6.2.1.trans (k5.2.1.trans (q5.2.2.1))) (k6.1.trans (k5.1.trans (q5.2.1))) (by decide) (by decide) (by decide) (fun B7 q7 => ?_)
  refine av_pf i_X7_init_58 ((q7.2.2.2.2 52 (by omega)).trans g6) (Nat.le_of_ble_eq_true rfl) (rfl) rfl (fun A7 g7 k7 => ?_)
  refine ar_ld i_X7_init_61 rfl rfl ?_
  refine ar_push i_X7_init_62 ?_
  refine av_na (m := 60) i_X7_init_64 (k7.2.1.trans (q7.2.2.1)) (k7.1.trans (q7.2.1)) (by decide) (by decide) (by decide) (fun B8 q8 => ?_)
  refine av_pf i_X7_init_66 ((q8.2.2.2.2 52 (by omega)).trans g7) (Nat.le_of_ble_eq_true rfl) (rfl) rfl (fun A8 g8 k8 => ?_)
  refine ar_ld i_X7_init_69 rfl rfl ?_
  refine ar_push i_X7_init_70 ?_
  refine av_pf i_X7_init_71 (g8) (Nat.le_of_ble_eq_true rfl) (rfl) rfl (fun A9 g9 k9 => ?_)
  refine ar_ld i_X7_init_74 rfl rfl ?_
  refine ar_push i_X7_init_75 ?_
  refine av_na (m := 81) i_X7_init_77 (k9.2.1.trans (k8.2.1.trans (q8.2.2.1))) (k9.1.trans (k8.1.trans (q8.2.1))) (by decide) (by decide) (by decide) (fun B10 q10 => ?_)
  refine av_pf i_X7_init_79 ((q10.2.2.2.2 52 (by omega)).trans g9) (Nat.le_of_ble_eq_true rfl) (rfl) rfl (fun A10 g10 k10 => ?_)
  refine ar_ld i_X7_init_82 rfl rfl ?_
  refine ar_push i_X7_init_83 ?_
  refine av_na (m := 243) i_X7_init_86 (k10.2.1.trans (q10.2.2.1)) (k10.1.trans (q10.2.1)) (by decide) (by decide) (by decide) (fun B11 q11 => ?_)
  refine av_pf i_X7_init_88 ((q11.2.2.2.2 52 (by omega)).trans g10) (Nat.le_of_ble_eq_true rfl) (rfl) rfl (fun A11 g11 k11 => ?_)
  refine ar_ld i_X7_init_91 rfl rfl ?_
  refine ar_push i_X7_init_92 ?_
  refine av_na (m := 81) i_X7_init_94 (k11.2.1.trans (q11.2.2.1)) (k11.1.trans (q11.2.1)) (by decide) (by decide) (by decide) (fun B12 q12 => ?_)
  refine av_pf i_X7_init_96 ((q12.2.2.2.2 52 (by omega)).trans g11) (Nat.le_of_ble_eq_true rfl) (rfl) rfl (fun A12 g12 k12 => ?_)
  refine ar_ld i_X7_init_99 rfl rfl ?_
  refine ar_push i_X7_init_100 ?_
  refine av_na (m := 81) i_X7_init_102 (k12.2.1.trans (q12.2.2.1)) (k12.1.trans (q12.2.1)) (by decide) (by decide) (by decide) (fun B13 q13 => ?_)
  refine av_pf i_X7_init_104 ((q13.2.2.2.2 52 (by omega)).trans g12) (Nat.le_of_ble_eq_true rfl) (rfl) rfl (fun A13 g13 k13 => ?_)
  refine ar_ld i_X7_init_107 rfl rfl ?_
  refine ar_push i_X7_init_108 ?_
  refine av_na (m := 81) i_X7_init_110 (k13.2.1.trans (q13.2.2.1)) (k13.1.trans (q13.2.1)) (by decide) (by decide) (by decide) (fun B14 q14 => ?_)
  refine av_pf i_X7_init_112 ((q14.2.2.2.2 52 (by omega)).trans g13) (Nat.le_of_ble_eq_true rfl) (rfl) rfl (fun A14 g14 k14 => ?_)
  refine ar_ld i_X7_init_115 rfl rfl ?_
  refine ar_push i_X7_init_116 ?_
  refine av_na (m := 40) i_X7_init_118 (k14.2.1.trans (q14.2.2.1)) (k14.1.trans (q14.2.1)) (by decide) (by decide) (by decide) (fun B15 q15 => ?_)
  refine av_pf i_X7_init_120 ((q15.2.2.2.2 52 (by omega)).trans g14) (Nat.le_of_ble_eq_true rfl) (rfl) rfl (fun A15 g15 k15 => ?_)
  refine ar_ld i_X7_init_123 rfl rfl ?_
  refine ar_push i_X7_init_124 ?_
  refine av_na (m := 40) i_X7_init_126 (k15.2.1.trans (q15.2.2.1)) (k15.1.trans (q15.2.1)) (by decide) (by decide) (by decide) (fun B16 q16 => ?_)
  refine av_pf i_X7_init_128 ((q16.2.2.2.2 52 (by omega)).trans g15) (Nat.le_of_ble_eq_true rfl) (rfl) rfl (fun A16 g16 k16 => ?_)
  refine ar_ld i_X7_init_131 rfl rfl ?_
  refine ar_push i_X7_init_132 ?_
  refine av_na (m := 82) i_X7_init_134 (k16.2.1.trans (q16.2.2.1)) (k16.1.trans (q16.2.1)) (by decide) (by decide) (by decide) (fun B17 q17 => ?_)
  refine av_pf i_X7_init_136 ((q17.2.2.2.2 52 (by omega)).trans g16) (Nat.le_of_ble_eq_true rfl) (rfl) rfl (fun A17 g17 k17 => ?_)
  refine ar_ld i_X7_init_139 rfl rfl ?_
  refine ar_push i_X7_init_140 ?_
  refine av_na (m := 2) i_X7_init_141 (k17.2.1.trans (q17.2.2.1)) (k17.1.trans (q17.2.1)) (by decide) (by decide) (by decide) (fun B18 q18 => ?_)
  have r0 : ia B18 68 2 (fun _ => 0) := q18.1
  refine ar_ar i_X7_init_143 rfl ?_
  refine ar_push i_X7_init_144 ?_
  refine ar_push i_X7_init_145 ?_
  refine av_sti (j := 0) i_X7_init_146 (by omega) (r0) (by omega) (by omega) (fun C1 x1 y1 => ?_)
  refine ar_ar i_X7_init_147 rfl ?_
  refine ar_push i_X7_init_148 ?_
  refine ar_push i_X7_init_149 ?_
  refine av_sti (j := 1) i_X7_init_150 (by omega) (x1) (by omega) (by omega) (fun C2 x2 y2 => ?_)
  have gg := (y2.2.2.2 52 (by omega)).trans ((y1.2.2.2 52 (by omega)).trans ((q18.2.2.2.2 52 (by omega)).trans g17))
  refine av_pf i_X7_init_151 (gg) (Nat.le_of_ble_eq_true rfl) (rfl) rfl (fun A18 g18 k18 => ?_)
  refine ar_ld i_X7_init_154 rfl rfl ?_
  refine ar_push i_X7_init_155 ?_
  refine av_na (m := 2) i_X7_init_156 (k18.2.1.trans (y2.2.1.trans (y1.2.1.trans (q18.2.2.1)))) (k18.1.trans (y2.1.trans (y1.1.trans (q18.2.1)))) (by decide) (by decide) (by decide) (fun B19 q19 => ?_)
  refine av_pf i_X7_init_158 ((q19.2.2.2.2 52 (by omega)).trans g18) (Nat.le_of_ble_eq_true rfl) (rfl) rfl (fun A19 g19 k19 => ?_)
  refine ar_ld i_X7_init_161 rfl rfl ?_
  refine ar_push i_X7_init_162 ?_
  refine av_na (m := 240) i_X7_init_165 (k19.2.1.trans (q19.2.2.1)) (k19.1.trans (q19.2.1)) (by decide) (by decide) (by decide) (fun B20 q20 => ?_)
  refine av_pf i_X7_init_167 ((q20.2.2.2.2 52 (by omega)).trans g19) (Nat.le_of_ble_eq_true rfl) (rfl) rfl (fun A20 g20 k20 => ?_)
  have zA20 : aq_kq A20 A20 (fun q => q = 52) := fun q _ => rfl
  have zB20 : aq_kq B20 A20 (fun q => q = 52) := aq_kq.tr (P := fun q => q = 52) k20.2.2.2 zA20 (fun q z => by omega)
  have zA19 : aq_kq A19 A20 (fun q => q = 52 ∨ 70 ≤ q) := aq_kq.tr (P := fun q => q = 70) q20.2.2.2.2 zB20 (fun q z => by omega)
  have zB19 : aq_kq B19 A20 (fun q => q = 52 ∨ 70 ≤ q) := aq_kq.tr (P := fun q => q = 52) k19.2.2.2 zA19 (fun q z => by omega)
  have zA18 : aq_kq A18 A20 (fun q => q = 52 ∨ 69 ≤ q) := aq_kq.tr (P := fun q => q = 69) q19.2.2.2.2 zB19 (fun q z => by omega)
  have zC2 : aq_kq C2 A20 (fun q => q = 52 ∨ 69 ≤ q) := aq_kq.tr (P := fun q => q = 52) k18.2.2.2 zA18 (fun q z => by omega)
  have zC1 : aq_kq C1 A20 (fun q => q = 52 ∨ 68 ≤ q) := aq_kq.tr (P := fun q => q = 68) y2.2.2.2 zC2 (fun q z => by omega)
  have zB18 : aq_kq B18 A20 (fun q => q = 52 ∨ 68 ≤ q) := aq_kq.tr (P := fun q => q = 68) y1.2.2.2 zC1 (fun q z => by omega)
  have zA17 : aq_kq A17 A20 (fun q => q = 52 ∨ 68 ≤ q) := aq_kq.tr (P := fun q => q = 68) q18.2.2.2.2 zB18 (fun q z => by omega)
  have zB17 : aq_kq B17 A20 (fun q => q = 52 ∨ 68 ≤ q) := aq_kq.tr (P := fun q => q = 52) k17.2.2.2 zA17 (fun q z => by omega)
  have zA16 : aq_kq A16 A20 (fun q => q = 52 ∨ 67 ≤ q) := aq_kq.tr (P := fun q => q = 67) q17.2.2.2.2 zB17 (fun q z => by omega)
  have zB16 : aq_kq B16 A20 (fun q => q = 52 ∨ 67 ≤ q) := aq_kq.tr (P := fun q => q = 52) k16.2.2.2 zA16 (fun q z => by omega)
  have zA15 : aq_kq A15 A20 (fun q => q = 52 ∨ 66 ≤ q) := aq_kq.tr (P := fun q => q = 66) q16.2.2.2.2 zB16 (fun q z => by omega)
  have zB15 : aq_kq B15 A20 (fun q => q = 52 ∨ 66 ≤ q) := aq_kq.tr (P := fun q => q = 52) k15.2.2.2 zA15 (fun q z => by omega)
  have zA14 : aq_kq A14 A20 (fun q => q = 52 ∨ 65 ≤ q) := aq_kq.tr (P := fun q => q = 65) q15.2.2.2.2 zB15 (fun q z => by omega)
  have zB14 : aq_kq B14 A20 (fun q => q = 52 ∨ 65 ≤ q) := aq_kq.tr (P := fun q => q = 52) k14.2.2.2 zA14 (fun q z => by omega)
  have zA13 : aq_kq A13 A20 (fun q => q = 52 ∨ 64 ≤ q) := aq_kq.tr (P := fun q => q = 64) q14.2.2.2.2 zB14 (fun q z => by omega)
  have zB13 : aq_kq B13 A20 (fun q => q = 52 ∨ 64 ≤ q) := aq_kq.tr (P := fun q => q = 52) k13.2.2.2 zA13 (fun q z => by omega)
  have zA12 : aq_kq A12 A20 (fun q => q = 52 ∨ 63 ≤ q) := aq_kq.tr (P := fun q => q = 63) q13.2.2.2.2 zB13 (fun q z => by omega)
  have zB12 : aq_kq B12 A20 (fun q => q = 52 ∨ 63 ≤ q) := aq_kq.tr (P := fun q => q = 52) k12.2.2.2 zA12 (fun q z => by omega)
  have zA11 : aq_kq A11 A20 (fun q => q = 52 ∨ 62 ≤ q) := aq_kq.tr (P := fun q => q = 62) q12.2.2.2.2 zB12 (fun q z => by omega)
  have zB11 : aq_kq B11 A20 (fun q => q = 52 ∨ 62 ≤ q) := aq_kq.tr (P := fun q => q = 52) k11.2.2.2 zA11 (fun q z => by omega)
  have zA10 : aq_kq A10 A20 (fun q => q = 52 ∨ 61 ≤ q) := aq_kq.tr (P := fun q => q = 61) q11.2.2.2.2 zB11 (fun q z => by omega)
  have zB10 : aq_kq B10 A20 (fun q => q = 52 ∨ 61 ≤ q) := aq_kq.tr (P := fun q => q = 52) k10.2.2.2 zA10 (fun q z => by omega)
  have zA9 : aq_kq A9 A20 (fun q => q = 52 ∨ 60 ≤ q) := aq_kq.tr (P := fun q => q = 60) q10.2.2.2.2 zB10 (fun q z => by omega)
  have zA8 : aq_kq A8 A20 (fun q => q = 52 ∨ 60 ≤ q) := aq_kq.tr (P := fun q => q = 52) k9.2.2.2 zA9 (fun q z => by omega)
  have zB8 : aq_kq B8 A20 (fun q => q = 52 ∨ 60 ≤ q) := aq_kq.tr (P := fun q => q = 52) k8.2.2.2 zA8 (fun q z => by omega)
  have zA7 : aq_kq A7 A20 (fun q => q = 52 ∨ 59 ≤ q) := aq_kq.tr (P := fun q => q = 59) q8.2.2.2.2 zB8 (fun q z => by omega)
  have zB7 : aq_kq B7 A20 (fun q => q = 52 ∨ 59 ≤ q) := aq_kq.tr (P := fun q => q = 52) k7.2.2.2 zA7 (fun q z => by omega)
  have zA6 : aq_kq A6 A20 (fun q => q = 52 ∨ 58 ≤ q) := aq_kq.tr (P := fun q => q = 58) q7.2.2.2.2 zB7 (fun q z => by omega)
  have zA5 : aq_kq A5 A20 (fun q => q = 52 ∨ 58 ≤ q) := aq_kq.tr (P := fun q => q = 52) k6.2.2.2 zA6 (fun q z => by omega)
  have zB5 : aq_kq B5 A20 (fun q => q = 52 ∨ 58 ≤ q) := aq_kq.tr (P := fun q => q = 52) k5.2.2.2 zA5 (fun q z => by omega)
  have zA4 : aq_kq A4 A20 (fun q => q = 52 ∨ 57 ≤ q) := aq_kq.tr (P := fun q => q = 57) q5.2.2.2.2 zB5 (fun q z => by omega)
  have zB4 : aq_kq B4 A20 (fun q => q = 52 ∨ 57 ≤ q) := aq_kq.tr (P := fun q => q = 52) k4.2.2.2 zA4 (fun q z => by omega)
  have zA3 : aq_kq A3 A20 (fun q => q = 52 ∨ 56 ≤ q) := aq_kq.tr (P := fun q => q = 56) q4.2.2.2.2 zB4 (fun q z => by omega)
  have zB3 : aq_kq B3 A20 (fun q => q = 52 ∨ 56 ≤ q) := aq_kq.tr (P := fun q => q = 52) k3.2.2.2 zA3 (fun q z => by omega)
  have zA2 : aq_kq A2 A20 (fun q => q = 52 ∨ 55 ≤ q) := aq_kq.tr (P := fun q => q = 55) q3.2.2.2.2 zB3 (fun q z => by omega)
  have zB2 : aq_kq B2 A20 (fun q => q = 52 ∨ 55 ≤ q) := aq_kq.tr (P := fun q => q = 52) k2.2.2.2 zA2 (fun q z => by omega)
  have zA1 : aq_kq A1 A20 (fun q => q = 52 ∨ 54 ≤ q) := aq_kq.tr (P := fun q => q = 54) q2.2.2.2.2 zB2 (fun q z => by omega)
  have zB1 : aq_kq B1 A20 (fun q => q = 52 ∨ 54 ≤ q) := aq_kq.tr (P := fun q => q = 52) k1.2.2.2 zA1 (fun q z => by omega)
  have zA0 : aq_kq A0 A20 (fun q => q = 52 ∨ 53 ≤ q) := aq_kq.tr (P := fun q => q = 53) q1.2.2.2.2 zB1 (fun q z => by omega)
  have zS : aq_kq S A20 (fun q => q = 52 ∨ 53 ≤ q) := aq_kq.tr (P := fun q => q = 52) k0.2.2.2 zA0 (fun q z => by omega)
  refine ar_retv i_X7_init_170 ⟨rfl, ⟨g20, (zB1 53 (by omega)).trans q1.1, (zB2 54 (by omega)).trans q2.1, (zB3 55 (by omega)).trans q3.1, (zB4 56 (by omega)).trans q4.1, (zB5 57 (by omega)).trans q5.1, (zB7 58 (by omega)).trans q7.1, (zB8 59 (by omega)).trans q8.1, (zB10 60 (by omega)).trans q10.1, (zB11 61 (by omega)).trans q11.1, (zB12 62 (by omega)).trans q12.1, (zB13 63 (by omega)).trans q13.1, (zB14 64 (by omega)).trans q14.1, (zB15 65 (by omega)).trans q15.1, (zB16 66 (by omega)).trans q16.1, (zB17 67 (by omega)).trans q17.1, (zC2 68 (by omega)).trans x2, (zB19 69 (by omega)).trans q19.1, (zB20 70 (by omega)).trans q20.1⟩, k20.1.trans (q20.2.1), k20.2.1.trans (q20.2.2.1), ?_, by omega, h2, fun q hq => zS q (by omega)⟩
  have s0 := k0.2.2.1
  have t1 := q1.2.2.2.1
  have s1 := k1.2.2.1
  have t2 := q2.2.2.2.1
  have s2 := k2.2.2.1
  have t3 := q3.2.2.2.1
  have s3 := k3.2.2.1
  have t4 := q4.2.2.2.1
  have s4 := k4.2.2.1
  have t5 := q5.2.2.2.1
  have s5 := k5.2.2.1
  have s6 := k6.2.2.1
  have t7 := q7.2.2.2.1
  have s7 := k7.2.2.1
  have t8 := q8.2.2.2.1
  have s8 := k8.2.2.1
  have s9 := k9.2.2.1
  have t10 := q10.2.2.2.1
  have s10 := k10.2.2.1
  have t11 := q11.2.2.2.1
  have s11 := k11.2.2.1
  have t12 := q12.2.2.2.1
  have s12 := k12.2.2.1
  have t13 := q13.2.2.2.1
  have s13 := k13.2.2.1
  have t14 := q14.2.2.2.1
  have s14 := k14.2.2.1
  have t15 := q15.2.2.2.1
  have s15 := k15.2.2.1
  have t16 := q16.2.2.2.1
  have s16 := k16.2.2.1
  have t17 := q17.2.2.2.1
  have s17 := k17.2.2.1
  have t18 := q18.2.2.2.1
  have v1 := y1.2.2.1
  have v2 := y2.2.2.1
  have s18 := k18.2.2.1
  have t19 := q19.2.2.2.1
  have s19 := k19.2.2.1
  have t20 := q20.2.2.2.1
  have s20 := k20.2.2.1
  omega
end
