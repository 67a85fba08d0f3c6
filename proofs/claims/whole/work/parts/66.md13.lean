/-! ===== the reference: completions, periodBound, snapshots ===== -/
section
theorem m_completes (d : Nat) {S : aq_S} {r kk num : Nat} {fp : Nat → Int32} {th il err rd tl pc lo cur hs sv : Int32} {N : Nat → Nat} {G : Nat → Nat → Int32} (h : mO S th (nI kk) il err rd tl pc lo cur hs sv) (hw : mW S N G) (hp : ia S 55 40 fp) (hk0 : 0 < kk) (hk : kk ≤ 3) (hr : r < 4) (hnum : num < 2 ^ 63) : aX (d + 2) 171 [.ref 52, .int (nI r), .long (lN num)] S (fun o S' => o = .inl none ∧ (∃ F, ia S' 55 40 F ∧ ∀ i, i < N r → F i = wdig kk (G r) (N r) num i) ∧ aq_fr S S' (fun q => q = 55)) := by
  obtain ⟨fl, fw, w1, w2, w3, w4⟩ := hw
  have hN := (w3 r hr).2
  refine ar_run (Nat.le_of_ble_eq_true rfl) (fun o S1 h => h.2.2.le) ?_
  refine ar_ld i_X7_completes_0 rfl rfl ?_
  refine ar_st i_X7_completes_1 rfl rfl ?_
  refine ar_ld i_X7_completes_3 rfl rfl ?_
  refine ar_gf i_X7_completes_4 (h) rfl ?_
  refine ar_ld i_X7_completes_7 rfl rfl ?_
  refine av_ldi i_X7_completes_8 (w1) (by omega) (by omega) ?_
  rw [(w3 r hr).1]
  suffices key : ∀ i (S1 : aq_S) (F : Nat → Int32), i ≤ N r → ia S1 55 40 F → (∀ x, i ≤ x → x < N r → F x = wdig kk (G r) (N r) num x) → aq_fr S S1 (fun q => q = 55) → aG (d + 1) 171 (fun o S' => o = .inl none ∧ (∃ F, ia S' 55 40 F ∧ ∀ i, i < N r → F i = wdig kk (G r) (N r) num i) ∧ aq_fr S S' (fun q => q = 55)) 13 [(0, .ref 52), (1, .int (nI r)), (2, .long (lN num)), (4, .long (lN (num / kk ^ (wholes (G r) (N r) - wholes (G r) i)))), (6, .int (nI i - 1))] [] S1 by
    have := key (N r) S fp (Nat.le_refl _) hp (fun x h1 h2 => by omega) aq_fr.rf
    rw [Nat.sub_self, Nat.pow_zero, Nat.div_one] at this
    refine ar_push i_X7_completes_9 ?_
    refine ar_ar i_X7_completes_10 rfl ?_
    refine ar_st i_X7_completes_11 rfl rfl ?_
    exact this
  intro i
  induction i with
  | zero =>
    intro S1 F hi hF hag hfr
    refine ar_ld i_X7_completes_13 rfl rfl ?_
    refine ar_ift i_X7_completes_15 rfl (by decide +kernel) ?_
    exact ar_retv i_X7_completes_78 ⟨rfl, ⟨F, hF, fun x hx => hag x (by omega) hx⟩, hfr⟩
  | succ i ih =>
    intro S1 F hi hF hag hfr
    have o1 := h.fr hfr (by omega)
    have u2 := w2.fr hfr (by omega)
    rw [nI_pred]
    refine ar_ld i_X7_completes_13 rfl rfl ?_
    refine ar_iff i_X7_completes_15 rfl (nI_pos (by omega)) ?_
    refine ar_ld i_X7_completes_18 rfl rfl ?_
    refine ar_gf i_X7_completes_19 (o1) rfl ?_
    refine ar_ld i_X7_completes_22 rfl rfl ?_
    refine ar_ld i_X7_completes_24 rfl rfl ?_
    refine ar_ld i_X7_completes_25 rfl rfl ?_
    refine ar_ld i_X7_completes_26 rfl rfl ?_
    refine ar_cr i_X7_completes_28 rfl ⟨_, _, _, rfl, o1⟩ (Nat.le_of_ble_eq_true rfl) (m_at d o1 u2 hr (i := i) (by omega)) ?_
    rw [w4 r hr i (by omega)]
    refine av_sti i_X7_completes_31 (by omega) (hF) (by omega) (by omega) (fun S2 g2 k2 => ?_)
    have o2 := o1.fr k2 (by omega)
    have g2 : ia S2 55 40 (upd F i (G r i)) := g2
    refine ar_ld i_X7_completes_32 rfl rfl ?_
    refine ar_gf i_X7_completes_33 (o2) rfl ?_
    refine ar_ld i_X7_completes_36 rfl rfl ?_
    refine av_ldi i_X7_completes_38 (g2) (by omega) (by omega) ?_
    rw [upd_eq]
    refine ar_push i_X7_completes_39 ?_
    have hd1 : num / kk ^ (wholes (G r) (N r) - wholes (G r) (i + 1)) < 2 ^ 63 := Nat.lt_of_le_of_lt (Nat.div_le_self _ _) hnum
    have hfr2 := hfr.tr k2
    by_cases c24 : G r i = -1
    · have hmono := wholes_mono (G r) (show i + 1 ≤ N r from hi)
      rw [wholes_y c24] at hmono
      refine ar_ift i_X7_completes_40 rfl (c24) ?_
      refine ar_ld i_X7_completes_46 rfl rfl ?_
      refine ar_gf i_X7_completes_47 (o2) rfl ?_
      refine ar_ld i_X7_completes_50 rfl rfl ?_
      refine ar_ld i_X7_completes_52 rfl rfl ?_
      refine ar_ld i_X7_completes_54 rfl rfl ?_
      refine ar_gf i_X7_completes_55 (o2) rfl ?_
      refine ar_ar i_X7_completes_58 rfl ?_
      rw [nI_l (show kk < 2 ^ 31 by omega)]
      refine ar_arc i_X7_completes_59 rfl (fun z => by rw [show (0 : Int64) = lN 0 from rfl, pk_lEQ (by omega) (by omega)] at z; omega) ?_
      rw [pk_lRem hd1 hk0 (by omega)]
      refine ar_ar i_X7_completes_60 rfl ?_
      rw [lN_i]
      refine av_sti i_X7_completes_61 (by omega) (g2) (by omega) (by omega) (fun S3 g3 k3 => ?_)
      have o3 := o2.fr k3 (by omega)
      refine ar_ld i_X7_completes_62 rfl rfl ?_
      refine ar_ld i_X7_completes_64 rfl rfl ?_
      refine ar_gf i_X7_completes_65 (o3) rfl ?_
      refine ar_ar i_X7_completes_68 rfl ?_
      rw [nI_l (show kk < 2 ^ 31 by omega)]
      refine ar_arc i_X7_completes_69 rfl (fun z => by rw [show (0 : Int64) = lN 0 from rfl, pk_lEQ (by omega) (by omega)] at z; omega) ?_
      rw [pk_lDiv hd1 hk0 (by omega), Nat.div_div_eq_div_mul, ← Nat.pow_succ]
      refine ar_st i_X7_completes_70 rfl rfl ?_
      refine ar_inc i_X7_completes_72 rfl rfl ?_
      refine ar_go i_X7_completes_75 ?_
      have := ih S3 _ (by omega) g3 (fun x hx hxn => by
        by_cases e : x = i
        · rw [e, upd_eq]; exact (if_pos c24).symm
        · rw [upd_ne e, upd_ne e]; exact hag x (by omega) hxn) (hfr2.tr k3)
      rw [show (wholes (G r) (N r) - wholes (G r) (i + 1)).succ = wholes (G r) (N r) - wholes (G r) i by rw [wholes_y c24]; omega]
      rw [Int32.sub_eq_add_neg] at this
      exact this
    · refine ar_iff i_X7_completes_40 rfl (c24) ?_
      refine ar_go i_X7_completes_43 ?_
      refine ar_inc i_X7_completes_72 rfl rfl ?_
      refine ar_go i_X7_completes_75 ?_
      have := ih S2 _ (by omega) g2 (fun x hx hxn => by
        by_cases e : x = i
        · rw [e, upd_eq]; exact (if_neg c24).symm
        · rw [upd_ne e]; exact hag x (by omega) hxn) hfr2
      rw [wholes_n c24]
      rw [Int32.sub_eq_add_neg] at this
      exact this
theorem m_complete_r (d : Nat) {S : aq_S} {th k il err rd tl pc lo cur hs sv : Int32} {a0 : Int32} {a1 : Int64} {a2 : Int32} (h : mO S th k il err rd tl pc lo cur hs sv) (hp : a0 < 0 ∨ nI 4 ≤ a0) : aX (d + 2) 172 [.ref 52, .int a0, .long a1, .int a2] S (fun o S' => o = .inl (some (.int 0)) ∧ mO S' (1) k il err rd tl pc lo cur hs sv ∧ aq_fr S S' (fun q => q = 52)) := by
  refine ar_run (Nat.le_of_ble_eq_true rfl) (fun o S1 h => h.2.2.le) ?_
  refine ar_ld i_X7_complete_0 rfl rfl ?_
  refine ar_cr i_X7_complete_1 rfl trivial (Nat.le_of_ble_eq_true rfl) (m_isReg_no d hp) ?_
  refine ar_ift i_X7_complete_4 rfl (by decide) ?_
  refine ar_ld i_X7_complete_15 rfl rfl ?_
  refine ar_push i_X7_complete_16 ?_
  refine av_cr i_X7_complete_17 rfl ⟨_, _, _, rfl, (h)⟩ (Nat.le_of_ble_eq_true rfl) (m_fails d h 1) (fun S1 q1 => ?_)
  exact ar_ret i_X7_complete_20 rfl ⟨rfl, q1⟩
theorem m_complete_r2 (d : Nat) {S : aq_S} {th k il err rd tl pc lo cur hs sv : Int32} {r0 : Nat} {a1 : Int64} {a2 : Int32} (h : mO S th k il err rd tl pc lo cur hs sv) (h0 : r0 < 4) (hp : a2 < 0 ∨ nI 4 ≤ a2) : aX (d + 2) 172 [.ref 52, .int (nI r0), .long a1, .int a2] S (fun o S' => o = .inl (some (.int 0)) ∧ mO S' (1) k il err rd tl pc lo cur hs sv ∧ aq_fr S S' (fun q => q = 52)) := by
  refine ar_run (Nat.le_of_ble_eq_true rfl) (fun o S1 h => h.2.2.le) ?_
  refine ar_ld i_X7_complete_0 rfl rfl ?_
  refine ar_cr i_X7_complete_1 rfl trivial (Nat.le_of_ble_eq_true rfl) (m_isReg d h0) ?_
  refine ar_iff i_X7_complete_4 rfl (by decide) ?_
  refine ar_ld i_X7_complete_7 rfl rfl ?_
  refine ar_cr i_X7_complete_9 rfl trivial (Nat.le_of_ble_eq_true rfl) (m_isReg_no d hp) ?_
  refine ar_iff i_X7_complete_12 rfl (by decide) ?_
  refine ar_ld i_X7_complete_15 rfl rfl ?_
  refine ar_push i_X7_complete_16 ?_
  refine av_cr i_X7_complete_17 rfl ⟨_, _, _, rfl, (h)⟩ (Nat.le_of_ble_eq_true rfl) (m_fails d h 1) (fun S1 q1 => ?_)
  exact ar_ret i_X7_complete_20 rfl ⟨rfl, q1⟩
theorem m_complete_b (d : Nat) {S : aq_S} {r t n : Nat} {a : Int64} {th il err rd tl pc lo cur hs sv : Int32} {N : Nat → Nat} {G : Nat → Nat → Int32} (h : mO S th (nI n) il err rd tl pc lo cur hs sv) (hw : mW S N G) (hn : n ≤ 3) (hr : r < 4) (ht : t < 4) (hb : cBig n (wholes (G r) (N r))) : aX (d + 4) 172 [.ref 52, .int (nI r), .long a, .int (nI t)] S (fun o S' => o = .inl (some (.int 0)) ∧ mO S' 2 (nI n) il err rd tl pc lo cur hs sv ∧ aq_fr S S' (fun q => q = 52)) := by
  refine ar_run (Nat.le_of_ble_eq_true rfl) (fun o S1 h => h.2.2.le) ?_
  refine ar_ld i_X7_complete_0 rfl rfl ?_
  refine ar_cr i_X7_complete_1 rfl trivial (Nat.le_of_ble_eq_true rfl) (m_isReg (d + 2) hr) ?_
  refine ar_iff i_X7_complete_4 rfl (by decide) ?_
  refine ar_ld i_X7_complete_7 rfl rfl ?_
  refine ar_cr i_X7_complete_9 rfl trivial (Nat.le_of_ble_eq_true rfl) (m_isReg (d + 2) ht) ?_
  refine ar_ift i_X7_complete_12 rfl (by decide) ?_
  refine ar_ld i_X7_complete_21 rfl rfl ?_
  refine ar_ld i_X7_complete_22 rfl rfl ?_
  refine ar_cr i_X7_complete_23 rfl ⟨_, _, _, rfl, (h)⟩ (Nat.le_of_ble_eq_true rfl) (m_isBeyond d h hw hn hr) ?_
  refine ar_iff i_X7_complete_26 rfl (fun z => bI_nz.mpr hb z) ?_
  refine ar_ld i_X7_complete_29 rfl rfl ?_
  refine ar_push i_X7_complete_30 ?_
  refine av_cr i_X7_complete_31 rfl ⟨_, _, _, rfl, (h)⟩ (Nat.le_of_ble_eq_true rfl) (m_fails (d + 2) h 2) (fun S1 q1 => ?_)
  exact ar_ret i_X7_complete_34 rfl ⟨rfl, q1⟩
theorem m_complete_n (d : Nat) {S : aq_S} {r t n : Nat} {a : Int64} {th il err rd tl pc lo cur hs sv : Int32} {N : Nat → Nat} {G : Nat → Nat → Int32} (h : mO S th (nI n) il err rd tl pc lo cur hs sv) (hw : mW S N G) (hn0 : 0 < n) (hn : n ≤ 3) (hr : r < 4) (ht : t < 4) (hb : ¬ cBig n (wholes (G r) (N r))) (ha : a < 0 ∨ lN (n ^ wholes (G r) (N r)) ≤ a) : aX (d + 4) 172 [.ref 52, .int (nI r), .long a, .int (nI t)] S (fun o S' => o = .inl (some (.int 0)) ∧ mO S' 3 (nI n) il err rd tl pc lo cur hs sv ∧ aq_fr S S' (fun q => q = 52)) := by
  have hN : wholes (G r) (N r) ≤ 40 := by
    obtain ⟨fl, fw, w1, w2, w3, w4⟩ := hw
    have := (w3 r hr).2
    have := wholes_le (G r) (N r)
    omega
  have hpw := pw_lt hn hN hb
  have hp0 : 0 < n ^ wholes (G r) (N r) := Nat.pow_pos hn0
  refine ar_run (Nat.le_of_ble_eq_true rfl) (fun o S1 h => h.2.2.le) ?_
  refine ar_ld i_X7_complete_0 rfl rfl ?_
  refine ar_cr i_X7_complete_1 rfl trivial (Nat.le_of_ble_eq_true rfl) (m_isReg (d + 2) hr) ?_
  refine ar_iff i_X7_complete_4 rfl (by decide) ?_
  refine ar_ld i_X7_complete_7 rfl rfl ?_
  refine ar_cr i_X7_complete_9 rfl trivial (Nat.le_of_ble_eq_true rfl) (m_isReg (d + 2) ht) ?_
  refine ar_ift i_X7_complete_12 rfl (by decide) ?_
  refine ar_ld i_X7_complete_21 rfl rfl ?_
  refine ar_ld i_X7_complete_22 rfl rfl ?_
  refine ar_cr i_X7_complete_23 rfl ⟨_, _, _, rfl, (h)⟩ (Nat.le_of_ble_eq_true rfl) (m_isBeyond d h hw hn hr) ?_
  refine ar_ift i_X7_complete_26 rfl (bI_f hb) ?_
  refine ar_ld i_X7_complete_35 rfl rfl ?_
  refine ar_push i_X7_complete_36 ?_
  refine ar_ld i_X7_complete_37 rfl rfl ?_
  refine ar_ld i_X7_complete_38 rfl rfl ?_
  refine ar_cr i_X7_complete_39 rfl ⟨_, _, _, rfl, (h)⟩ (Nat.le_of_ble_eq_true rfl) (m_completionsOf d h hw hn hr) ?_
  refine ar_push i_X7_complete_42 ?_
  refine ar_ar i_X7_complete_43 rfl ?_
  rw [show lN (n ^ wholes (G r) (N r)) - 1 = lN (n ^ wholes (G r) (N r)) - lN 1 from rfl, lN_sub hp0]
  refine ar_cr i_X7_complete_44 rfl trivial (Nat.le_of_ble_eq_true rfl) (m_isBetween (d + 2)) ?_
  have e : ¬ ((0 : Int64) ≤ a ∧ a ≤ lN (n ^ wholes (G r) (N r) - 1)) := fun z => by
    rcases ha with ha | ha
    · exact absurd ha (Int64.not_lt.mpr z.1)
    · have := Int64.le_trans ha z.2
      rw [pk_lLE hpw (by omega)] at this
      omega
  refine ar_iff i_X7_complete_47 rfl (fun z => z (bI_f e)) ?_
  refine ar_ld i_X7_complete_50 rfl rfl ?_
  refine ar_push i_X7_complete_51 ?_
  refine av_cr i_X7_complete_52 rfl ⟨_, _, _, rfl, (h)⟩ (Nat.le_of_ble_eq_true rfl) (m_fails (d + 2) h 3) (fun S1 q1 => ?_)
  exact ar_ret i_X7_complete_55 rfl ⟨rfl, q1⟩
theorem m_complete (d : Nat) {S : aq_S} {r t n num : Nat} {th il err rd tl pc lo cur hs sv : Int32} {N : Nat → Nat} {G : Nat → Nat → Int32} (h : mO S th (nI n) il err rd tl pc lo cur hs sv) (hw : mW S N G) (hp : mP S) (hn0 : 0 < n) (hn : n ≤ 3) (hr : r < 4) (ht : t < 4) (hb : ¬ cBig n (wholes (G r) (N r))) (ha : num < n ^ wholes (G r) (N r)) : aX (d + 4) 172 [.ref 52, .int (nI r), .long (lN num), .int (nI t)] S (fun o S' => o = .inl (some (.int (nI (N r)))) ∧ (mO S' 0 (nI n) il err rd tl pc lo cur hs sv ∧ mW S' (updN N t (N r)) (updG G t (wdig n (G r) (N r) num)) ∧ mP S') ∧ aq_fr S S' (fun q => 52 ≤ q ∧ q ≤ 55)) := by
  have hw0 := hw
  obtain ⟨fp, w5⟩ := hp
  obtain ⟨fl, fw, w1, w2, w3, w4⟩ := hw
  have hNr := (w3 r hr).2
  have hN : wholes (G r) (N r) ≤ 40 := by
    have := wholes_le (G r) (N r)
    omega
  have hpw := pw_lt hn hN hb
  have hnum : num < 2 ^ 63 := by omega
  refine ar_run (Nat.le_of_ble_eq_true rfl) (fun o S1 h => h.2.2.le) ?_
  refine ar_ld i_X7_complete_0 rfl rfl ?_
  refine ar_cr i_X7_complete_1 rfl trivial (Nat.le_of_ble_eq_true rfl) (m_isReg (d + 2) hr) ?_
  refine ar_iff i_X7_complete_4 rfl (by decide) ?_
  refine ar_ld i_X7_complete_7 rfl rfl ?_
  refine ar_cr i_X7_complete_9 rfl trivial (Nat.le_of_ble_eq_true rfl) (m_isReg (d + 2) ht) ?_
  refine ar_ift i_X7_complete_12 rfl (by decide) ?_
  refine ar_ld i_X7_complete_21 rfl rfl ?_
  refine ar_ld i_X7_complete_22 rfl rfl ?_
  refine ar_cr i_X7_complete_23 rfl ⟨_, _, _, rfl, (h)⟩ (Nat.le_of_ble_eq_true rfl) (m_isBeyond d h hw0 hn hr) ?_
  refine ar_ift i_X7_complete_26 rfl (bI_f hb) ?_
  refine ar_ld i_X7_complete_35 rfl rfl ?_
  refine ar_push i_X7_complete_36 ?_
  refine ar_ld i_X7_complete_37 rfl rfl ?_
  refine ar_ld i_X7_complete_38 rfl rfl ?_
  refine ar_cr i_X7_complete_39 rfl ⟨_, _, _, rfl, (h)⟩ (Nat.le_of_ble_eq_true rfl) (m_completionsOf d h hw0 hn hr) ?_
  refine ar_push i_X7_complete_42 ?_
  refine ar_ar i_X7_complete_43 rfl ?_
  rw [show lN (n ^ wholes (G r) (N r)) - 1 = lN (n ^ wholes (G r) (N r)) - lN 1 from rfl, lN_sub (by omega)]
  refine ar_cr i_X7_complete_44 rfl trivial (Nat.le_of_ble_eq_true rfl) (m_isBetween (d + 2)) ?_
  refine ar_ift i_X7_complete_47 rfl (bI_nz.mpr ⟨(pk_lLE (a := 0) (by omega) hnum).mpr (Nat.zero_le _), (pk_lLE hnum (by omega)).mpr (by omega)⟩) ?_
  refine ar_ld i_X7_complete_56 rfl rfl ?_
  refine ar_push i_X7_complete_57 ?_
  refine av_pf i_X7_complete_58 (h) (Nat.le_of_ble_eq_true rfl) (rfl) rfl (fun S1 g1 k1 => ?_)
  have o1 : mO S1 0 (nI n) il err rd tl pc lo cur hs sv := g1
  refine ar_ld i_X7_complete_61 rfl rfl ?_
  refine ar_ld i_X7_complete_62 rfl rfl ?_
  refine ar_ld i_X7_complete_63 rfl rfl ?_
  refine av_cv i_X7_complete_64 rfl ⟨_, _, _, rfl, o1⟩ (Nat.le_of_ble_eq_true rfl) (m_completes (d + 1) o1 (hw0.fr k1 (by omega) (by omega)) (w5.fr k1 (by omega)) hn0 hn hr hnum) (fun S2 q2 => ?_)
  obtain ⟨⟨F, q5, q6⟩, q7⟩ := q2
  have o2 := o1.fr q7 (by omega)
  have u1 := (w1.fr k1 (by omega)).fr q7 (by omega)
  have u2 := (w2.fr k1 (by omega)).fr q7 (by omega)
  refine ar_ld i_X7_complete_67 rfl rfl ?_
  refine ar_gf i_X7_complete_68 (o2) rfl ?_
  refine ar_ld i_X7_complete_71 rfl rfl ?_
  refine ar_ld i_X7_complete_73 rfl rfl ?_
  refine ar_gf i_X7_complete_74 (o2) rfl ?_
  refine ar_ld i_X7_complete_77 rfl rfl ?_
  refine av_ldi i_X7_complete_78 (u1) (by omega) (by omega) ?_
  rw [(w3 r hr).1]
  refine av_sti i_X7_complete_79 (by omega) (u1) (by omega) (by omega) (fun S3 g3 k3 => ?_)
  have o3 := o2.fr k3 (by omega)
  have g3 : ia S3 53 4 (upd fl t (nI (N r))) := g3
  refine ar_ld i_X7_complete_80 rfl rfl ?_
  refine ar_ld i_X7_complete_81 rfl rfl ?_
  refine av_cr i_X7_complete_83 rfl ⟨_, _, _, rfl, o3⟩ (Nat.le_of_ble_eq_true rfl) (m_replaces (d + 1) o3 g3 (u2.fr k3 (by omega)) (q5.fr k3 (by omega)) ht upd_eq hNr) (fun S4 q4 => ?_)
  obtain ⟨⟨fw', v1, v2, v3⟩, v4⟩ := q4
  have o4 := o3.fr v4 (by omega)
  have x1 := g3.fr v4 (by omega)
  refine ar_ar i_X7_complete_86 rfl ?_
  refine ar_ld i_X7_complete_87 rfl rfl ?_
  refine ar_gf i_X7_complete_88 (o4) rfl ?_
  refine ar_ld i_X7_complete_91 rfl rfl ?_
  refine av_ldi i_X7_complete_93 (x1) (by omega) (by omega) ?_
  rw [upd_eq]
  refine ar_ret i_X7_complete_94 rfl ⟨rfl, ⟨o4, ⟨_, fw', x1, v1, ?_⟩, F, (q5.fr k3 (by omega)).fr v4 (by omega)⟩, ((k1.mono (fun q z => by omega)).tr (q7.mono (fun q z => by omega))).tr ((k3.mono (fun q z => by omega)).tr (v4.mono (fun q z => by omega)))⟩
  exact mW_put ht hNr w3 w4 upd_eq (fun x hx e => upd_ne e) (fun i hi => by rw [v2 i hi]; exact q6 i hi) v3
theorem pb_iff {p : Int32} : ((1 : Int64) ≤ p.toInt64 ∧ p.toInt64 ≤ 1000) ↔ ((1 : Int32) ≤ p ∧ p ≤ 1000) := by
  have a := i2l_le (a := 1) (by omega) p (b := 0)
  have b := i2l_ge (a := 1000) (by omega) p
  exact and_congr a b
theorem pb_iff1 {p : Int32} : ((0 : Int64) ≤ p.toInt64 ∧ p.toInt64 ≤ 1) ↔ ((0 : Int32) ≤ p ∧ p ≤ 1) := by
  have a := i2l_le (a := 0) (by omega) p (b := 0)
  have b := i2l_ge (a := 1) (by omega) p
  exact and_congr a b
theorem m_periodBound_no (d : Nat) {S : aq_S} {p q v : Int32} {th k il err rd tl pc lo cur hs sv : Int32} (h : mO S th k il err rd tl pc lo cur hs sv) (hb : ¬ (((1 : Int32) ≤ p ∧ p ≤ 1000) ∧ ((1 : Int32) ≤ q ∧ q ≤ 1000) ∧ (0 ≤ v ∧ v ≤ 1))) : aX (d + 2) 163 [.ref 52, .int p, .int q, .int v] S (fun o S' => o = .inl (some (.int 0)) ∧ mO S' (1) k il err rd tl pc lo cur hs sv ∧ aq_fr S S' (fun q => q = 52)) := by
  refine ar_run (Nat.le_of_ble_eq_true rfl) (fun o S1 h => h.2.2.le) ?_
  have fin : aG (d + 1) 163 (fun o S' => o = .inl (some (.int 0)) ∧ mO S' (1) k il err rd tl pc lo cur hs sv ∧ aq_fr S S' (fun q => q = 52)) 34 [(0, .ref 52), (1, .int p), (2, .int q), (3, .int v)] [] S := by
    refine ar_ld i_X7_periodBound_34 rfl rfl ?_
    refine ar_push i_X7_periodBound_35 ?_
    refine av_cr i_X7_periodBound_36 rfl ⟨_, _, _, rfl, (h)⟩ (Nat.le_of_ble_eq_true rfl) (m_fails d h 1) (fun S1 q1 => ?_)
    exact ar_ret i_X7_periodBound_39 rfl ⟨rfl, q1⟩
  refine ar_ld i_X7_periodBound_0 rfl rfl ?_
  refine ar_ar i_X7_periodBound_1 rfl ?_
  refine ar_push i_X7_periodBound_2 ?_
  refine ar_push i_X7_periodBound_3 ?_
  refine ar_cr i_X7_periodBound_6 rfl trivial (Nat.le_of_ble_eq_true rfl) (m_isBetween d) ?_
  by_cases h1 : (1 : Int32) ≤ p ∧ p ≤ 1000
  · refine ar_iff i_X7_periodBound_9 rfl (bI_nz.mpr (pb_iff.mpr h1)) ?_
    refine ar_ld i_X7_periodBound_12 rfl rfl ?_
    refine ar_ar i_X7_periodBound_13 rfl ?_
    refine ar_push i_X7_periodBound_14 ?_
    refine ar_push i_X7_periodBound_15 ?_
    refine ar_cr i_X7_periodBound_18 rfl trivial (Nat.le_of_ble_eq_true rfl) (m_isBetween d) ?_
    by_cases h2 : (1 : Int32) ≤ q ∧ q ≤ 1000
    · refine ar_iff i_X7_periodBound_21 rfl (bI_nz.mpr (pb_iff.mpr h2)) ?_
      refine ar_ld i_X7_periodBound_24 rfl rfl ?_
      refine ar_ar i_X7_periodBound_25 rfl ?_
      refine ar_push i_X7_periodBound_26 ?_
      refine ar_push i_X7_periodBound_27 ?_
      refine ar_cr i_X7_periodBound_28 rfl trivial (Nat.le_of_ble_eq_true rfl) (m_isBetween d) ?_
      refine ar_iff i_X7_periodBound_31 rfl (fun z => z (bI_f (fun u => hb ⟨h1, h2, pb_iff1.mp u⟩))) ?_
      exact fin
    · refine ar_ift i_X7_periodBound_21 rfl (bI_f (fun u => h2 (pb_iff.mp u))) ?_
      exact fin
  · refine ar_ift i_X7_periodBound_9 rfl (bI_f (fun u => h1 (pb_iff.mp u))) ?_
    exact fin
theorem m_periodBound (d : Nat) {S : aq_S} (p q v : Nat) {th k il err rd tl pc lo cur hs sv : Int32} (h : mO S th k il err rd tl pc lo cur hs sv) (hp0 : 0 < p) (hp : p ≤ 1000) (hq0 : 0 < q) (hq : q ≤ 1000) (hv : v ≤ 1) : aX (d + 2) 163 [.ref 52, .int (nI p), .int (nI q), .int (nI v)] S (fun o S' => o = .inl (some (.int (nI (p + q - if v = 0 then Nat.gcd p q else 0)))) ∧ mO S' (0) k il err rd tl pc lo cur hs sv ∧ aq_fr S S' (fun q => q = 52)) := by
  have hg := Nat.gcd_le_left q hp0
  refine ar_run (Nat.le_of_ble_eq_true rfl) (fun o S1 h => h.2.2.le) ?_
  refine ar_ld i_X7_periodBound_0 rfl rfl ?_
  refine ar_ar i_X7_periodBound_1 rfl ?_
  refine ar_push i_X7_periodBound_2 ?_
  refine ar_push i_X7_periodBound_3 ?_
  refine ar_cr i_X7_periodBound_6 rfl trivial (Nat.le_of_ble_eq_true rfl) (m_isBetween d) ?_
  refine ar_iff i_X7_periodBound_9 rfl (bI_nz.mpr ((l_btw (a := 1) (b := 1000) (by omega) (by omega) (by omega)).mpr ⟨hp0, hp⟩)) ?_
  refine ar_ld i_X7_periodBound_12 rfl rfl ?_
  refine ar_ar i_X7_periodBound_13 rfl ?_
  refine ar_push i_X7_periodBound_14 ?_
  refine ar_push i_X7_periodBound_15 ?_
  refine ar_cr i_X7_periodBound_18 rfl trivial (Nat.le_of_ble_eq_true rfl) (m_isBetween d) ?_
  refine ar_iff i_X7_periodBound_21 rfl (bI_nz.mpr ((l_btw (a := 1) (b := 1000) (by omega) (by omega) (by omega)).mpr ⟨hq0, hq⟩)) ?_
  refine ar_ld i_X7_periodBound_24 rfl rfl ?_
  refine ar_ar i_X7_periodBound_25 rfl ?_
  refine ar_push i_X7_periodBound_26 ?_
  refine ar_push i_X7_periodBound_27 ?_
  refine ar_cr i_X7_periodBound_28 rfl trivial (Nat.le_of_ble_eq_true rfl) (m_isBetween d) ?_
  refine ar_ift i_X7_periodBound_31 rfl (bI_nz.mpr ((l_btw (a := 0) (b := 1) (by omega) (by omega) (by omega)).mpr ⟨Nat.zero_le _, hv⟩)) ?_
  refine ar_ld i_X7_periodBound_40 rfl rfl ?_
  refine ar_push i_X7_periodBound_41 ?_
  refine av_pf i_X7_periodBound_42 (h) (Nat.le_of_ble_eq_true rfl) (rfl) rfl (fun S1 g1 k1 => ?_)
  have o1 : mO S1 (0) k il err rd tl pc lo cur hs sv := g1
  refine ar_ld i_X7_periodBound_45 rfl rfl ?_
  refine ar_st i_X7_periodBound_46 rfl rfl ?_
  refine ar_ld i_X7_periodBound_48 rfl rfl ?_
  refine ar_st i_X7_periodBound_49 rfl rfl ?_
  suffices key : ∀ fu a b (L6 : List (Nat × Value)), b ≤ fu → a ≤ 1000 → b ≤ 1000 → Nat.gcd b a = Nat.gcd p q → (L6 = [] ∨ ∃ u, L6 = [(6, .int u)]) → aG (d + 1) 163 (fun o S' => o = .inl (some (.int (nI (p + q - if v = 0 then Nat.gcd p q else 0)))) ∧ mO S' (0) k il err rd tl pc lo cur hs sv ∧ aq_fr S S' (fun q => q = 52)) 51 ((0, .ref 52) :: (1, .int (nI p)) :: (2, .int (nI q)) :: (3, .int (nI v)) :: (4, .int (nI a)) :: (5, .int (nI b)) :: L6) [] S1 from key q p q [] (Nat.le_refl q) hp hq (Nat.gcd_comm q p) (Or.inl rfl)
  have fin : ∀ a (L6 : List (Nat × Value)), a = Nat.gcd p q → aG (d + 1) 163 (fun o S' => o = .inl (some (.int (nI (p + q - if v = 0 then Nat.gcd p q else 0)))) ∧ mO S' (0) k il err rd tl pc lo cur hs sv ∧ aq_fr S S' (fun q => q = 52)) 51 ((0, .ref 52) :: (1, .int (nI p)) :: (2, .int (nI q)) :: (3, .int (nI v)) :: (4, .int (nI a)) :: (5, .int (nI 0)) :: L6) [] S1 := by
    intro a L6 ha
    refine ar_ld i_X7_periodBound_51 rfl rfl ?_
    refine ar_ift i_X7_periodBound_53 rfl (rfl) ?_
    refine ar_ld i_X7_periodBound_74 rfl rfl ?_
    refine ar_ld i_X7_periodBound_75 rfl rfl ?_
    refine ar_ar i_X7_periodBound_76 rfl ?_
    rw [nI_add]
    refine ar_ld i_X7_periodBound_77 rfl rfl ?_
    by_cases e : v = 0
    · rw [e]
      refine ar_iff i_X7_periodBound_78 rfl (fun z => z rfl) ?_
      refine ar_ld i_X7_periodBound_81 rfl rfl ?_
      refine ar_go i_X7_periodBound_83 ?_
      refine ar_ar i_X7_periodBound_87 rfl ?_
      rw [ha, pk_sub (by omega), if_pos rfl]
      exact ar_ret i_X7_periodBound_88 rfl ⟨rfl, o1, k1⟩
    · refine ar_ift i_X7_periodBound_78 rfl (nI_ne0 (by omega) (by omega)) ?_
      refine ar_push i_X7_periodBound_86 ?_
      refine ar_ar i_X7_periodBound_87 rfl ?_
      rw [show nI (p + q) - 0 = nI (p + q) from pk_sub (b := 0) (Nat.zero_le (p + q)), if_neg e]
      exact ar_ret i_X7_periodBound_88 rfl ⟨rfl, o1, k1⟩
  intro fu
  induction fu with
  | zero =>
    intro a b L6 hb ha hb2 hgcd hL
    have hb : b ≤ 0 := hb
    have e : b = 0 := by omega
    subst e
    exact fin a L6 (by rw [← hgcd, Nat.gcd_zero_left])
  | succ fu ih =>
    intro a b L6 hb ha hb2 hgcd hL
    by_cases e : b = 0
    · subst e
      exact fin a L6 (by rw [← hgcd, Nat.gcd_zero_left])
    · have hmod := Nat.mod_lt a (show 0 < b by omega)
      have start := ih b (a % b) [(6, .int (nI (a % b)))] (by omega) hb2 (by omega) (by rw [← hgcd, Nat.gcd_rec b a]) (Or.inr ⟨_, rfl⟩)
      have body : aG (d + 1) 163 (fun o S' => o = .inl (some (.int (nI (p + q - if v = 0 then Nat.gcd p q else 0)))) ∧ mO S' (0) k il err rd tl pc lo cur hs sv ∧ aq_fr S S' (fun q => q = 52)) 63 [(0, .ref 52), (1, .int (nI p)), (2, .int (nI q)), (3, .int (nI v)), (4, .int (nI a)), (5, .int (nI b)), (6, .int (nI (a % b)))] [] S1 := by
        refine ar_ld i_X7_periodBound_63 rfl rfl ?_
        refine ar_st i_X7_periodBound_65 rfl rfl ?_
        refine ar_ld i_X7_periodBound_67 rfl rfl ?_
        refine ar_st i_X7_periodBound_69 rfl rfl ?_
        refine ar_go i_X7_periodBound_71 ?_
        exact start
      rcases hL with eL | ⟨u, eL⟩
      · subst eL
        refine ar_ld i_X7_periodBound_51 rfl rfl ?_
        refine ar_iff i_X7_periodBound_53 rfl (nI_ne0 (by omega) (by omega)) ?_
        refine ar_ld i_X7_periodBound_56 rfl rfl ?_
        refine ar_ld i_X7_periodBound_58 rfl rfl ?_
        refine ar_arc i_X7_periodBound_60 rfl (nI_ne0 (by omega) (by omega)) ?_
        rw [pk_rem (by omega) (by omega) (by omega)]
        refine ar_st i_X7_periodBound_61 rfl rfl ?_
        exact body
      · subst eL
        refine ar_ld i_X7_periodBound_51 rfl rfl ?_
        refine ar_iff i_X7_periodBound_53 rfl (nI_ne0 (by omega) (by omega)) ?_
        refine ar_ld i_X7_periodBound_56 rfl rfl ?_
        refine ar_ld i_X7_periodBound_58 rfl rfl ?_
        refine ar_arc i_X7_periodBound_60 rfl (nI_ne0 (by omega) (by omega)) ?_
        rw [pk_rem (by omega) (by omega) (by omega)]
        refine ar_st i_X7_periodBound_61 rfl rfl ?_
        exact body
end
