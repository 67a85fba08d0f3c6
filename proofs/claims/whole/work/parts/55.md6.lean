/-! ===== the reference: addPattern, removePattern, join ===== -/
section
theorem m_addPattern_r (d : Nat) {S : aq_S} {th k il err rd tl pc lo cur hs sv : Int32} {a0 : Int32} (h : mO S th k il err rd tl pc lo cur hs sv) (hp : a0 < 0 ∨ nI 4 ≤ a0) : aX (d + 2) 179 [.ref 52, .int a0] S (fun o S' => o = .inl (some (.int 0)) ∧ mO S' (1) k il err rd tl pc lo cur hs sv ∧ aq_fr S S' (fun q => q = 52)) := by
  refine ar_run (Nat.le_of_ble_eq_true rfl) (fun o S1 h => h.2.2.le) ?_
  refine ar_ld i_X7_addPattern_0 rfl rfl ?_
  refine ar_cr i_X7_addPattern_1 rfl trivial (Nat.le_of_ble_eq_true rfl) (m_isReg_no d hp) ?_
  refine ar_iff i_X7_addPattern_4 rfl (by decide) ?_
  refine ar_ld i_X7_addPattern_7 rfl rfl ?_
  refine ar_push i_X7_addPattern_8 ?_
  refine av_cr i_X7_addPattern_9 rfl ⟨_, _, _, rfl, (h)⟩ (Nat.le_of_ble_eq_true rfl) (m_fails d h 1) (fun S1 q1 => ?_)
  exact ar_ret i_X7_addPattern_12 rfl ⟨rfl, q1⟩
theorem m_addPattern_n (d : Nat) {S : aq_S} {r c : Nat} {N : Nat → Nat} {G : Nat → Nat → Int32} {th k il err rd tl lo cur hs sv : Int32} (h : mO S th k il err rd tl (nI c) lo cur hs sv) (hw : mW S N G) (hc : c ≤ 12) (hr : r < 4) (hb : c = 12 ∨ N r = 0 ∨ 5 < N r) : aX (d + 2) 179 [.ref 52, .int (nI r)] S (fun o S' => o = .inl (some (.int 0)) ∧ mO S' 2 k il err rd tl (nI c) lo cur hs sv ∧ aq_fr S S' (fun q => q = 52)) := by
  obtain ⟨fl, fw, w1, w2, w3, w4⟩ := hw
  have hN := (w3 r hr).2
  refine ar_run (Nat.le_of_ble_eq_true rfl) (fun o S1 h => h.2.2.le) ?_
  refine ar_ld i_X7_addPattern_0 rfl rfl ?_
  refine ar_cr i_X7_addPattern_1 rfl trivial (Nat.le_of_ble_eq_true rfl) (m_isReg d hr) ?_
  refine ar_ift i_X7_addPattern_4 rfl (by decide) ?_
  refine ar_ld i_X7_addPattern_13 rfl rfl ?_
  refine ar_gf i_X7_addPattern_14 (h) rfl ?_
  refine ar_push i_X7_addPattern_17 ?_
  by_cases e12 : c = 12
  · subst e12
    refine ar_ift i_X7_addPattern_19 rfl (rfl) ?_
    refine ar_ld i_X7_addPattern_39 rfl rfl ?_
    refine ar_push i_X7_addPattern_40 ?_
    refine av_cr i_X7_addPattern_41 rfl ⟨_, _, _, rfl, (h)⟩ (Nat.le_of_ble_eq_true rfl) (m_fails d h 2) (fun S1 q1 => ?_)
    exact ar_ret i_X7_addPattern_44 rfl ⟨rfl, q1⟩
  · refine ar_iff i_X7_addPattern_19 rfl (fun z => e12 (nI_inj (b := 12) (by omega) (by omega) z)) ?_
    refine ar_ld i_X7_addPattern_22 rfl rfl ?_
    refine ar_gf i_X7_addPattern_23 (h) rfl ?_
    refine ar_ld i_X7_addPattern_26 rfl rfl ?_
    refine av_ldi i_X7_addPattern_27 (w1) (by omega) (by omega) ?_
    rw [(w3 r hr).1]
    refine ar_ar i_X7_addPattern_28 rfl ?_
    refine ar_push i_X7_addPattern_29 ?_
    refine ar_push i_X7_addPattern_30 ?_
    refine ar_cr i_X7_addPattern_33 rfl trivial (Nat.le_of_ble_eq_true rfl) (m_isBetween d) ?_
    have e : ¬ ((1 : Int64) ≤ (nI (N r)).toInt64 ∧ (nI (N r)).toInt64 ≤ 5) := fun z => by
      have z1 := (i2l_le (b := 0) (a := 1) (by omega) _).mp z.1
      have z2 := (i2l_ge (a := 5) (by omega) _).mp z.2
      have z3 := (nI_leI (by omega) (by omega)).mp z1
      have z4 := (nI_leI (by omega) (by omega)).mp z2
      omega
    refine ar_iff i_X7_addPattern_36 rfl (fun z => z (bI_f e)) ?_
    refine ar_ld i_X7_addPattern_39 rfl rfl ?_
    refine ar_push i_X7_addPattern_40 ?_
    refine av_cr i_X7_addPattern_41 rfl ⟨_, _, _, rfl, (h)⟩ (Nat.le_of_ble_eq_true rfl) (m_fails d h 2) (fun S1 q1 => ?_)
    exact ar_ret i_X7_addPattern_44 rfl ⟨rfl, q1⟩
theorem m_addPattern (d : Nat) {S : aq_S} {r c : Nat} {N : Nat → Nat} {G : Nat → Nat → Int32} {pn : Nat → Nat} {pg : Nat → Nat → Int32} {th k il err rd tl lo cur hs sv : Int32} (h : mO S th k il err rd tl (nI c) lo cur hs sv) (hw : mW S N G) (hp : mPt S c pn pg) (hk : pOk c pn pg) (hr : r < 4) (hc : c < 12) (h1 : 1 ≤ N r) (h5 : N r ≤ 5) : aX (d + 2) 179 [.ref 52, .int (nI r)] S (fun o S' => o = .inl (some (.int (nI c))) ∧ (mO S' 0 k il err rd tl (nI (c + 1)) lo cur hs sv ∧ mPt S' (c + 1) (pnAdd c pn (N r)) (pgAdd c pg (G r))) ∧ aq_fr S S' (fun q => q = 52 ∨ q = 58 ∨ q = 59)) := by
  obtain ⟨fl, fw, w1, w2, w3, w4⟩ := hw
  obtain ⟨fL, fp, p1, p2, p3, p4⟩ := hp
  have hN := (w3 r hr).2
  refine ar_run (Nat.le_of_ble_eq_true rfl) (fun o S1 h => h.2.2.le) ?_
  refine ar_ld i_X7_addPattern_0 rfl rfl ?_
  refine ar_cr i_X7_addPattern_1 rfl trivial (Nat.le_of_ble_eq_true rfl) (m_isReg d hr) ?_
  refine ar_ift i_X7_addPattern_4 rfl (by decide) ?_
  refine ar_ld i_X7_addPattern_13 rfl rfl ?_
  refine ar_gf i_X7_addPattern_14 (h) rfl ?_
  refine ar_push i_X7_addPattern_17 ?_
  refine ar_iff i_X7_addPattern_19 rfl (fun z => absurd (nI_inj (b := 12) (by omega) (by omega) z) (by omega)) ?_
  refine ar_ld i_X7_addPattern_22 rfl rfl ?_
  refine ar_gf i_X7_addPattern_23 (h) rfl ?_
  refine ar_ld i_X7_addPattern_26 rfl rfl ?_
  refine av_ldi i_X7_addPattern_27 (w1) (by omega) (by omega) ?_
  rw [(w3 r hr).1]
  refine ar_ar i_X7_addPattern_28 rfl ?_
  refine ar_push i_X7_addPattern_29 ?_
  refine ar_push i_X7_addPattern_30 ?_
  refine ar_cr i_X7_addPattern_33 rfl trivial (Nat.le_of_ble_eq_true rfl) (m_isBetween d) ?_
  refine ar_ift i_X7_addPattern_36 rfl (bI_nz.mpr ⟨(i2l_le (b := 0) (a := 1) (by omega) _).mpr (nI_le h1 (by omega)), (i2l_ge (a := 5) (by omega) _).mpr (nI_le h5 (by omega))⟩) ?_
  refine ar_ld i_X7_addPattern_45 rfl rfl ?_
  refine ar_push i_X7_addPattern_46 ?_
  refine av_pf i_X7_addPattern_47 (h) (Nat.le_of_ble_eq_true rfl) (rfl) rfl (fun S1 g1 k1 => ?_)
  have o1 : mO S1 0 k il err rd tl (nI c) lo cur hs sv := g1
  have u1 := w1.fr k1 (by omega)
  refine ar_ld i_X7_addPattern_50 rfl rfl ?_
  refine ar_gf i_X7_addPattern_51 (o1) rfl ?_
  refine ar_ld i_X7_addPattern_54 rfl rfl ?_
  refine ar_gf i_X7_addPattern_55 (o1) rfl ?_
  refine ar_ld i_X7_addPattern_58 rfl rfl ?_
  refine ar_gf i_X7_addPattern_59 (o1) rfl ?_
  refine ar_ld i_X7_addPattern_62 rfl rfl ?_
  refine av_ldi i_X7_addPattern_63 (u1) (by omega) (by omega) ?_
  rw [(w3 r hr).1]
  refine av_sti i_X7_addPattern_64 (by omega) (p1.fr k1 (by omega)) (by omega) (by omega) (fun S2 g2 k2 => ?_)
  have o2 := o1.fr k2 (by omega)
  refine ar_push i_X7_addPattern_65 ?_
  refine ar_st i_X7_addPattern_66 rfl rfl ?_
  suffices key : ∀ j i (S2 : aq_S) (F : Nat → Int32), i + j = N r → mO S2 0 k il err rd tl (nI c) lo cur hs sv → ia S2 53 4 fl → ia S2 54 160 fw → ia S2 58 12 (upd fL c (nI (N r))) → ia S2 59 60 F → (∀ x, x < i → F (5 * c + x) = G r x) → (∀ x, x < 5 * c → F x = fp x) → aq_fr S S2 (fun q => q = 52 ∨ q = 58 ∨ q = 59) → aG (d + 1) 179 (fun o S' => o = .inl (some (.int (nI c))) ∧ (mO S' 0 k il err rd tl (nI (c + 1)) lo cur hs sv ∧ mPt S' (c + 1) (pnAdd c pn (N r)) (pgAdd c pg (G r))) ∧ aq_fr S S' (fun q => q = 52 ∨ q = 58 ∨ q = 59)) 67 [(0, .ref 52), (1, .int (nI r)), (2, .int (nI i))] [] S2 from key (N r) 0 S2 fp (by omega) o2 (u1.fr k2 (by omega)) ((w2.fr k1 (by omega)).fr k2 (by omega)) g2 ((p2.fr k1 (by omega)).fr k2 (by omega)) (fun x hx => absurd hx (Nat.not_lt_zero x)) (fun x _ => rfl) ((k1.mono (fun q z => Or.inl z)).tr (k2.mono (fun q z => Or.inr (Or.inl z))))
  clear k2 g2 o2 S2 k1 g1 o1 u1 S1
  intro j
  induction j with
  | zero =>
    intro i S2 F hi o2 u1 u2 q1 q2 hag hre hfr
    refine ar_ld i_X7_addPattern_67 rfl rfl ?_
    refine ar_ld i_X7_addPattern_68 rfl rfl ?_
    refine ar_gf i_X7_addPattern_69 (o2) rfl ?_
    refine ar_ld i_X7_addPattern_72 rfl rfl ?_
    refine av_ldi i_X7_addPattern_73 (u1) (by omega) (by omega) ?_
    rw [(w3 r hr).1]
    refine ar_ift i_X7_addPattern_74 rfl (nI_le (by omega) (by omega)) ?_
    refine ar_ld i_X7_addPattern_102 rfl rfl ?_
    refine ar_ar i_X7_addPattern_103 rfl ?_
    refine ar_gf i_X7_addPattern_104 (o2) rfl ?_
    refine ar_push i_X7_addPattern_107 ?_
    refine ar_ar i_X7_addPattern_108 rfl ?_
    rw [nI_1]
    refine av_pf i_X7_addPattern_109 (o2) (Nat.le_of_ble_eq_true rfl) (rfl) rfl (fun S3 g3 k3 => ?_)
    have o3 : mO S3 0 k il err rd tl (nI (c + 1)) lo cur hs sv := g3
    refine ar_ld i_X7_addPattern_112 rfl rfl ?_
    refine ar_gf i_X7_addPattern_113 (o3) rfl ?_
    refine ar_push i_X7_addPattern_116 ?_
    refine ar_ar i_X7_addPattern_117 rfl ?_
    rw [nI_pred]
    refine ar_ret i_X7_addPattern_118 rfl ⟨rfl, ⟨o3, _, F, q1.fr k3 (by omega), q2.fr k3 (by omega), fun x hx => ?_, fun x hx y hy => ?_⟩, hfr.tr (k3.mono (fun q z => Or.inl z))⟩
    · unfold pnAdd
      by_cases e : x = c
      · rw [e, upd_eq, if_pos rfl]
      · rw [upd_ne e, if_neg e]; exact p3 x (by omega)
    · unfold pnAdd at hy
      unfold pgAdd
      by_cases e : x = c
      · rw [if_pos e] at hy ⊢
        rw [e]
        exact hag y (by omega)
      · rw [if_neg e] at hy ⊢
        have := hk.2.1 x (by omega)
        rw [hre _ (by omega)]
        exact p4 x (by omega) y hy
  | succ j ih =>
    intro i S2 F hi o2 u1 u2 q1 q2 hag hre hfr
    refine ar_ld i_X7_addPattern_67 rfl rfl ?_
    refine ar_ld i_X7_addPattern_68 rfl rfl ?_
    refine ar_gf i_X7_addPattern_69 (o2) rfl ?_
    refine ar_ld i_X7_addPattern_72 rfl rfl ?_
    refine av_ldi i_X7_addPattern_73 (u1) (by omega) (by omega) ?_
    rw [(w3 r hr).1]
    refine ar_iff i_X7_addPattern_74 rfl (nI_ge (by omega) (by omega)) ?_
    refine ar_ld i_X7_addPattern_77 rfl rfl ?_
    refine ar_gf i_X7_addPattern_78 (o2) rfl ?_
    refine ar_push i_X7_addPattern_81 ?_
    rw [show (5 : Int32) = nI 5 from rfl]
    refine ar_ld i_X7_addPattern_82 rfl rfl ?_
    refine ar_gf i_X7_addPattern_83 (o2) rfl ?_
    refine ar_ar i_X7_addPattern_86 rfl ?_
    rw [pk_mul]
    refine ar_ld i_X7_addPattern_87 rfl rfl ?_
    refine ar_ar i_X7_addPattern_88 rfl ?_
    rw [nI_add]
    refine ar_ld i_X7_addPattern_89 rfl rfl ?_
    refine ar_ld i_X7_addPattern_90 rfl rfl ?_
    refine ar_ld i_X7_addPattern_91 rfl rfl ?_
    refine ar_cr i_X7_addPattern_92 rfl ⟨_, _, _, rfl, o2⟩ (Nat.le_of_ble_eq_true rfl) (m_at d o2 u2 hr (i := i) (by omega)) ?_
    rw [w4 r hr i (by omega)]
    refine av_sti i_X7_addPattern_95 (by omega) (q2) (by omega) (by omega) (fun S3 g3 k3 => ?_)
    refine ar_inc i_X7_addPattern_96 rfl rfl ?_
    refine ar_go i_X7_addPattern_99 ?_
    have := ih (i + 1) S3 _ (by omega) (o2.fr k3 (by omega)) (u1.fr k3 (by omega)) (u2.fr k3 (by omega)) (q1.fr k3 (by omega)) g3 (fun x hx => by
      by_cases e : x = i
      · rw [e, upd_eq]
      · rw [upd_ne (by omega)]; exact hag x (by omega)) (fun x hx => by rw [upd_ne (by omega)]; exact hre x hx) (hfr.tr (k3.mono (fun q z => Or.inr (Or.inr z))))
    rw [← nI_1 i] at this
    exact this
theorem m_join_r (d : Nat) {S : aq_S} {th k il err rd tl pc lo cur hs sv : Int32} {a0 : Int32} {a1 : Int32} {a2 : Int32} (h : mO S th k il err rd tl pc lo cur hs sv) (hp : a0 < 0 ∨ nI 4 ≤ a0) : aX (d + 2) 158 [.ref 52, .int a0, .int a1, .int a2] S (fun o S' => o = .inl (some (.int 0)) ∧ mO S' (1) k il err rd tl pc lo cur hs sv ∧ aq_fr S S' (fun q => q = 52)) := by
  refine ar_run (Nat.le_of_ble_eq_true rfl) (fun o S1 h => h.2.2.le) ?_
  refine ar_ld i_X7_join_0 rfl rfl ?_
  refine ar_cr i_X7_join_1 rfl trivial (Nat.le_of_ble_eq_true rfl) (m_isReg_no d hp) ?_
  refine ar_ift i_X7_join_4 rfl (by decide) ?_
  refine ar_ld i_X7_join_21 rfl rfl ?_
  refine ar_push i_X7_join_22 ?_
  refine av_cr i_X7_join_23 rfl ⟨_, _, _, rfl, (h)⟩ (Nat.le_of_ble_eq_true rfl) (m_fails d h 1) (fun S1 q1 => ?_)
  exact ar_ret i_X7_join_26 rfl ⟨rfl, q1⟩
theorem m_join_r2 (d : Nat) {S : aq_S} {th k il err rd tl pc lo cur hs sv : Int32} {r0 : Nat} {a1 : Int32} {a2 : Int32} (h : mO S th k il err rd tl pc lo cur hs sv) (h0 : r0 < 4) (hp : a1 < 0 ∨ nI 4 ≤ a1) : aX (d + 2) 158 [.ref 52, .int (nI r0), .int a1, .int a2] S (fun o S' => o = .inl (some (.int 0)) ∧ mO S' (1) k il err rd tl pc lo cur hs sv ∧ aq_fr S S' (fun q => q = 52)) := by
  refine ar_run (Nat.le_of_ble_eq_true rfl) (fun o S1 h => h.2.2.le) ?_
  refine ar_ld i_X7_join_0 rfl rfl ?_
  refine ar_cr i_X7_join_1 rfl trivial (Nat.le_of_ble_eq_true rfl) (m_isReg d h0) ?_
  refine ar_iff i_X7_join_4 rfl (by decide) ?_
  refine ar_ld i_X7_join_7 rfl rfl ?_
  refine ar_cr i_X7_join_8 rfl trivial (Nat.le_of_ble_eq_true rfl) (m_isReg_no d hp) ?_
  refine ar_ift i_X7_join_11 rfl (by decide) ?_
  refine ar_ld i_X7_join_21 rfl rfl ?_
  refine ar_push i_X7_join_22 ?_
  refine av_cr i_X7_join_23 rfl ⟨_, _, _, rfl, (h)⟩ (Nat.le_of_ble_eq_true rfl) (m_fails d h 1) (fun S1 q1 => ?_)
  exact ar_ret i_X7_join_26 rfl ⟨rfl, q1⟩
theorem m_join_r3 (d : Nat) {S : aq_S} {th k il err rd tl pc lo cur hs sv : Int32} {r0 : Nat} {r1 : Nat} {a2 : Int32} (h : mO S th k il err rd tl pc lo cur hs sv) (h0 : r0 < 4) (h1 : r1 < 4) (hp : a2 < 0 ∨ nI 4 ≤ a2) : aX (d + 2) 158 [.ref 52, .int (nI r0), .int (nI r1), .int a2] S (fun o S' => o = .inl (some (.int 0)) ∧ mO S' (1) k il err rd tl pc lo cur hs sv ∧ aq_fr S S' (fun q => q = 52)) := by
  refine ar_run (Nat.le_of_ble_eq_true rfl) (fun o S1 h => h.2.2.le) ?_
  refine ar_ld i_X7_join_0 rfl rfl ?_
  refine ar_cr i_X7_join_1 rfl trivial (Nat.le_of_ble_eq_true rfl) (m_isReg d h0) ?_
  refine ar_iff i_X7_join_4 rfl (by decide) ?_
  refine ar_ld i_X7_join_7 rfl rfl ?_
  refine ar_cr i_X7_join_8 rfl trivial (Nat.le_of_ble_eq_true rfl) (m_isReg d h1) ?_
  refine ar_iff i_X7_join_11 rfl (by decide) ?_
  refine ar_ld i_X7_join_14 rfl rfl ?_
  refine ar_cr i_X7_join_15 rfl trivial (Nat.le_of_ble_eq_true rfl) (m_isReg_no d hp) ?_
  refine ar_iff i_X7_join_18 rfl (by decide) ?_
  refine ar_ld i_X7_join_21 rfl rfl ?_
  refine ar_push i_X7_join_22 ?_
  refine av_cr i_X7_join_23 rfl ⟨_, _, _, rfl, (h)⟩ (Nat.le_of_ble_eq_true rfl) (m_fails d h 1) (fun S1 q1 => ?_)
  exact ar_ret i_X7_join_26 rfl ⟨rfl, q1⟩
theorem m_join_n (d : Nat) {S : aq_S} {a b t : Nat} {th k il err rd tl pc lo cur hs sv : Int32} {N : Nat → Nat} {G : Nat → Nat → Int32} (h : mO S th k il err rd tl pc lo cur hs sv) (hw : mW S N G) (ha : a < 4) (hb : b < 4) (ht : t < 4) (hc : ¬ wcomp (N a) (N b) (G a) (G b)) : aX (d + 4) 158 [.ref 52, .int (nI a), .int (nI b), .int (nI t)] S (fun o S' => o = .inl (some (.int 0)) ∧ mO S' (2) k il err rd tl pc lo cur hs sv ∧ aq_fr S S' (fun q => q = 52)) := by
  refine ar_run (Nat.le_of_ble_eq_true rfl) (fun o S1 h => h.2.2.le) ?_
  refine ar_ld i_X7_join_0 rfl rfl ?_
  refine ar_cr i_X7_join_1 rfl trivial (Nat.le_of_ble_eq_true rfl) (m_isReg (d + 2) ha) ?_
  refine ar_iff i_X7_join_4 rfl (by decide) ?_
  refine ar_ld i_X7_join_7 rfl rfl ?_
  refine ar_cr i_X7_join_8 rfl trivial (Nat.le_of_ble_eq_true rfl) (m_isReg (d + 2) hb) ?_
  refine ar_iff i_X7_join_11 rfl (by decide) ?_
  refine ar_ld i_X7_join_14 rfl rfl ?_
  refine ar_cr i_X7_join_15 rfl trivial (Nat.le_of_ble_eq_true rfl) (m_isReg (d + 2) ht) ?_
  refine ar_ift i_X7_join_18 rfl (by decide) ?_
  refine ar_ld i_X7_join_27 rfl rfl ?_
  refine ar_ld i_X7_join_28 rfl rfl ?_
  refine ar_ld i_X7_join_29 rfl rfl ?_
  refine ar_cr i_X7_join_30 rfl ⟨_, _, _, rfl, (h)⟩ (Nat.le_of_ble_eq_true rfl) (m_areCompatible d h hw ha hb) ?_
  refine ar_iff i_X7_join_33 rfl (fun z => z (bI_f hc)) ?_
  refine ar_ld i_X7_join_36 rfl rfl ?_
  refine ar_push i_X7_join_37 ?_
  refine av_cr i_X7_join_38 rfl ⟨_, _, _, rfl, (h)⟩ (Nat.le_of_ble_eq_true rfl) (m_fails (d + 2) h 2) (fun S1 q1 => ?_)
  exact ar_ret i_X7_join_41 rfl ⟨rfl, q1⟩
theorem m_join (d : Nat) {S : aq_S} {a b t : Nat} {th k il err rd tl pc lo cur hs sv : Int32} {N : Nat → Nat} {G : Nat → Nat → Int32} (h : mO S th k il err rd tl pc lo cur hs sv) (hw : mW S N G) (hp : mP S) (ha : a < 4) (hb : b < 4) (ht : t < 4) (hc : wcomp (N a) (N b) (G a) (G b)) : aX (d + 4) 158 [.ref 52, .int (nI a), .int (nI b), .int (nI t)] S (fun o S' => o = .inl (some (.int (nI (wholes (wjoin (G a) (G b)) (N a))))) ∧ (mO S' (0) k il err rd tl pc lo cur hs sv ∧ mW S' (updN N t (N a)) (updG G t (wjoin (G a) (G b))) ∧ mP S') ∧ aq_fr S S' (fun q => 52 ≤ q ∧ q ≤ 55)) := by
  have hw0 := hw
  obtain ⟨fl, fw, w1, w2, w3, w4⟩ := hw
  obtain ⟨fp, w5⟩ := hp
  have hN := (w3 a ha).2
  have hNb := hc.1
  refine ar_run (Nat.le_of_ble_eq_true rfl) (fun o S1 h => h.2.2.le) ?_
  refine ar_ld i_X7_join_0 rfl rfl ?_
  refine ar_cr i_X7_join_1 rfl trivial (Nat.le_of_ble_eq_true rfl) (m_isReg (d + 2) ha) ?_
  refine ar_iff i_X7_join_4 rfl (by decide) ?_
  refine ar_ld i_X7_join_7 rfl rfl ?_
  refine ar_cr i_X7_join_8 rfl trivial (Nat.le_of_ble_eq_true rfl) (m_isReg (d + 2) hb) ?_
  refine ar_iff i_X7_join_11 rfl (by decide) ?_
  refine ar_ld i_X7_join_14 rfl rfl ?_
  refine ar_cr i_X7_join_15 rfl trivial (Nat.le_of_ble_eq_true rfl) (m_isReg (d + 2) ht) ?_
  refine ar_ift i_X7_join_18 rfl (by decide) ?_
  refine ar_ld i_X7_join_27 rfl rfl ?_
  refine ar_ld i_X7_join_28 rfl rfl ?_
  refine ar_ld i_X7_join_29 rfl rfl ?_
  refine ar_cr i_X7_join_30 rfl ⟨_, _, _, rfl, (h)⟩ (Nat.le_of_ble_eq_true rfl) (m_areCompatible d h hw0 ha hb) ?_
  refine ar_ift i_X7_join_33 rfl (bI_nz.mpr hc) ?_
  refine ar_ld i_X7_join_42 rfl rfl ?_
  refine ar_push i_X7_join_43 ?_
  refine av_pf i_X7_join_44 (h) (Nat.le_of_ble_eq_true rfl) (rfl) rfl (fun S1 g1 k1 => ?_)
  have h1 : mO S1 (0) k il err rd tl pc lo cur hs sv := g1
  refine ar_push i_X7_join_47 ?_
  refine ar_st i_X7_join_48 rfl rfl ?_
  suffices key : ∀ j i (S1 : aq_S) (F : Nat → Int32), i + j = N a → mO S1 (0) k il err rd tl pc lo cur hs sv → ia S1 53 4 fl → ia S1 54 160 fw → ia S1 55 40 F → (∀ x, x < i → F x = wjoin (G a) (G b) x) → aq_fr S S1 (fun q => 52 ≤ q ∧ q ≤ 55) → aG (d + 3) 158 (fun o S' => o = .inl (some (.int (nI (wholes (wjoin (G a) (G b)) (N a))))) ∧ (mO S' (0) k il err rd tl pc lo cur hs sv ∧ mW S' (updN N t (N a)) (updG G t (wjoin (G a) (G b))) ∧ mP S') ∧ aq_fr S S' (fun q => 52 ≤ q ∧ q ≤ 55)) 50 [(0, .ref 52), (1, .int (nI a)), (2, .int (nI b)), (3, .int (nI t)), (4, .int (nI i))] [] S1 from key (N a) 0 S1 fp (by omega) h1 (w1.fr k1 (by omega)) (w2.fr k1 (by omega)) (w5.fr k1 (by omega)) (fun x hx => absurd hx (Nat.not_lt_zero x)) (k1.mono (fun q z => by omega))
  intro j
  induction j with
  | zero =>
    intro i S1 F hi h1 u1 u2 u5 hag hfr
    refine ar_ld i_X7_join_50 rfl rfl ?_
    refine ar_ld i_X7_join_52 rfl rfl ?_
    refine ar_gf i_X7_join_53 (h1) rfl ?_
    refine ar_ld i_X7_join_56 rfl rfl ?_
    refine av_ldi i_X7_join_57 (u1) (by omega) (by omega) ?_
    rw [(w3 a ha).1]
    refine ar_ift i_X7_join_58 rfl (nI_le (by omega) (by omega)) ?_
    refine ar_ld i_X7_join_102 rfl rfl ?_
    refine ar_gf i_X7_join_103 (h1) rfl ?_
    refine ar_ld i_X7_join_106 rfl rfl ?_
    refine ar_ld i_X7_join_107 rfl rfl ?_
    refine ar_gf i_X7_join_108 (h1) rfl ?_
    refine ar_ld i_X7_join_111 rfl rfl ?_
    refine av_ldi i_X7_join_112 (u1) (by omega) (by omega) ?_
    rw [(w3 a ha).1]
    refine av_sti i_X7_join_113 (by omega) (u1) (by omega) (by omega) (fun S2 g2 k2 => ?_)
    have h2 := h1.fr k2 (by omega)
    refine ar_ld i_X7_join_114 rfl rfl ?_
    refine ar_ld i_X7_join_115 rfl rfl ?_
    refine av_cr i_X7_join_116 rfl ⟨_, _, _, rfl, h2⟩ (Nat.le_of_ble_eq_true rfl) (m_replaces (d + 1) h2 g2 (u2.fr k2 (by omega)) (u5.fr k2 (by omega)) ht upd_eq hN) (fun S3 q3 => ?_)
    obtain ⟨⟨fw', q4, q5, q6⟩, q7⟩ := q3
    have h3 := h2.fr q7 (by omega)
    have hW3 : mW S3 (updN N t (N a)) (updG G t (wjoin (G a) (G b))) := ⟨_, fw', ia.fr g2 q7 (by omega), q4, mW_put ht hN w3 w4 upd_eq (fun x hx e => upd_ne e) (fun x hx => (q5 x hx).trans (hag x (by omega))) q6⟩
    refine ar_ar i_X7_join_119 rfl ?_
    refine ar_ld i_X7_join_120 rfl rfl ?_
    refine ar_ld i_X7_join_121 rfl rfl ?_
    refine ar_cr i_X7_join_122 rfl ⟨_, _, _, rfl, h3⟩ (Nat.le_of_ble_eq_true rfl) (m_holesOf (d + 1) h3 hW3 ht) ?_
    rw [updN_eq, updG_eq]
    exact ar_ret i_X7_join_125 rfl ⟨rfl, ⟨h3, hW3, F, (u5.fr k2 (by omega)).fr q7 (by omega)⟩, (hfr.tr (k2.mono (fun q z => by omega))).tr (q7.mono (fun q z => by omega))⟩
  | succ j ih =>
    intro i S1 F hi h1 u1 u2 u5 hag hfr
    have fin : aG (d + 3) 158 (fun o S' => o = .inl (some (.int (nI (wholes (wjoin (G a) (G b)) (N a))))) ∧ (mO S' (0) k il err rd tl pc lo cur hs sv ∧ mW S' (updN N t (N a)) (updG G t (wjoin (G a) (G b))) ∧ mP S') ∧ aq_fr S S' (fun q => 52 ≤ q ∧ q ≤ 55)) 95 [(0, .ref 52), (1, .int (nI a)), (2, .int (nI b)), (3, .int (nI t)), (4, .int (nI i))] [.int (wjoin (G a) (G b) i), .int (nI i), .ref 55] S1 := by
      refine av_sti i_X7_join_95 (by omega) (u5) (by omega) (by omega) (fun S2 g2 k2 => ?_)
      refine ar_inc i_X7_join_96 rfl rfl ?_
      refine ar_go i_X7_join_99 ?_
      have := ih (i + 1) S2 _ (by omega) (h1.fr k2 (by omega)) (u1.fr k2 (by omega)) (u2.fr k2 (by omega)) g2 (fun x hx => by
        by_cases e : x = i
        · rw [e, upd_eq]
        · rw [upd_ne e]; exact hag x (by omega)) (hfr.tr (k2.mono (fun q z => by omega)))
      rw [← nI_1] at this
      exact this
    refine ar_ld i_X7_join_50 rfl rfl ?_
    refine ar_ld i_X7_join_52 rfl rfl ?_
    refine ar_gf i_X7_join_53 (h1) rfl ?_
    refine ar_ld i_X7_join_56 rfl rfl ?_
    refine av_ldi i_X7_join_57 (u1) (by omega) (by omega) ?_
    rw [(w3 a ha).1]
    refine ar_iff i_X7_join_58 rfl (nI_ge (by omega) (by omega)) ?_
    refine ar_ld i_X7_join_61 rfl rfl ?_
    refine ar_gf i_X7_join_62 (h1) rfl ?_
    refine ar_ld i_X7_join_65 rfl rfl ?_
    refine ar_ld i_X7_join_67 rfl rfl ?_
    refine ar_ld i_X7_join_68 rfl rfl ?_
    refine ar_ld i_X7_join_69 rfl rfl ?_
    refine ar_cr i_X7_join_71 rfl ⟨_, _, _, rfl, h1⟩ (Nat.le_of_ble_eq_true rfl) (m_at (d + 2) h1 u2 ha (i := i) (by omega)) ?_
    rw [w4 a ha i (by omega)]
    refine ar_push i_X7_join_74 ?_
    refine ar_if i_X7_join_75 rfl (fun c75 => ?_) (fun c75 => ?_)
    · refine ar_ld i_X7_join_88 rfl rfl ?_
      refine ar_ld i_X7_join_89 rfl rfl ?_
      refine ar_ld i_X7_join_90 rfl rfl ?_
      refine ar_cr i_X7_join_92 rfl ⟨_, _, _, rfl, h1⟩ (Nat.le_of_ble_eq_true rfl) (m_at (d + 2) h1 u2 ha (i := i) (by omega)) ?_
      rw [w4 a ha i (by omega)]
      rw [show wjoin (G a) (G b) i = G a i from if_neg c75] at fin
      exact fin
    · refine ar_ld i_X7_join_78 rfl rfl ?_
      refine ar_ld i_X7_join_79 rfl rfl ?_
      refine ar_ld i_X7_join_80 rfl rfl ?_
      refine ar_cr i_X7_join_82 rfl ⟨_, _, _, rfl, h1⟩ (Nat.le_of_ble_eq_true rfl) (m_at (d + 2) h1 u2 hb (i := i) (by omega)) ?_
      rw [w4 b hb i (by omega)]
      refine ar_go i_X7_join_85 ?_
      rw [show wjoin (G a) (G b) i = G b i from if_pos (Classical.byContradiction c75)] at fin
      exact fin
end
