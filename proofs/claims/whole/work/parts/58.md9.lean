/-! ===== the reference: occurrences ===== -/
section
theorem m_occurrences_r (d : Nat) {S : aq_S} {th k il err rd tl pc lo cur hs sv : Int32} {a0 : Int32} {a1 : Int32} (h : mO S th k il err rd tl pc lo cur hs sv) (hp : a0 < 0 ∨ nI 4 ≤ a0) : aX (d + 2) 178 [.ref 52, .int a0, .int a1] S (fun o S' => o = .inl (some (.int 0)) ∧ mO S' (1) k il err rd tl pc lo cur hs sv ∧ aq_fr S S' (fun q => q = 52)) := by
  refine ar_run (Nat.le_of_ble_eq_true rfl) (fun o S1 h => h.2.2.le) ?_
  refine ar_ld i_X7_occurrences_0 rfl rfl ?_
  refine ar_cr i_X7_occurrences_1 rfl trivial (Nat.le_of_ble_eq_true rfl) (m_isReg_no d hp) ?_
  refine ar_ift i_X7_occurrences_4 rfl (by decide) ?_
  refine ar_ld i_X7_occurrences_14 rfl rfl ?_
  refine ar_push i_X7_occurrences_15 ?_
  refine av_cr i_X7_occurrences_16 rfl ⟨_, _, _, rfl, (h)⟩ (Nat.le_of_ble_eq_true rfl) (m_fails d h 1) (fun S1 q1 => ?_)
  exact ar_ret i_X7_occurrences_19 rfl ⟨rfl, q1⟩
theorem m_occurrences_r2 (d : Nat) {S : aq_S} {th k il err rd tl pc lo cur hs sv : Int32} {r0 : Nat} {a1 : Int32} (h : mO S th k il err rd tl pc lo cur hs sv) (h0 : r0 < 4) (hp : a1 < 0 ∨ nI 4 ≤ a1) : aX (d + 2) 178 [.ref 52, .int (nI r0), .int a1] S (fun o S' => o = .inl (some (.int 0)) ∧ mO S' (1) k il err rd tl pc lo cur hs sv ∧ aq_fr S S' (fun q => q = 52)) := by
  refine ar_run (Nat.le_of_ble_eq_true rfl) (fun o S1 h => h.2.2.le) ?_
  refine ar_ld i_X7_occurrences_0 rfl rfl ?_
  refine ar_cr i_X7_occurrences_1 rfl trivial (Nat.le_of_ble_eq_true rfl) (m_isReg d h0) ?_
  refine ar_iff i_X7_occurrences_4 rfl (by decide) ?_
  refine ar_ld i_X7_occurrences_7 rfl rfl ?_
  refine ar_cr i_X7_occurrences_8 rfl trivial (Nat.le_of_ble_eq_true rfl) (m_isReg_no d hp) ?_
  refine ar_iff i_X7_occurrences_11 rfl (by decide) ?_
  refine ar_ld i_X7_occurrences_14 rfl rfl ?_
  refine ar_push i_X7_occurrences_15 ?_
  refine av_cr i_X7_occurrences_16 rfl ⟨_, _, _, rfl, (h)⟩ (Nat.le_of_ble_eq_true rfl) (m_fails d h 1) (fun S1 q1 => ?_)
  exact ar_ret i_X7_occurrences_19 rfl ⟨rfl, q1⟩
theorem m_occurrences (d : Nat) {S : aq_S} {p r : Nat} {th k il err rd tl pc lo cur hs sv : Int32} {N : Nat → Nat} {G : Nat → Nat → Int32} (h : mO S th k il err rd tl pc lo cur hs sv) (hw : mW S N G) (hp0 : mP S) (hp : p < 4) (hr : r < 4) : aX (d + 3) 178 [.ref 52, .int (nI p), .int (nI r)] S (fun o S' => o = .inl (some (.int (nI (if N p ≤ N r then wocc (G r) (N p) (G p) (N r - N p + 1) else 0)))) ∧ (mO S' (0) k il err rd tl pc lo cur hs sv ∧ mP S') ∧ aq_fr S S' (fun q => q = 52 ∨ q = 55)) := by
  obtain ⟨fl, fw, w1, w2, w3, w4⟩ := hw
  obtain ⟨fp, w5⟩ := hp0
  have hNp := (w3 p hp).2
  have hNr := (w3 r hr).2
  refine ar_run (Nat.le_of_ble_eq_true rfl) (fun o S1 h => h.2.2.le) ?_
  refine ar_ld i_X7_occurrences_0 rfl rfl ?_
  refine ar_cr i_X7_occurrences_1 rfl trivial (Nat.le_of_ble_eq_true rfl) (m_isReg (d + 1) hp) ?_
  refine ar_iff i_X7_occurrences_4 rfl (by decide) ?_
  refine ar_ld i_X7_occurrences_7 rfl rfl ?_
  refine ar_cr i_X7_occurrences_8 rfl trivial (Nat.le_of_ble_eq_true rfl) (m_isReg (d + 1) hr) ?_
  refine ar_ift i_X7_occurrences_11 rfl (by decide) ?_
  refine ar_ld i_X7_occurrences_20 rfl rfl ?_
  refine ar_push i_X7_occurrences_21 ?_
  refine av_pf i_X7_occurrences_22 (h) (Nat.le_of_ble_eq_true rfl) (rfl) rfl (fun S1 g1 k1 => ?_)
  have o1 : mO S1 (0) k il err rd tl pc lo cur hs sv := g1
  refine ar_ld i_X7_occurrences_25 rfl rfl ?_
  refine ar_gf i_X7_occurrences_26 (o1) rfl ?_
  refine ar_ld i_X7_occurrences_29 rfl rfl ?_
  refine av_ldi i_X7_occurrences_30 (w1.fr k1 (by omega)) (by omega) (by omega) ?_
  rw [(w3 p hp).1]
  refine ar_st i_X7_occurrences_31 rfl rfl ?_
  refine ar_push i_X7_occurrences_32 ?_
  refine ar_st i_X7_occurrences_33 rfl rfl ?_
  suffices key : ∀ j i (S1 : aq_S) (F : Nat → Int32), i + j = N p → mO S1 (0) k il err rd tl pc lo cur hs sv → ia S1 53 4 fl → ia S1 54 160 fw → ia S1 55 40 F → (∀ x, x < i → F x = G p x) → aq_fr S S1 (fun q => q = 52 ∨ q = 55) → aG (d + 2) 178 (fun o S' => o = .inl (some (.int (nI (if N p ≤ N r then wocc (G r) (N p) (G p) (N r - N p + 1) else 0)))) ∧ (mO S' (0) k il err rd tl pc lo cur hs sv ∧ mP S') ∧ aq_fr S S' (fun q => q = 52 ∨ q = 55)) 35 [(0, .ref 52), (1, .int (nI p)), (2, .int (nI r)), (3, .int (nI (N p))), (4, .int (nI i))] [] S1 from key (N p) 0 S1 fp (by omega) o1 (w1.fr k1 (by omega)) (w2.fr k1 (by omega)) (w5.fr k1 (by omega)) (fun x hx => absurd hx (Nat.not_lt_zero x)) (k1.mono (fun q z => Or.inl z))
  clear k1 g1 o1 S1
  intro j
  induction j with
  | zero =>
    intro i S1 F hi o1 u1 u2 u5 hag hfr
    refine ar_ld i_X7_occurrences_35 rfl rfl ?_
    refine ar_ld i_X7_occurrences_37 rfl rfl ?_
    refine ar_ift i_X7_occurrences_38 rfl (nI_le (by omega) (by omega)) ?_
    refine ar_push i_X7_occurrences_61 ?_
    refine ar_st i_X7_occurrences_62 rfl rfl ?_
    refine ar_push i_X7_occurrences_64 ?_
    refine ar_st i_X7_occurrences_65 rfl rfl ?_
    have lp : ∀ b y, (N p ≤ N r → y + b = N r - N p + 1) → (¬ N p ≤ N r → y = 0) → aG (d + 2) 178 (fun o S' => o = .inl (some (.int (nI (if N p ≤ N r then wocc (G r) (N p) (G p) (N r - N p + 1) else 0)))) ∧ (mO S' (0) k il err rd tl pc lo cur hs sv ∧ mP S') ∧ aq_fr S S' (fun q => q = 52 ∨ q = 55)) 67 [(0, .ref 52), (1, .int (nI p)), (2, .int (nI r)), (3, .int (nI (N p))), (4, .int (nI (wocc (G r) (N p) (G p) y))), (5, .int (nI y))] [] S1 := by
      intro b
      induction b with
      | zero =>
        intro y hy hy0
        refine ar_ld i_X7_occurrences_67 rfl rfl ?_
        refine ar_ld i_X7_occurrences_69 rfl rfl ?_
        refine ar_ar i_X7_occurrences_70 rfl ?_
        rw [nI_add]
        refine ar_ld i_X7_occurrences_71 rfl rfl ?_
        refine ar_gf i_X7_occurrences_72 (o1) rfl ?_
        refine ar_ld i_X7_occurrences_75 rfl rfl ?_
        refine av_ldi i_X7_occurrences_76 (u1) (by omega) (by omega) ?_
        rw [(w3 r hr).1]
        have hgt : N r < y + N p := by
          by_cases e : N p ≤ N r
          · have := hy e; omega
          · omega
        have hyb : y ≤ 41 := by
          by_cases e : N p ≤ N r
          · have := hy e; omega
          · have := hy0 e; omega
        refine ar_ift i_X7_occurrences_77 rfl (nI_lt hgt (by omega)) ?_
        refine ar_ld i_X7_occurrences_115 rfl rfl ?_
        refine ar_ret i_X7_occurrences_117 rfl ⟨?_, ⟨o1, F, u5⟩, hfr⟩
        by_cases e : N p ≤ N r
        · rw [if_pos e, show y = N r - N p + 1 from hy e]
        · rw [if_neg e, hy0 e]
          rfl
      | succ b ihb =>
        intro y hy hy0
        by_cases e : N p ≤ N r
        · have hye := hy e
          refine ar_ld i_X7_occurrences_67 rfl rfl ?_
          refine ar_ld i_X7_occurrences_69 rfl rfl ?_
          refine ar_ar i_X7_occurrences_70 rfl ?_
          rw [nI_add]
          refine ar_ld i_X7_occurrences_71 rfl rfl ?_
          refine ar_gf i_X7_occurrences_72 (o1) rfl ?_
          refine ar_ld i_X7_occurrences_75 rfl rfl ?_
          refine av_ldi i_X7_occurrences_76 (u1) (by omega) (by omega) ?_
          rw [(w3 r hr).1]
          refine ar_iff i_X7_occurrences_77 rfl (nI_nlt (show y + N p ≤ N r by omega) (by omega)) ?_
          refine ar_ld i_X7_occurrences_80 rfl rfl ?_
          refine ar_ld i_X7_occurrences_82 rfl rfl ?_
          refine ar_ld i_X7_occurrences_83 rfl rfl ?_
          refine ar_gf i_X7_occurrences_84 (o1) rfl ?_
          refine ar_push i_X7_occurrences_87 ?_
          rw [show (40 : Int32) = nI 40 from rfl]
          refine ar_ld i_X7_occurrences_89 rfl rfl ?_
          refine ar_ar i_X7_occurrences_90 rfl ?_
          rw [pk_mul]
          refine ar_ld i_X7_occurrences_91 rfl rfl ?_
          refine ar_ar i_X7_occurrences_93 rfl ?_
          rw [nI_add]
          refine ar_ld i_X7_occurrences_94 rfl rfl ?_
          refine ar_cr i_X7_occurrences_95 rfl ⟨_, _, _, rfl, o1⟩ (Nat.le_of_ble_eq_true rfl) (m_isFactor d o1 u5 u2 (from' := 40 * r + y) (n := N p) hNp (by omega) (by omega)) ?_
          have hff : (∀ i, i < N p → ¬ wdf (F i) (fw (40 * r + y + i))) ↔ wfit (G r) y (N p) (G p) := by
            refine forall_congr' fun x => ?_
            refine ⟨fun z hx w => z hx ?_, fun z hx w => z hx ?_⟩
            · rw [hag x (by omega), Nat.add_assoc, w4 r hr (y + x) (by omega)]; exact wdf_symm w
            · rw [hag x (by omega), Nat.add_assoc, w4 r hr (y + x) (by omega)] at w; exact wdf_symm w
          rw [bI_cg hff]
          have := ihb (y + 1) (fun _ => by omega) (fun z => absurd e z)
          by_cases hf : wfit (G r) y (N p) (G p)
          · refine ar_iff i_X7_occurrences_98 rfl (fun z => bI_nz.mpr hf z) ?_
            refine ar_push i_X7_occurrences_101 ?_
            refine ar_go i_X7_occurrences_102 ?_
            refine ar_ar i_X7_occurrences_106 rfl ?_
            refine ar_st i_X7_occurrences_107 rfl rfl ?_
            refine ar_inc i_X7_occurrences_109 rfl rfl ?_
            refine ar_go i_X7_occurrences_112 ?_
            rw [show wocc (G r) (N p) (G p) (y + 1) = wocc (G r) (N p) (G p) y + 1 by show _ + pif _ 1 0 = _; rw [pif_t hf], ← nI_1, ← nI_1] at this
            exact this
          · refine ar_ift i_X7_occurrences_98 rfl (bI_f hf) ?_
            refine ar_push i_X7_occurrences_105 ?_
            refine ar_ar i_X7_occurrences_106 rfl ?_
            rw [Int32.add_zero]
            refine ar_st i_X7_occurrences_107 rfl rfl ?_
            refine ar_inc i_X7_occurrences_109 rfl rfl ?_
            refine ar_go i_X7_occurrences_112 ?_
            rw [show wocc (G r) (N p) (G p) (y + 1) = wocc (G r) (N p) (G p) y by show _ + pif _ 1 0 = _; rw [pif_f hf]; rfl, ← nI_1 y] at this
            exact this
        · have hy0' := hy0 e
          subst hy0'
          refine ar_ld i_X7_occurrences_67 rfl rfl ?_
          refine ar_ld i_X7_occurrences_69 rfl rfl ?_
          refine ar_ar i_X7_occurrences_70 rfl ?_
          rw [nI_add]
          refine ar_ld i_X7_occurrences_71 rfl rfl ?_
          refine ar_gf i_X7_occurrences_72 (o1) rfl ?_
          refine ar_ld i_X7_occurrences_75 rfl rfl ?_
          refine av_ldi i_X7_occurrences_76 (u1) (by omega) (by omega) ?_
          rw [(w3 r hr).1]
          refine ar_ift i_X7_occurrences_77 rfl (nI_lt (show N r < 0 + N p by omega) (by omega)) ?_
          refine ar_ld i_X7_occurrences_115 rfl rfl ?_
          refine ar_ret i_X7_occurrences_117 rfl ⟨?_, ⟨o1, F, u5⟩, hfr⟩
          rw [if_neg e]
          rfl
    exact lp (N r - N p + 1) 0 (fun _ => by omega) (fun _ => rfl)
  | succ j ih =>
    intro i S1 F hi o1 u1 u2 u5 hag hfr
    refine ar_ld i_X7_occurrences_35 rfl rfl ?_
    refine ar_ld i_X7_occurrences_37 rfl rfl ?_
    refine ar_iff i_X7_occurrences_38 rfl (nI_ge (by omega) (by omega)) ?_
    refine ar_ld i_X7_occurrences_41 rfl rfl ?_
    refine ar_gf i_X7_occurrences_42 (o1) rfl ?_
    refine ar_ld i_X7_occurrences_45 rfl rfl ?_
    refine ar_ld i_X7_occurrences_47 rfl rfl ?_
    refine ar_ld i_X7_occurrences_48 rfl rfl ?_
    refine ar_ld i_X7_occurrences_49 rfl rfl ?_
    refine ar_cr i_X7_occurrences_51 rfl ⟨_, _, _, rfl, o1⟩ (Nat.le_of_ble_eq_true rfl) (m_at (d + 1) o1 u2 hp (i := i) (by omega)) ?_
    rw [w4 p hp i (by omega)]
    refine av_sti i_X7_occurrences_54 (by omega) (u5) (by omega) (by omega) (fun S2 g2 k2 => ?_)
    refine ar_inc i_X7_occurrences_55 rfl rfl ?_
    refine ar_go i_X7_occurrences_58 ?_
    have := ih (i + 1) S2 _ (by omega) (o1.fr k2 (by omega)) (u1.fr k2 (by omega)) (u2.fr k2 (by omega)) g2 (fun x hx => by
      by_cases e : x = i
      · rw [e, upd_eq]
      · rw [upd_ne e]; exact hag x (by omega)) (hfr.tr (k2.mono (fun q z => Or.inr z)))
    rw [← nI_1 i] at this
    exact this
end
