/-! ===== unavoidable, minimal, the longest words: the reference ===== -/
section
theorem mGr.fr {S S' : aq_S} {P : Nat → Prop} (h : mGr S) (q : aq_fr S S' P) (h1 : ∀ x, 60 ≤ x → x ≤ 66 → ¬ P x) : mGr S' := by
  obtain ⟨⟨n0, r1⟩, ⟨e0, r2⟩, ⟨w0, r3⟩, ⟨nw, r4⟩, ⟨d0, r5⟩, ⟨c0, r6⟩, b0, r7⟩ := h
  exact ⟨⟨n0, r1.fr q (h1 60 (by omega) (by omega))⟩, ⟨e0, r2.fr q (h1 61 (by omega) (by omega))⟩, ⟨w0, r3.fr q (h1 62 (by omega) (by omega))⟩, ⟨nw, r4.fr q (h1 63 (by omega) (by omega))⟩, ⟨d0, r5.fr q (h1 64 (by omega) (by omega))⟩, ⟨c0, r6.fr q (h1 65 (by omega) (by omega))⟩, b0, r7.fr q (h1 66 (by omega) (by omega))⟩
/-- no pattern can be left out -/
def mini (k c : Nat) (pn : Nat → Nat) (pg : Nat → Nat → Int32) : Prop := lon (-1) k c pn pg < 85 ∧ ∀ i, i < c → ¬ lon (nI i) k c pn pg < 85
theorem m_isUnavoidable (d : Nat) {S : aq_S} {kk c : Nat} {pn : Nat → Nat} {pg : Nat → Nat → Int32} {th il err rd tl lo cur hs sv : Int32} (h : mO S th (nI kk) il err rd tl (nI c) lo cur hs sv) (hp : mPt S c pn pg) (hpk : pOk c pn pg) (w5 : mP S) (hG : mGr S) (hk0 : 0 < kk) (hk : kk ≤ 3) : aX (d + 6) 191 [.ref 52] S (fun o S' => o = .inl (some (.int (bI (lon lo kk c pn pg < 85)))) ∧ (mO S' 0 (nI kk) il err rd tl (nI c) lo cur hs sv ∧ mP S' ∧ mGr S') ∧ aq_fr S S' (fun q => q = 52 ∨ q = 55 ∨ (60 ≤ q ∧ q ≤ 63))) := by
  refine ar_run (Nat.le_of_ble_eq_true rfl) (fun o S1 h => h.2.2.le) ?_
  refine ar_ld i_X7_isUnavoidable_0 rfl rfl ?_
  refine ar_push i_X7_isUnavoidable_1 ?_
  refine av_pf i_X7_isUnavoidable_2 (h) (Nat.le_of_ble_eq_true rfl) (rfl) rfl (fun S1 g1 k1 => ?_)
  have o1 : mO S1 0 (nI kk) il err rd tl (nI c) lo cur hs sv := g1
  refine ar_ld i_X7_isUnavoidable_5 rfl rfl ?_
  refine av_cr i_X7_isUnavoidable_6 rfl ⟨_, _, _, rfl, o1⟩ (Nat.le_of_ble_eq_true rfl) (m_longest d o1 (hp.fr k1 (by omega) (by omega)) hpk (w5.fr k1 (by omega)) (mGr.fr hG k1 (fun x _ _ => by omega)) hk0 hk) (fun S2 q2 => ?_)
  obtain ⟨⟨v5, vG⟩, k2⟩ := q2
  have hfr : aq_fr S S2 (fun q => q = 52 ∨ q = 55 ∨ (60 ≤ q ∧ q ≤ 63)) := (k1.mono (fun q z => by omega)).tr (k2.mono (fun q z => by omega))
  by_cases hl : lon lo kk c pn pg < 85
  · have e : (if lon lo kk c pn pg < 85 then lon lo kk c pn pg else 1000) = lon lo kk c pn pg := if_pos hl
    rw [e]
    refine ar_push i_X7_isUnavoidable_9 ?_
    refine ar_iff i_X7_isUnavoidable_12 rfl (nI_ge (b := 1000) (by omega) (by omega)) ?_
    refine ar_push i_X7_isUnavoidable_15 ?_
    refine ar_go i_X7_isUnavoidable_16 ?_
    exact ar_ret i_X7_isUnavoidable_20 ((Or.inr rfl)) ⟨by rw [bI_t hl], ⟨o1.fr k2 (by omega), v5, vG⟩, hfr⟩
  · have e : (if lon lo kk c pn pg < 85 then lon lo kk c pn pg else 1000) = 1000 := if_neg hl
    rw [e]
    refine ar_push i_X7_isUnavoidable_9 ?_
    refine ar_ift i_X7_isUnavoidable_12 rfl (nI_le (a := 1000) (b := 1000) (by omega) (by omega)) ?_
    refine ar_push i_X7_isUnavoidable_19 ?_
    exact ar_ret i_X7_isUnavoidable_20 ((Or.inl rfl)) ⟨by rw [bI_f hl], ⟨o1.fr k2 (by omega), v5, vG⟩, hfr⟩
theorem m_longestAvoiding (d : Nat) {S : aq_S} {kk c : Nat} {pn : Nat → Nat} {pg : Nat → Nat → Int32} {th il err rd tl lo cur hs sv : Int32} (h : mO S th (nI kk) il err rd tl (nI c) lo cur hs sv) (hp : mPt S c pn pg) (hpk : pOk c pn pg) (w5 : mP S) (hG : mGr S) (hk0 : 0 < kk) (hk : kk ≤ 3) (hl : lon lo kk c pn pg < 85) : aX (d + 6) 193 [.ref 52] S (fun o S' => o = .inl (some (.int (nI (lon lo kk c pn pg)))) ∧ (mO S' 0 (nI kk) il err rd tl (nI c) lo cur hs sv ∧ mP S' ∧ mGr S') ∧ aq_fr S S' (fun q => q = 52 ∨ q = 55 ∨ (60 ≤ q ∧ q ≤ 63))) := by
  refine ar_run (Nat.le_of_ble_eq_true rfl) (fun o S1 h => h.2.2.le) ?_
  refine ar_ld i_X7_longestAvoiding_0 rfl rfl ?_
  refine av_cr i_X7_longestAvoiding_1 rfl ⟨_, _, _, rfl, h⟩ (Nat.le_of_ble_eq_true rfl) (m_longest d h hp hpk w5 hG hk0 hk) (fun S2 q2 => ?_)
  obtain ⟨⟨v5, vG⟩, k2⟩ := q2
  have e : (if lon lo kk c pn pg < 85 then lon lo kk c pn pg else 1000) = lon lo kk c pn pg := if_pos hl
  rw [e]
  have o2 := h.fr k2 (by omega)
  refine ar_st i_X7_longestAvoiding_4 rfl rfl ?_
  refine ar_ld i_X7_longestAvoiding_5 rfl rfl ?_
  refine ar_push i_X7_longestAvoiding_6 ?_
  refine ar_ift i_X7_longestAvoiding_9 rfl (fun z => absurd (nI_inj (b := 1000) (by omega) (by omega) z) (by omega)) ?_
  refine ar_ld i_X7_longestAvoiding_18 rfl rfl ?_
  refine ar_push i_X7_longestAvoiding_19 ?_
  refine av_pf i_X7_longestAvoiding_20 (o2) (Nat.le_of_ble_eq_true rfl) (rfl) rfl (fun S3 g3 k3 => ?_)
  refine ar_ld i_X7_longestAvoiding_23 rfl rfl ?_
  exact ar_ret i_X7_longestAvoiding_24 rfl ⟨rfl, ⟨g3, v5.fr k3 (by omega), mGr.fr vG k3 (fun x _ _ => by omega)⟩, (k2.mono (fun q z => by omega)).tr (k3.mono (fun q z => by omega))⟩
theorem m_longestAvoiding_x (d : Nat) {S : aq_S} {kk c : Nat} {pn : Nat → Nat} {pg : Nat → Nat → Int32} {th il err rd tl lo cur hs sv : Int32} (h : mO S th (nI kk) il err rd tl (nI c) lo cur hs sv) (hp : mPt S c pn pg) (hpk : pOk c pn pg) (w5 : mP S) (hG : mGr S) (hk0 : 0 < kk) (hk : kk ≤ 3) (hl : ¬ lon lo kk c pn pg < 85) : aX (d + 6) 193 [.ref 52] S (fun o S' => o = .inl (some (.int 0)) ∧ (mO S' 1 (nI kk) il err rd tl (nI c) lo cur hs sv ∧ mP S' ∧ mGr S') ∧ aq_fr S S' (fun q => q = 52 ∨ q = 55 ∨ (60 ≤ q ∧ q ≤ 63))) := by
  refine ar_run (Nat.le_of_ble_eq_true rfl) (fun o S1 h => h.2.2.le) ?_
  refine ar_ld i_X7_longestAvoiding_0 rfl rfl ?_
  refine av_cr i_X7_longestAvoiding_1 rfl ⟨_, _, _, rfl, h⟩ (Nat.le_of_ble_eq_true rfl) (m_longest d h hp hpk w5 hG hk0 hk) (fun S2 q2 => ?_)
  obtain ⟨⟨v5, vG⟩, k2⟩ := q2
  have e : (if lon lo kk c pn pg < 85 then lon lo kk c pn pg else 1000) = 1000 := if_neg hl
  rw [e]
  have o2 := h.fr k2 (by omega)
  refine ar_st i_X7_longestAvoiding_4 rfl rfl ?_
  refine ar_ld i_X7_longestAvoiding_5 rfl rfl ?_
  refine ar_push i_X7_longestAvoiding_6 ?_
  refine ar_iff i_X7_longestAvoiding_9 rfl (fun z => z rfl) ?_
  refine ar_ld i_X7_longestAvoiding_12 rfl rfl ?_
  refine ar_push i_X7_longestAvoiding_13 ?_
  refine av_cr i_X7_longestAvoiding_14 rfl ⟨_, _, _, rfl, o2⟩ (Nat.le_of_ble_eq_true rfl) (m_fails (d + 4) o2 1) (fun S3 q3 => ?_)
  obtain ⟨o3, k3⟩ := q3
  exact ar_ret i_X7_longestAvoiding_17 rfl ⟨rfl, ⟨o3, v5.fr k3 (by omega), mGr.fr vG k3 (fun x _ _ => by omega)⟩, (k2.mono (fun q z => by omega)).tr (k3.mono (fun q z => by omega))⟩
theorem m_isMinimal (d : Nat) {S : aq_S} {kk c : Nat} {pn : Nat → Nat} {pg : Nat → Nat → Int32} {th il err rd tl cur hs sv : Int32} (h : mO S th (nI kk) il err rd tl (nI c) (-1) cur hs sv) (hp : mPt S c pn pg) (hpk : pOk c pn pg) (w5 : mP S) (hG : mGr S) (hk0 : 0 < kk) (hk : kk ≤ 3) : aX (d + 6) 192 [.ref 52] S (fun o S' => o = .inl (some (.int (bI (mini kk c pn pg)))) ∧ (mO S' 0 (nI kk) il err rd tl (nI c) (-1) cur hs sv ∧ mP S' ∧ mGr S') ∧ aq_fr S S' (fun q => q = 52 ∨ q = 55 ∨ (60 ≤ q ∧ q ≤ 63))) := by
  have hc := hpk.1
  refine ar_run (Nat.le_of_ble_eq_true rfl) (fun o S1 h => h.2.2.le) ?_
  have ph : ∀ j i lo (r : Int32) (L : List (Nat × Value)) (S1 : aq_S), i + j = c → r = bI (lon (-1) kk c pn pg < 85 ∧ ∀ x, x < i → ¬ lon (nI x) kk c pn pg < 85) → mO S1 0 (nI kk) il err rd tl (nI c) lo cur hs sv → mPt S1 c pn pg → mP S1 → mGr S1 → aq_fr S S1 (fun q => q = 52 ∨ q = 55 ∨ (60 ≤ q ∧ q ≤ 63)) → aG (d + 5) 192 (fun o S' => o = .inl (some (.int (bI (mini kk c pn pg)))) ∧ (mO S' 0 (nI kk) il err rd tl (nI c) (-1) cur hs sv ∧ mP S' ∧ mGr S') ∧ aq_fr S S' (fun q => q = 52 ∨ q = 55 ∨ (60 ≤ q ∧ q ≤ 63))) 23 [(0, .ref 52), (1, .int r), (2, .int (nI i))] [] S1 := by
    have fin : ∀ i lo (r : Int32) (S1 : aq_S), r = bI (mini kk c pn pg) → mO S1 0 (nI kk) il err rd tl (nI c) lo cur hs sv → mP S1 → mGr S1 → aq_fr S S1 (fun q => q = 52 ∨ q = 55 ∨ (60 ≤ q ∧ q ≤ 63)) → aG (d + 5) 192 (fun o S' => o = .inl (some (.int (bI (mini kk c pn pg)))) ∧ (mO S' 0 (nI kk) il err rd tl (nI c) (-1) cur hs sv ∧ mP S' ∧ mGr S') ∧ aq_fr S S' (fun q => q = 52 ∨ q = 55 ∨ (60 ≤ q ∧ q ≤ 63))) 62 [(0, .ref 52), (1, .int r), (2, .int (nI i))] [] S1 := by
      intro i lo r S1 hr o1 w5 hG hfr
      refine ar_ld i_X7_isMinimal_62 rfl rfl ?_
      refine ar_push i_X7_isMinimal_63 ?_
      refine av_pf i_X7_isMinimal_64 (o1) (Nat.le_of_ble_eq_true rfl) (rfl) rfl (fun S2 g2 k2 => ?_)
      refine ar_ld i_X7_isMinimal_67 rfl rfl ?_
      exact ar_ret i_X7_isMinimal_68 ((by rw [hr]; exact bI_01 _)) ⟨by rw [hr], ⟨g2, w5.fr k2 (by omega), mGr.fr hG k2 (fun x _ _ => by omega)⟩, hfr.tr (k2.mono (fun q z => by omega))⟩
    intro j
    induction j with
    | zero =>
      intro i lo r L S1 hi hr o1 hp w5 hG hfr
      have ei : i = c := hi
      subst ei
      refine ar_ld i_X7_isMinimal_23 rfl rfl ?_
      refine ar_ld i_X7_isMinimal_24 rfl rfl ?_
      refine ar_gf i_X7_isMinimal_25 (o1) rfl ?_
      refine ar_ift i_X7_isMinimal_28 rfl (nI_le (Nat.le_refl _) (by omega)) ?_
      exact fin i lo r S1 hr o1 w5 hG hfr
    | succ j ih =>
      intro i lo r L S1 hi hr o1 hp w5 hG hfr
      refine ar_ld i_X7_isMinimal_23 rfl rfl ?_
      refine ar_ld i_X7_isMinimal_24 rfl rfl ?_
      refine ar_gf i_X7_isMinimal_25 (o1) rfl ?_
      refine ar_iff i_X7_isMinimal_28 rfl (nI_ge (show i < c by omega) (by omega)) ?_
      refine ar_ld i_X7_isMinimal_31 rfl rfl ?_
      by_cases hs1 : lon (-1) kk c pn pg < 85 ∧ ∀ x, x < i → ¬ lon (nI x) kk c pn pg < 85
      · have er : ¬ r = 0 := by rw [hr]; exact bI_nz.mpr hs1
        refine ar_iff i_X7_isMinimal_32 rfl (er) ?_
        refine ar_ld i_X7_isMinimal_35 rfl rfl ?_
        refine ar_ld i_X7_isMinimal_36 rfl rfl ?_
        refine av_pf i_X7_isMinimal_37 (o1) (Nat.le_of_ble_eq_true rfl) (rfl) rfl (fun S2 g2 k2 => ?_)
        have o2 : mO S2 0 (nI kk) il err rd tl (nI c) (nI i) cur hs sv := g2
        refine ar_ld i_X7_isMinimal_40 rfl rfl ?_
        have p2 := hp.fr k2 (by omega) (by omega)
        refine av_cr i_X7_isMinimal_41 rfl ⟨_, _, _, rfl, o2⟩ (Nat.le_of_ble_eq_true rfl) (m_longest d o2 p2 hpk (w5.fr k2 (by omega)) (mGr.fr hG k2 (fun x _ _ => by omega)) hk0 hk) (fun S3 q3 => ?_)
        obtain ⟨⟨v5, vG⟩, k3⟩ := q3
        have hfr3 := (hfr.tr (k2.mono (P' := fun q => q = 52 ∨ q = 55 ∨ (60 ≤ q ∧ q ≤ 63)) (fun q z => by omega))).tr (k3.mono (P' := fun q => q = 52 ∨ q = 55 ∨ (60 ≤ q ∧ q ≤ 63)) (fun q z => by omega))
        have nxt : ∀ r2 : Int32, r2 = bI (lon (-1) kk c pn pg < 85 ∧ ∀ x, x < i + 1 → ¬ lon (nI x) kk c pn pg < 85) → aG (d + 5) 192 (fun o S' => o = .inl (some (.int (bI (mini kk c pn pg)))) ∧ (mO S' 0 (nI kk) il err rd tl (nI c) (-1) cur hs sv ∧ mP S' ∧ mGr S') ∧ aq_fr S S' (fun q => q = 52 ∨ q = 55 ∨ (60 ≤ q ∧ q ≤ 63))) 55 [(0, .ref 52), (1, .int r), (2, .int (nI i))] [.int r2] S3 := by
          intro r2 hr2
          refine ar_st i_X7_isMinimal_55 rfl rfl ?_
          refine ar_inc i_X7_isMinimal_56 rfl rfl ?_
          refine ar_go i_X7_isMinimal_59 ?_
          rw [nI_1]
          exact ih (i + 1) (nI i) r2 L S3 (by omega) hr2 (o2.fr k3 (by omega)) (p2.fr k3 (by omega) (by omega)) v5 vG hfr3
        by_cases hl : lon (nI i) kk c pn pg < 85
        · have e : (if lon (nI i) kk c pn pg < 85 then lon (nI i) kk c pn pg else 1000) = lon (nI i) kk c pn pg := if_pos hl
          rw [e]
          refine ar_push i_X7_isMinimal_44 ?_
          refine ar_ift i_X7_isMinimal_47 rfl (fun z => absurd (nI_inj (b := 1000) (by omega) (by omega) z) (by omega)) ?_
          refine ar_push i_X7_isMinimal_54 ?_
          exact nxt 0 (bI_f (fun z => z.2 i (by omega) hl)).symm
        · have e : (if lon (nI i) kk c pn pg < 85 then lon (nI i) kk c pn pg else 1000) = 1000 := if_neg hl
          rw [e]
          refine ar_push i_X7_isMinimal_44 ?_
          refine ar_iff i_X7_isMinimal_47 rfl (fun z => z rfl) ?_
          refine ar_push i_X7_isMinimal_50 ?_
          refine ar_go i_X7_isMinimal_51 ?_
          exact nxt 1 (bI_t ⟨hs1.1, fun x hx => by
            by_cases ex : x = i
            · rw [ex]; exact hl
            · exact hs1.2 x (by omega)⟩).symm
      · have er : r = 0 := by rw [hr]; exact bI_f hs1
        refine ar_ift i_X7_isMinimal_32 rfl (er) ?_
        exact fin i lo r S1 (by rw [er]; exact (bI_f (fun z => hs1 ⟨z.1, fun x hx => z.2 x (by omega)⟩)).symm) o1 w5 hG hfr
  refine ar_ld i_X7_isMinimal_0 rfl rfl ?_
  refine ar_push i_X7_isMinimal_1 ?_
  refine av_pf i_X7_isMinimal_2 (h) (Nat.le_of_ble_eq_true rfl) (rfl) rfl (fun S1 g1 k1 => ?_)
  have o1 : mO S1 0 (nI kk) il err rd tl (nI c) (-1) cur hs sv := g1
  refine ar_ld i_X7_isMinimal_5 rfl rfl ?_
  have p1 := hp.fr k1 (by omega) (by omega)
  refine av_cr i_X7_isMinimal_6 rfl ⟨_, _, _, rfl, o1⟩ (Nat.le_of_ble_eq_true rfl) (m_longest d o1 p1 hpk (w5.fr k1 (by omega)) (mGr.fr hG k1 (fun x _ _ => by omega)) hk0 hk) (fun S2 q2 => ?_)
  obtain ⟨⟨v5, vG⟩, k2⟩ := q2
  have hfr : aq_fr S S2 (fun q => q = 52 ∨ q = 55 ∨ (60 ≤ q ∧ q ≤ 63)) := (k1.mono (fun q z => by omega)).tr (k2.mono (fun q z => by omega))
  have nxt : ∀ r2 : Int32, r2 = bI (lon (-1) kk c pn pg < 85 ∧ ∀ x, x < 0 → ¬ lon (nI x) kk c pn pg < 85) → aG (d + 5) 192 (fun o S' => o = .inl (some (.int (bI (mini kk c pn pg)))) ∧ (mO S' 0 (nI kk) il err rd tl (nI c) (-1) cur hs sv ∧ mP S' ∧ mGr S') ∧ aq_fr S S' (fun q => q = 52 ∨ q = 55 ∨ (60 ≤ q ∧ q ≤ 63))) 20 [(0, .ref 52)] [.int r2] S2 := by
    intro r2 hr2
    refine ar_st i_X7_isMinimal_20 rfl rfl ?_
    refine ar_push i_X7_isMinimal_21 ?_
    refine ar_st i_X7_isMinimal_22 rfl rfl ?_
    exact ph c 0 (-1) r2 [] S2 (by omega) hr2 (o1.fr k2 (by omega)) (p1.fr k2 (by omega) (by omega)) v5 vG hfr
  by_cases hl : lon (-1) kk c pn pg < 85
  · have e : (if lon (-1) kk c pn pg < 85 then lon (-1) kk c pn pg else 1000) = lon (-1) kk c pn pg := if_pos hl
    rw [e]
    refine ar_push i_X7_isMinimal_9 ?_
    refine ar_iff i_X7_isMinimal_12 rfl (nI_ge (b := 1000) (by omega) (by omega)) ?_
    refine ar_push i_X7_isMinimal_15 ?_
    refine ar_go i_X7_isMinimal_16 ?_
    exact nxt 1 (bI_t ⟨hl, fun x hx => absurd hx (Nat.not_lt_zero x)⟩).symm
  · have e : (if lon (-1) kk c pn pg < 85 then lon (-1) kk c pn pg else 1000) = 1000 := if_neg hl
    rw [e]
    refine ar_push i_X7_isMinimal_9 ?_
    refine ar_ift i_X7_isMinimal_12 rfl (nI_le (a := 1000) (b := 1000) (by omega) (by omega)) ?_
    refine ar_push i_X7_isMinimal_19 ?_
    exact nxt 0 (bI_f (fun z => hl z.1)).symm
end
