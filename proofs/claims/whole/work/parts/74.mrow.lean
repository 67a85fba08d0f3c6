/-! ===== the reference: rows ===== -/
section
def updR (v : Nat → Nat → UInt64) (r : Nat) (g : Nat → UInt64) (j : Nat) : Nat → UInt64 := if j = r then g else v j
theorem updR_eq {v : Nat → Nat → UInt64} {r : Nat} {g : Nat → UInt64} : updR v r g r = g := if_pos rfl
theorem updR_ne {v : Nat → Nat → UInt64} {r j : Nat} {g : Nat → UInt64} (h : j ≠ r) : updR v r g j = v j := if_neg h
def mRw (S : aq_S) (ty : Nat → Int32) (sz : Nat → Nat) (v : Nat → Nat → UInt64) : Prop := ∃ fn ft fs, da S 67 82 fn ∧ ia S 68 2 ft ∧ ia S 69 2 fs ∧ (∀ r, r < 2 → ft r = ty r ∧ fs r = nI (sz r) ∧ sz r ≤ 41) ∧ ∀ r, r < 2 → ∀ i, i < 41 → fn (41 * r + i) = v r i
theorem mRw.fr {S S' : aq_S} {ty : Nat → Int32} {sz : Nat → Nat} {v : Nat → Nat → UInt64} {P : Nat → Prop} (h : mRw S ty sz v) (q : aq_fr S S' P) (h1 : ¬ P 67) (h2 : ¬ P 68) (h3 : ¬ P 69) : mRw S' ty sz v := by
  obtain ⟨fn, ft, fs, a1, a2, a3, a4⟩ := h
  exact ⟨fn, ft, fs, a1.fr q h1, a2.fr q h2, a3.fr q h3, a4⟩
theorem m_isRow (d : Nat) {S : aq_S} {r : Nat} (hr : r < 2) : aX (d + 1) 200 [.int (nI r)] S (fun o S' => o = .inl (some (.int 1)) ∧ S' = S) := by
  refine ar_run (Nat.le_of_ble_eq_true rfl) (fun o S1 h => aq_le_of (aq_le_refl S) h) ?_
  refine ar_ld i_X7_isRow_0 rfl rfl ?_
  refine ar_iff i_X7_isRow_1 rfl (nI_pos (by omega)) ?_
  refine ar_ld i_X7_isRow_4 rfl rfl ?_
  refine ar_push i_X7_isRow_5 ?_
  refine ar_iff i_X7_isRow_6 rfl (nI_ge (b := 2) hr (by omega)) ?_
  refine ar_push i_X7_isRow_9 ?_
  refine ar_go i_X7_isRow_10 ?_
  exact ar_ret i_X7_isRow_14 ((Or.inr rfl)) ⟨rfl, rfl⟩
theorem m_isRow_no (d : Nat) {S : aq_S} {p : Int32} (hp : p < 0 ∨ nI 2 ≤ p) : aX (d + 1) 200 [.int p] S (fun o S' => o = .inl (some (.int 0)) ∧ S' = S) := by
  refine ar_run (Nat.le_of_ble_eq_true rfl) (fun o S1 h => aq_le_of (aq_le_refl S) h) ?_
  refine ar_ld i_X7_isRow_0 rfl rfl ?_
  refine ar_if i_X7_isRow_1 rfl (fun c1 => ?_) (fun c1 => ?_)
  · refine ar_push i_X7_isRow_13 ?_
    exact ar_ret i_X7_isRow_14 ((Or.inl rfl)) ⟨rfl, rfl⟩
  · refine ar_ld i_X7_isRow_4 rfl rfl ?_
    refine ar_push i_X7_isRow_5 ?_
    refine ar_ift i_X7_isRow_6 rfl (hp.resolve_left c1) ?_
    refine ar_push i_X7_isRow_13 ?_
    exact ar_ret i_X7_isRow_14 ((Or.inl rfl)) ⟨rfl, rfl⟩
theorem sz_iff {s : Int32} : ((0 : Int64) ≤ s.toInt64 ∧ s.toInt64 ≤ 41) ↔ ((0 : Int32) ≤ s ∧ s ≤ 41) := by
  have a := i2l_le (a := 0) (by omega) s (b := 0)
  have b := i2l_ge (a := 41) (by omega) s
  exact and_congr a b
theorem m_newRow_r (d : Nat) {S : aq_S} {p t s : Int32} {th k il err rd tl pc lo cur hs sv : Int32} (h : mO S th k il err rd tl pc lo cur hs sv) (hp : p < 0 ∨ nI 2 ≤ p) : aX (d + 2) 202 [.ref 52, .int p, .int t, .int s] S (fun o S' => o = .inl (some (.int 0)) ∧ mO S' (1) k il err rd tl pc lo cur hs sv ∧ aq_fr S S' (fun q => q = 52)) := by
  refine ar_run (Nat.le_of_ble_eq_true rfl) (fun o S1 h => h.2.2.le) ?_
  refine ar_ld i_X7_newRow_0 rfl rfl ?_
  refine ar_cr i_X7_newRow_1 rfl trivial (Nat.le_of_ble_eq_true rfl) (m_isRow_no d hp) ?_
  refine ar_ift i_X7_newRow_4 rfl (rfl) ?_
  refine ar_ld i_X7_newRow_29 rfl rfl ?_
  refine ar_push i_X7_newRow_30 ?_
  refine av_cr i_X7_newRow_31 rfl ⟨_, _, _, rfl, (h)⟩ (Nat.le_of_ble_eq_true rfl) (m_fails d h 1) (fun S1 q1 => ?_)
  exact ar_ret i_X7_newRow_34 rfl ⟨rfl, q1⟩
theorem m_newRow_t (d : Nat) {S : aq_S} {r : Nat} {t s : Int32} {th k il err rd tl pc lo cur hs sv : Int32} (h : mO S th k il err rd tl pc lo cur hs sv) (hr : r < 2) (hb : ¬ ((0 ≤ t ∧ t ≤ 1) ∧ (0 ≤ s ∧ s ≤ 41))) : aX (d + 2) 202 [.ref 52, .int (nI r), .int t, .int s] S (fun o S' => o = .inl (some (.int 0)) ∧ mO S' (1) k il err rd tl pc lo cur hs sv ∧ aq_fr S S' (fun q => q = 52)) := by
  refine ar_run (Nat.le_of_ble_eq_true rfl) (fun o S1 h => h.2.2.le) ?_
  have fin : aG (d + 1) 202 (fun o S' => o = .inl (some (.int 0)) ∧ mO S' (1) k il err rd tl pc lo cur hs sv ∧ aq_fr S S' (fun q => q = 52)) 29 [(0, .ref 52), (1, .int (nI r)), (2, .int t), (3, .int s)] [] S := by
    refine ar_ld i_X7_newRow_29 rfl rfl ?_
    refine ar_push i_X7_newRow_30 ?_
    refine av_cr i_X7_newRow_31 rfl ⟨_, _, _, rfl, (h)⟩ (Nat.le_of_ble_eq_true rfl) (m_fails d h 1) (fun S1 q1 => ?_)
    exact ar_ret i_X7_newRow_34 rfl ⟨rfl, q1⟩
  refine ar_ld i_X7_newRow_0 rfl rfl ?_
  refine ar_cr i_X7_newRow_1 rfl trivial (Nat.le_of_ble_eq_true rfl) (m_isRow d hr) ?_
  refine ar_iff i_X7_newRow_4 rfl (by decide) ?_
  refine ar_ld i_X7_newRow_7 rfl rfl ?_
  refine ar_ar i_X7_newRow_8 rfl ?_
  refine ar_push i_X7_newRow_9 ?_
  refine ar_push i_X7_newRow_10 ?_
  refine ar_cr i_X7_newRow_11 rfl trivial (Nat.le_of_ble_eq_true rfl) (m_isBetween d) ?_
  by_cases h1 : (0 : Int32) ≤ t ∧ t ≤ 1
  · refine ar_iff i_X7_newRow_14 rfl (bI_nz.mpr (pb_iff1.mpr h1)) ?_
    refine ar_ld i_X7_newRow_17 rfl rfl ?_
    refine ar_ar i_X7_newRow_18 rfl ?_
    refine ar_push i_X7_newRow_19 ?_
    refine ar_push i_X7_newRow_20 ?_
    refine ar_cr i_X7_newRow_23 rfl trivial (Nat.le_of_ble_eq_true rfl) (m_isBetween d) ?_
    refine ar_iff i_X7_newRow_26 rfl (fun z => z (bI_f (fun u => hb ⟨h1, sz_iff.mp u⟩))) ?_
    exact fin
  · refine ar_ift i_X7_newRow_14 rfl (bI_f (fun u => h1 (pb_iff1.mp u))) ?_
    exact fin
theorem m_newRow (d : Nat) {S : aq_S} {r s : Nat} {t : Int32} {ty : Nat → Int32} {sz : Nat → Nat} {v : Nat → Nat → UInt64} {th k il err rd tl pc lo cur hs sv : Int32} (h : mO S th k il err rd tl pc lo cur hs sv) (hw : mRw S ty sz v) (hr : r < 2) (ht : t = 0 ∨ t = 1) (hs41 : s ≤ 41) : aX (d + 2) 202 [.ref 52, .int (nI r), .int t, .int (nI s)] S (fun o S' => o = .inl (some (.int (nI s))) ∧ (mO S' (0) k il err rd tl pc lo cur hs sv ∧ mRw S' (upd ty r t) (updN sz r s) (updR v r (fun _ => 0))) ∧ aq_fr S S' (fun q => q = 52 ∨ q = 67 ∨ q = 68 ∨ q = 69)) := by
  obtain ⟨fn, ft, fs, w1, w2, w3, w4, w5⟩ := hw
  have ht1 : (0 : Int32) ≤ t ∧ t ≤ 1 := by rcases ht with e | e <;> rw [e] <;> decide
  refine ar_run (Nat.le_of_ble_eq_true rfl) (fun o S1 h => h.2.2.le) ?_
  refine ar_ld i_X7_newRow_0 rfl rfl ?_
  refine ar_cr i_X7_newRow_1 rfl trivial (Nat.le_of_ble_eq_true rfl) (m_isRow d hr) ?_
  refine ar_iff i_X7_newRow_4 rfl (by decide) ?_
  refine ar_ld i_X7_newRow_7 rfl rfl ?_
  refine ar_ar i_X7_newRow_8 rfl ?_
  refine ar_push i_X7_newRow_9 ?_
  refine ar_push i_X7_newRow_10 ?_
  refine ar_cr i_X7_newRow_11 rfl trivial (Nat.le_of_ble_eq_true rfl) (m_isBetween d) ?_
  refine ar_iff i_X7_newRow_14 rfl (bI_nz.mpr (pb_iff1.mpr ht1)) ?_
  refine ar_ld i_X7_newRow_17 rfl rfl ?_
  refine ar_ar i_X7_newRow_18 rfl ?_
  refine ar_push i_X7_newRow_19 ?_
  refine ar_push i_X7_newRow_20 ?_
  refine ar_cr i_X7_newRow_23 rfl trivial (Nat.le_of_ble_eq_true rfl) (m_isBetween d) ?_
  refine ar_ift i_X7_newRow_26 rfl (bI_nz.mpr ((l_btw (a := 0) (b := 41) (by omega) (by omega) (by omega)).mpr ⟨Nat.zero_le _, hs41⟩)) ?_
  refine ar_ld i_X7_newRow_35 rfl rfl ?_
  refine ar_push i_X7_newRow_36 ?_
  refine av_pf i_X7_newRow_37 (h) (Nat.le_of_ble_eq_true rfl) (rfl) rfl (fun S1 g1 k1 => ?_)
  have o1 : mO S1 (0) k il err rd tl pc lo cur hs sv := g1
  refine ar_ld i_X7_newRow_40 rfl rfl ?_
  refine ar_gf i_X7_newRow_41 (o1) rfl ?_
  refine ar_ld i_X7_newRow_44 rfl rfl ?_
  refine ar_ld i_X7_newRow_45 rfl rfl ?_
  refine av_sti i_X7_newRow_46 (by omega) (w2.fr k1 (by omega)) (by omega) (by omega) (fun S2 g2 k2 => ?_)
  have o2 := o1.fr k2 (by omega)
  refine ar_ld i_X7_newRow_47 rfl rfl ?_
  refine ar_gf i_X7_newRow_48 (o2) rfl ?_
  refine ar_ld i_X7_newRow_51 rfl rfl ?_
  refine ar_ld i_X7_newRow_52 rfl rfl ?_
  refine av_sti i_X7_newRow_53 (by omega) ((w3.fr k1 (by omega)).fr k2 (by omega)) (by omega) (by omega) (fun S3 g3 k3 => ?_)
  have o3 := o2.fr k3 (by omega)
  refine ar_push i_X7_newRow_54 ?_
  refine ar_st i_X7_newRow_55 rfl rfl ?_
  have u2 : ia S3 68 2 (upd ft r t) := (k3.2.2.2 68 (by omega)).trans g2
  have u3 : ia S3 69 2 (upd fs r (nI s)) := g3
  have u1 : da S3 67 82 fn := ((w1.fr k1 (by omega)).fr k2 (by omega)).fr k3 (by omega)
  have hfr : aq_fr S S3 (fun q => q = 52 ∨ q = 67 ∨ q = 68 ∨ q = 69) := (k1.mono (fun q z => Or.inl z)).tr ((k2.mono (fun q z => Or.inr (Or.inr (Or.inl z)))).tr (k3.mono (fun q z => Or.inr (Or.inr (Or.inr z)))))
  clear k3 g3 k2 g2 o2 k1 g1 o1
  suffices key : ∀ j i (S3 : aq_S) (fn' : Nat → UInt64), i + j = 41 → mO S3 (0) k il err rd tl pc lo cur hs sv → ia S3 68 2 (upd ft r t) → ia S3 69 2 (upd fs r (nI s)) → da S3 67 82 fn' → (∀ x, x < i → fn' (41 * r + x) = 0) → (∀ q x, q ≠ r → x < 41 → fn' (41 * q + x) = fn (41 * q + x)) → aq_fr S S3 (fun q => q = 52 ∨ q = 67 ∨ q = 68 ∨ q = 69) → aG (d + 1) 202 (fun o S' => o = .inl (some (.int (nI s))) ∧ (mO S' (0) k il err rd tl pc lo cur hs sv ∧ mRw S' (upd ty r t) (updN sz r s) (updR v r (fun _ => 0))) ∧ aq_fr S S' (fun q => q = 52 ∨ q = 67 ∨ q = 68 ∨ q = 69)) 57 [(0, .ref 52), (1, .int (nI r)), (2, .int t), (3, .int (nI s)), (4, .int (nI i))] [] S3 from key 41 0 S3 fn (by omega) o3 u2 u3 u1 (fun x hx => absurd hx (Nat.not_lt_zero x)) (fun _ _ _ _ => rfl) hfr
  clear hfr u1 u2 u3 o3 S3 S2 S1
  intro j
  induction j with
  | zero =>
    intro i S3 fn' hi o3 u2 u3 u1 hag hot hfr
    refine ar_ld i_X7_newRow_57 rfl rfl ?_
    refine ar_push i_X7_newRow_59 ?_
    refine ar_ift i_X7_newRow_61 rfl (nI_le (a := 41) (by omega) (by omega)) ?_
    refine ar_ld i_X7_newRow_83 rfl rfl ?_
    refine ar_ret i_X7_newRow_84 rfl ⟨rfl, ⟨o3, fn', _, _, u1, u2, u3, fun q hq => ?_, fun q hq x hx => ?_⟩, hfr⟩
    · by_cases e : q = r
      · rw [e, upd_eq, upd_eq, updN_eq, upd_eq]
        exact ⟨rfl, rfl, hs41⟩
      · rw [upd_ne e, upd_ne e, updN_ne e, upd_ne e]
        exact w4 q hq
    · by_cases e : q = r
      · rw [e, updR_eq]
        exact hag x (by omega)
      · rw [updR_ne e, hot q x e hx]
        exact w5 q hq x hx
  | succ j ih =>
    intro i S3 fn' hi o3 u2 u3 u1 hag hot hfr
    refine ar_ld i_X7_newRow_57 rfl rfl ?_
    refine ar_push i_X7_newRow_59 ?_
    refine ar_iff i_X7_newRow_61 rfl (nI_ge (b := 41) (by omega) (by omega)) ?_
    refine ar_ld i_X7_newRow_64 rfl rfl ?_
    refine ar_gf i_X7_newRow_65 (o3) rfl ?_
    refine ar_push i_X7_newRow_68 ?_
    rw [show (41 : Int32) = nI 41 from rfl]
    refine ar_ld i_X7_newRow_70 rfl rfl ?_
    refine ar_ar i_X7_newRow_71 rfl ?_
    rw [pk_mul]
    refine ar_ld i_X7_newRow_72 rfl rfl ?_
    refine ar_ar i_X7_newRow_74 rfl ?_
    rw [nI_add]
    refine ar_push i_X7_newRow_75 ?_
    refine av_std i_X7_newRow_76 (by omega) (u1) (by omega) (by omega) (fun S4 g4 k4 => ?_)
    refine ar_inc i_X7_newRow_77 rfl rfl ?_
    refine ar_go i_X7_newRow_80 ?_
    have := ih (i + 1) S4 _ (by omega) (o3.fr k4 (by omega)) (u2.fr k4 (by omega)) (u3.fr k4 (by omega)) g4 (fun x hx => by
      by_cases e : x = i
      · rw [e, vf_upd_eq]; rfl
      · rw [vf_upd_ne (by omega)]; exact hag x (by omega)) (fun q x hq hx => by rw [vf_upd_ne (by omega)]; exact hot q x hq hx) (hfr.tr (k4.mono (fun q z => by omega)))
    rw [← nI_1 i] at this
    exact this
theorem m_notElement_r (d : Nat) {S : aq_S} {p i : Int32} (hp : p < 0 ∨ nI 2 ≤ p) : aX (d + 2) 204 [.ref 52, .int p, .int i] S (fun o S' => o = .inl (some (.int 1)) ∧ S' = S) := by
  refine ar_run (Nat.le_of_ble_eq_true rfl) (fun o S1 h => aq_le_of (aq_le_refl S) h) ?_
  refine ar_ld i_X7_notElement_0 rfl rfl ?_
  refine ar_cr i_X7_notElement_1 rfl trivial (Nat.le_of_ble_eq_true rfl) (m_isRow_no d hp) ?_
  refine ar_iff i_X7_notElement_4 rfl (by decide) ?_
  refine ar_push i_X7_notElement_7 ?_
  refine ar_go i_X7_notElement_8 ?_
  exact ar_ret i_X7_notElement_47 rfl ⟨rfl, rfl⟩
theorem m_notElement_m (d : Nat) {S : aq_S} {r : Nat} {i : Int32} {ty : Nat → Int32} {sz : Nat → Nat} {v : Nat → Nat → UInt64} {th k il err rd tl pc lo cur hs sv : Int32} (h : mO S th k il err rd tl pc lo cur hs sv) (hw : mRw S ty sz v) (hr : r < 2) (ht : ty r = -1) : aX (d + 2) 204 [.ref 52, .int (nI r), .int i] S (fun o S' => o = .inl (some (.int 2)) ∧ S' = S) := by
  obtain ⟨fn, ft, fs, w1, w2, w3, w4, w5⟩ := hw
  refine ar_run (Nat.le_of_ble_eq_true rfl) (fun o S1 h => aq_le_of (aq_le_refl S) h) ?_
  refine ar_ld i_X7_notElement_0 rfl rfl ?_
  refine ar_cr i_X7_notElement_1 rfl trivial (Nat.le_of_ble_eq_true rfl) (m_isRow d hr) ?_
  refine ar_ift i_X7_notElement_4 rfl (by decide) ?_
  refine ar_ld i_X7_notElement_11 rfl rfl ?_
  refine ar_gf i_X7_notElement_12 (h) rfl ?_
  refine ar_ld i_X7_notElement_15 rfl rfl ?_
  refine av_ldi i_X7_notElement_16 (w2) (by omega) (by omega) ?_
  rw [(w4 r hr).1, ht]
  refine ar_iff i_X7_notElement_17 rfl (by decide) ?_
  refine ar_push i_X7_notElement_20 ?_
  refine ar_go i_X7_notElement_21 ?_
  exact ar_ret i_X7_notElement_47 rfl ⟨rfl, rfl⟩
theorem m_notElement (d : Nat) {S : aq_S} {r : Nat} {i : Int32} {ty : Nat → Int32} {sz : Nat → Nat} {v : Nat → Nat → UInt64} {th k il err rd tl pc lo cur hs sv : Int32} (h : mO S th k il err rd tl pc lo cur hs sv) (hw : mRw S ty sz v) (hr : r < 2) (ht : ty r = 0 ∨ ty r = 1) : aX (d + 2) 204 [.ref 52, .int (nI r), .int i] S (fun o S' => o = .inl (some (.int (pif (i < 0 ∨ nI (sz r) ≤ i) 3 0))) ∧ S' = S) := by
  obtain ⟨fn, ft, fs, w1, w2, w3, w4, w5⟩ := hw
  have h41 := (w4 r hr).2.2
  refine ar_run (Nat.le_of_ble_eq_true rfl) (fun o S1 h => aq_le_of (aq_le_refl S) h) ?_
  refine ar_ld i_X7_notElement_0 rfl rfl ?_
  refine ar_cr i_X7_notElement_1 rfl trivial (Nat.le_of_ble_eq_true rfl) (m_isRow d hr) ?_
  refine ar_ift i_X7_notElement_4 rfl (by decide) ?_
  refine ar_ld i_X7_notElement_11 rfl rfl ?_
  refine ar_gf i_X7_notElement_12 (h) rfl ?_
  refine ar_ld i_X7_notElement_15 rfl rfl ?_
  refine av_ldi i_X7_notElement_16 (w2) (by omega) (by omega) ?_
  rw [(w4 r hr).1]
  refine ar_ift i_X7_notElement_17 rfl (by rcases ht with e | e <;> rw [e] <;> decide) ?_
  refine ar_ld i_X7_notElement_24 rfl rfl ?_
  refine ar_ar i_X7_notElement_25 rfl ?_
  refine ar_push i_X7_notElement_26 ?_
  refine ar_ld i_X7_notElement_27 rfl rfl ?_
  refine ar_gf i_X7_notElement_28 (h) rfl ?_
  refine ar_ld i_X7_notElement_31 rfl rfl ?_
  refine av_ldi i_X7_notElement_32 (w3) (by omega) (by omega) ?_
  rw [(w4 r hr).2.1]
  refine ar_push i_X7_notElement_33 ?_
  refine ar_ar i_X7_notElement_34 rfl ?_
  refine ar_ar i_X7_notElement_35 rfl ?_
  refine ar_cr i_X7_notElement_36 rfl trivial (Nat.le_of_ble_eq_true rfl) (m_isBetween d) ?_
  have e : ((0 : Int64) ≤ i.toInt64 ∧ i.toInt64 ≤ (nI (sz r) - 1).toInt64) ↔ ¬ (i < 0 ∨ nI (sz r) ≤ i) := by
    rw [Int64.le_iff_toInt_le, Int64.le_iff_toInt_le, Int32.toInt_toInt64, Int32.toInt_toInt64, Int32.lt_iff_toInt_lt, Int32.le_iff_toInt_le, nI_toInt (by omega), show nI (sz r) - 1 = nI (sz r) - nI 1 from rfl, pk_sub_toInt (by omega) (by omega)]
    have a : (0 : Int64).toInt = 0 := by decide
    have b : (0 : Int32).toInt = 0 := by decide
    omega
  by_cases hi : i < 0 ∨ nI (sz r) ≤ i
  · rw [pif_t hi]
    refine ar_iff i_X7_notElement_39 rfl (fun z => z (bI_f (fun u => e.mp u hi))) ?_
    refine ar_push i_X7_notElement_42 ?_
    refine ar_go i_X7_notElement_43 ?_
    exact ar_ret i_X7_notElement_47 rfl ⟨rfl, rfl⟩
  · rw [pif_f hi]
    refine ar_ift i_X7_notElement_39 rfl (bI_nz.mpr (e.mpr hi)) ?_
    refine ar_push i_X7_notElement_46 ?_
    exact ar_ret i_X7_notElement_47 rfl ⟨rfl, rfl⟩
theorem j_isNaN32 (d : Nat) {S : aq_S} {w : UInt32} (h : FP.Core.val32 w ≠ .nan) : aX (d + 1) 254 [.float w] S (fun o S' => o = .inl (some (.int 0)) ∧ S' = S) := by
  refine ar_run (Nat.le_of_ble_eq_true rfl) (fun o S1 h => aq_le_of (aq_le_refl S) h) ?_
  have e : Op.cmpValue (FP.fcmp w w) CmpOp.l = 0 := by
    rw [show FP.fcmp w w = some .eq from FP.Core.fcmp_self h]
    rfl
  refine ar_ld i_Jxf58ca_isNaN_12338_0 rfl rfl ?_
  refine ar_ld i_Jxf58ca_isNaN_12338_1 rfl rfl ?_
  refine ar_ar i_Jxf58ca_isNaN_12338_2 rfl ?_
  refine ar_ift i_Jxf58ca_isNaN_12338_3 rfl (e) ?_
  refine ar_push i_Jxf58ca_isNaN_12338_10 ?_
  exact ar_ret i_Jxf58ca_isNaN_12338_11 ((Or.inl rfl)) ⟨rfl, rfl⟩
theorem j_f2i (d : Nat) {S : aq_S} {w : UInt32} (h : FP.Core.val32 w ≠ .nan) : aX (d + 2) 255 [.float w] S (fun o S' => o = .inl (some (.int w.toInt32)) ∧ S' = S) := by
  refine ar_run (Nat.le_of_ble_eq_true rfl) (fun o S1 h => aq_le_of (aq_le_refl S) h) ?_
  refine ar_ld i_Jxf58ca_floatToIntBits_5c35a_0 rfl rfl ?_
  refine ar_cr i_Jxf58ca_floatToIntBits_5c35a_1 rfl trivial (Nat.le_of_ble_eq_true rfl) (j_isNaN32 d h) ?_
  refine ar_iff i_Jxf58ca_floatToIntBits_5c35a_4 rfl (by decide) ?_
  refine ar_ld i_Jxf58ca_floatToIntBits_5c35a_7 rfl rfl ?_
  refine ar_ar i_Jxf58ca_floatToIntBits_5c35a_8 rfl ?_
  exact ar_ret i_Jxf58ca_floatToIntBits_5c35a_11 rfl ⟨rfl, rfl⟩
theorem j_isNaN64 (d : Nat) {S : aq_S} {w : UInt64} (h : FP.Core.val64 w ≠ .nan) : aX (d + 1) 252 [.double w] S (fun o S' => o = .inl (some (.int 0)) ∧ S' = S) := by
  refine ar_run (Nat.le_of_ble_eq_true rfl) (fun o S1 h => aq_le_of (aq_le_refl S) h) ?_
  have e : Op.cmpValue (FP.dcmp w w) CmpOp.l = 0 := by
    rw [show FP.dcmp w w = some .eq from FP.Core.dcmp_self h]
    rfl
  refine ar_ld i_Jxe99ae_isNaN_b9ae7_0 rfl rfl ?_
  refine ar_ld i_Jxe99ae_isNaN_b9ae7_1 rfl rfl ?_
  refine ar_ar i_Jxe99ae_isNaN_b9ae7_2 rfl ?_
  refine ar_ift i_Jxe99ae_isNaN_b9ae7_3 rfl (e) ?_
  refine ar_push i_Jxe99ae_isNaN_b9ae7_10 ?_
  exact ar_ret i_Jxe99ae_isNaN_b9ae7_11 ((Or.inl rfl)) ⟨rfl, rfl⟩
theorem j_d2l (d : Nat) {S : aq_S} {w : UInt64} (h : FP.Core.val64 w ≠ .nan) : aX (d + 2) 253 [.double w] S (fun o S' => o = .inl (some (.long w.toInt64)) ∧ S' = S) := by
  refine ar_run (Nat.le_of_ble_eq_true rfl) (fun o S1 h => aq_le_of (aq_le_refl S) h) ?_
  refine ar_ld i_Jxe99ae_doubleToLongBits_ccdee_0 rfl rfl ?_
  refine ar_cr i_Jxe99ae_doubleToLongBits_ccdee_1 rfl trivial (Nat.le_of_ble_eq_true rfl) (j_isNaN64 d h) ?_
  refine ar_iff i_Jxe99ae_doubleToLongBits_ccdee_4 rfl (by decide) ?_
  refine ar_ld i_Jxe99ae_doubleToLongBits_ccdee_7 rfl rfl ?_
  refine ar_ar i_Jxe99ae_doubleToLongBits_ccdee_8 rfl ?_
  exact ar_ret i_Jxe99ae_doubleToLongBits_ccdee_11 rfl ⟨rfl, rfl⟩
theorem d2f_ne {v : UInt64} (h : eI 0 v) : FP.Core.val32 (FP.d2f v) ≠ .nan := by
  rcases h with ⟨e, -⟩ | ⟨-, w, k, h0, h1, -⟩
  · exact absurd e (by decide)
  · rw [h0, h1.back]
    exact h1.ne
theorem m_elementBits_e (d : Nat) {S : aq_S} {p i c : Int32} {th k il err rd tl pc lo cur hs sv : Int32} (h : mO S th k il err rd tl pc lo cur hs sv) (hc : c = 1 ∨ c = 2 ∨ c = 3) (hn : aX (d + 2) 204 [.ref 52, .int p, .int i] S (fun o S' => o = .inl (some (.int c)) ∧ S' = S)) : aX (d + 3) 206 [.ref 52, .int p, .int i] S (fun o S' => o = .inl (some (.long 0)) ∧ mO S' (c) k il err rd tl pc lo cur hs sv ∧ aq_fr S S' (fun q => q = 52)) := by
  refine ar_run (Nat.le_of_ble_eq_true rfl) (fun o S1 h => h.2.2.le) ?_
  refine ar_ld i_X7_elementBits_0 rfl rfl ?_
  refine ar_ld i_X7_elementBits_1 rfl rfl ?_
  refine ar_ld i_X7_elementBits_2 rfl rfl ?_
  refine ar_ld i_X7_elementBits_3 rfl rfl ?_
  refine ar_cr i_X7_elementBits_4 rfl ⟨_, _, _, rfl, (h)⟩ (Nat.le_of_ble_eq_true rfl) (hn) ?_
  refine av_pf i_X7_elementBits_7 (h) (Nat.le_of_ble_eq_true rfl) (rfl) rfl (fun S1 g1 k1 => ?_)
  have o1 : mO S1 (c) k il err rd tl pc lo cur hs sv := g1
  refine ar_ld i_X7_elementBits_10 rfl rfl ?_
  refine ar_gf i_X7_elementBits_11 (o1) rfl ?_
  refine ar_iff i_X7_elementBits_14 rfl (by rcases hc with e | e | e <;> rw [e] <;> decide) ?_
  refine ar_push i_X7_elementBits_17 ?_
  exact ar_ret i_X7_elementBits_18 rfl ⟨rfl, o1, k1⟩
theorem m_elementBits (d : Nat) {S : aq_S} {r i : Nat} {ty : Nat → Int32} {sz : Nat → Nat} {v : Nat → Nat → UInt64} {th k il err rd tl pc lo cur hs sv : Int32} (h : mO S th k il err rd tl pc lo cur hs sv) (hw : mRw S ty sz v) (hr : r < 2) (ht : ty r = 0 ∨ ty r = 1) (hi : i < sz r) (h1 : eI (ty r) (v r i)) : aX (d + 3) 206 [.ref 52, .int (nI r), .int (nI i)] S (fun o S' => o = .inl (some (.long (eB (ty r) (v r i)))) ∧ mO S' (0) k il err rd tl pc lo cur hs sv ∧ aq_fr S S' (fun q => q = 52)) := by
  have hn := m_notElement (i := nI i) d h hw hr ht
  obtain ⟨fn, ft, fs, w1, w2, w3, w4, w5⟩ := hw
  have h41 := (w4 r hr).2.2
  rw [pif_f (fun z => z.elim (fun u => nI_pos (by omega) u) (fun u => nI_ge hi (by omega) u))] at hn
  refine ar_run (Nat.le_of_ble_eq_true rfl) (fun o S1 h => h.2.2.le) ?_
  refine ar_ld i_X7_elementBits_0 rfl rfl ?_
  refine ar_ld i_X7_elementBits_1 rfl rfl ?_
  refine ar_ld i_X7_elementBits_2 rfl rfl ?_
  refine ar_ld i_X7_elementBits_3 rfl rfl ?_
  refine ar_cr i_X7_elementBits_4 rfl ⟨_, _, _, rfl, (h)⟩ (Nat.le_of_ble_eq_true rfl) (hn) ?_
  refine av_pf i_X7_elementBits_7 (h) (Nat.le_of_ble_eq_true rfl) (rfl) rfl (fun S1 g1 k1 => ?_)
  have o1 : mO S1 (0) k il err rd tl pc lo cur hs sv := g1
  refine ar_ld i_X7_elementBits_10 rfl rfl ?_
  refine ar_gf i_X7_elementBits_11 (o1) rfl ?_
  refine ar_ift i_X7_elementBits_14 rfl (by decide) ?_
  refine ar_ld i_X7_elementBits_19 rfl rfl ?_
  refine ar_gf i_X7_elementBits_20 (o1) rfl ?_
  refine ar_push i_X7_elementBits_23 ?_
  rw [show (41 : Int32) = nI 41 from rfl]
  refine ar_ld i_X7_elementBits_25 rfl rfl ?_
  refine ar_ar i_X7_elementBits_26 rfl ?_
  rw [pk_mul]
  refine ar_ld i_X7_elementBits_27 rfl rfl ?_
  refine ar_ar i_X7_elementBits_28 rfl ?_
  rw [nI_add]
  refine av_ldd i_X7_elementBits_29 (w1.fr k1 (by omega)) (by omega) (by omega) ?_
  rw [w5 r hr i (by omega)]
  refine ar_st i_X7_elementBits_30 rfl rfl ?_
  refine ar_ld i_X7_elementBits_31 rfl rfl ?_
  refine ar_gf i_X7_elementBits_32 (o1) rfl ?_
  refine ar_ld i_X7_elementBits_35 rfl rfl ?_
  refine av_ldi i_X7_elementBits_36 (w2.fr k1 (by omega)) (by omega) (by omega) ?_
  rw [(w4 r hr).1]
  rcases ht with e | e
  · rw [e] at h1 ⊢
    refine ar_iff i_X7_elementBits_37 rfl (by decide) ?_
    refine ar_ld i_X7_elementBits_40 rfl rfl ?_
    refine ar_arc i_X7_elementBits_41 rfl (h1.f.1) ?_
    refine ar_cr i_X7_elementBits_42 rfl trivial (Nat.le_of_ble_eq_true rfl) (j_f2i d (d2f_ne h1)) ?_
    refine ar_ar i_X7_elementBits_45 rfl ?_
    refine ar_go i_X7_elementBits_46 ?_
    exact ar_ret i_X7_elementBits_53 rfl ⟨rfl, o1, k1⟩
  · rw [e] at h1 ⊢
    obtain ⟨n, hn2, -⟩ := h1.d
    refine ar_ift i_X7_elementBits_37 rfl (by decide) ?_
    refine ar_ld i_X7_elementBits_49 rfl rfl ?_
    refine ar_cr i_X7_elementBits_50 rfl trivial (Nat.le_of_ble_eq_true rfl) (j_d2l d hn2.ne) ?_
    exact ar_ret i_X7_elementBits_53 rfl ⟨rfl, o1, k1⟩
theorem m_setNumber (d : Nat) {S : aq_S} {r i : Nat} {x : UInt64} {ty : Nat → Int32} {sz : Nat → Nat} {v : Nat → Nat → UInt64} {th k il err rd tl pc lo cur hs sv : Int32} (h : mO S th k il err rd tl pc lo cur hs sv) (hw : mRw S ty sz v) (hr : r < 2) (hi : i < 41) (ht : ty r = 0 ∨ ty r = 1) (h1 : eI (ty r) x) : aX (d + 1) 201 [.ref 52, .int (nI r), .int (nI i), .double x] S (fun o S' => o = .inl none ∧ mRw S' ty sz (updR v r (vf_upd (v r) i x)) ∧ aq_fr S S' (fun q => q = 67)) := by
  obtain ⟨fn, ft, fs, w1, w2, w3, w4, w5⟩ := hw
  refine ar_run (Nat.le_of_ble_eq_true rfl) (fun o S1 h => h.2.2.le) ?_
  have fin : aG d 201 (fun o S' => o = .inl none ∧ mRw S' ty sz (updR v r (vf_upd (v r) i x)) ∧ aq_fr S S' (fun q => q = 67)) 26 [(0, .ref 52), (1, .int (nI r)), (2, .int (nI i)), (3, .double x)] [.double x, .int (nI (41 * r + i)), .ref 67] S := by
    refine av_std i_X7_setNumber_26 (by omega) (w1) (by omega) (by omega) (fun S2 g2 k2 => ?_)
    refine ar_retv i_X7_setNumber_27 ⟨rfl, ⟨_, ft, fs, g2, w2.fr k2 (by omega), w3.fr k2 (by omega), w4, fun q hq y hy => ?_⟩, k2⟩
    by_cases e : q = r
    · subst e
      rw [updR_eq]
      by_cases e2 : y = i
      · rw [e2, vf_upd_eq, vf_upd_eq]
      · rw [vf_upd_ne (by omega), vf_upd_ne e2]
        exact w5 q hq y hy
    · rw [updR_ne e, vf_upd_ne (by omega)]
      exact w5 q hq y hy
  refine ar_ld i_X7_setNumber_0 rfl rfl ?_
  refine ar_gf i_X7_setNumber_1 (h) rfl ?_
  refine ar_push i_X7_setNumber_4 ?_
  rw [show (41 : Int32) = nI 41 from rfl]
  refine ar_ld i_X7_setNumber_6 rfl rfl ?_
  refine ar_ar i_X7_setNumber_7 rfl ?_
  rw [pk_mul]
  refine ar_ld i_X7_setNumber_8 rfl rfl ?_
  refine ar_ar i_X7_setNumber_9 rfl ?_
  rw [nI_add]
  refine ar_ld i_X7_setNumber_10 rfl rfl ?_
  refine ar_gf i_X7_setNumber_11 (h) rfl ?_
  refine ar_ld i_X7_setNumber_14 rfl rfl ?_
  refine av_ldi i_X7_setNumber_15 (w2) (by omega) (by omega) ?_
  rw [(w4 r hr).1]
  rcases ht with e | e
  · rw [e] at h1 ⊢
    refine ar_iff i_X7_setNumber_16 rfl (by decide) ?_
    refine ar_ld i_X7_setNumber_19 rfl rfl ?_
    refine ar_arc i_X7_setNumber_20 rfl (h1.f.1) ?_
    refine ar_arc i_X7_setNumber_21 rfl (h1.f.2.1) ?_
    rw [h1.f.2.2]
    refine ar_go i_X7_setNumber_22 ?_
    exact fin
  · rw [e]
    refine ar_ift i_X7_setNumber_16 rfl (by decide) ?_
    refine ar_ld i_X7_setNumber_25 rfl rfl ?_
    exact fin
theorem m_takeRemainder_e (d : Nat) {S : aq_S} {p i j c : Int32} {th k il err rd tl pc lo cur hs sv : Int32} (h : mO S th k il err rd tl pc lo cur hs sv) (hc : c = 1 ∨ c = 2 ∨ c = 3) (hn : aX (d + 2) 204 [.ref 52, .int p, .int i] S (fun o S' => o = .inl (some (.int c)) ∧ S' = S)) : aX (d + 3) 205 [.ref 52, .int p, .int i, .int j] S (fun o S' => o = .inl (some (.int 0)) ∧ mO S' (c) k il err rd tl pc lo cur hs sv ∧ aq_fr S S' (fun q => q = 52)) := by
  refine ar_run (Nat.le_of_ble_eq_true rfl) (fun o S1 h => h.2.2.le) ?_
  refine ar_ld i_X7_takeRemainder_0 rfl rfl ?_
  refine ar_ld i_X7_takeRemainder_1 rfl rfl ?_
  refine ar_ld i_X7_takeRemainder_2 rfl rfl ?_
  refine ar_ld i_X7_takeRemainder_3 rfl rfl ?_
  refine ar_cr i_X7_takeRemainder_4 rfl ⟨_, _, _, rfl, (h)⟩ (Nat.le_of_ble_eq_true rfl) (hn) ?_
  refine av_pf i_X7_takeRemainder_7 (h) (Nat.le_of_ble_eq_true rfl) (rfl) rfl (fun S1 g1 k1 => ?_)
  have o1 : mO S1 (c) k il err rd tl pc lo cur hs sv := g1
  refine ar_ld i_X7_takeRemainder_10 rfl rfl ?_
  refine ar_gf i_X7_takeRemainder_11 (o1) rfl ?_
  refine ar_ift i_X7_takeRemainder_14 rfl (by rcases hc with e | e | e <;> rw [e] <;> decide) ?_
  refine ar_ld i_X7_takeRemainder_27 rfl rfl ?_
  refine ar_gf i_X7_takeRemainder_28 (o1) rfl ?_
  refine ar_iff i_X7_takeRemainder_31 rfl (by rcases hc with e | e | e <;> rw [e] <;> decide) ?_
  refine ar_push i_X7_takeRemainder_34 ?_
  exact ar_ret i_X7_takeRemainder_35 rfl ⟨rfl, o1, k1⟩
theorem m_takeRemainder_j (d : Nat) {S : aq_S} {r i : Nat} {j : Int32} {ty : Nat → Int32} {sz : Nat → Nat} {v : Nat → Nat → UInt64} {th k il err rd tl pc lo cur hs sv : Int32} (h : mO S th k il err rd tl pc lo cur hs sv) (hw : mRw S ty sz v) (hr : r < 2) (ht : ty r = 0 ∨ ty r = 1) (hi : i < sz r) (hj : j < 0 ∨ nI (sz r) ≤ j) : aX (d + 3) 205 [.ref 52, .int (nI r), .int (nI i), .int j] S (fun o S' => o = .inl (some (.int 0)) ∧ mO S' (3) k il err rd tl pc lo cur hs sv ∧ aq_fr S S' (fun q => q = 52)) := by
  have hw0 := hw
  have hn := m_notElement (i := nI i) d h hw hr ht
  obtain ⟨fn, ft, fs, w1, w2, w3, w4, w5⟩ := hw
  have h41 := (w4 r hr).2.2
  rw [pif_f (fun z => z.elim (fun u => nI_pos (by omega) u) (fun u => nI_ge hi (by omega) u))] at hn
  refine ar_run (Nat.le_of_ble_eq_true rfl) (fun o S1 h => h.2.2.le) ?_
  refine ar_ld i_X7_takeRemainder_0 rfl rfl ?_
  refine ar_ld i_X7_takeRemainder_1 rfl rfl ?_
  refine ar_ld i_X7_takeRemainder_2 rfl rfl ?_
  refine ar_ld i_X7_takeRemainder_3 rfl rfl ?_
  refine ar_cr i_X7_takeRemainder_4 rfl ⟨_, _, _, rfl, (h)⟩ (Nat.le_of_ble_eq_true rfl) (hn) ?_
  refine av_pf i_X7_takeRemainder_7 (h) (Nat.le_of_ble_eq_true rfl) (rfl) rfl (fun S1 g1 k1 => ?_)
  have o1 : mO S1 (0) k il err rd tl pc lo cur hs sv := g1
  refine ar_ld i_X7_takeRemainder_10 rfl rfl ?_
  refine ar_gf i_X7_takeRemainder_11 (o1) rfl ?_
  refine ar_iff i_X7_takeRemainder_14 rfl (by decide) ?_
  have hn2 := m_notElement (i := j) d o1 (hw0.fr k1 (by omega) (by omega) (by omega)) hr ht
  rw [pif_t hj] at hn2
  refine ar_ld i_X7_takeRemainder_17 rfl rfl ?_
  refine ar_ld i_X7_takeRemainder_18 rfl rfl ?_
  refine ar_ld i_X7_takeRemainder_19 rfl rfl ?_
  refine ar_ld i_X7_takeRemainder_20 rfl rfl ?_
  refine ar_cr i_X7_takeRemainder_21 rfl ⟨_, _, _, rfl, o1⟩ (Nat.le_of_ble_eq_true rfl) (hn2) ?_
  refine av_pf i_X7_takeRemainder_24 (o1) (Nat.le_of_ble_eq_true rfl) (rfl) rfl (fun S2 g2 k2 => ?_)
  have o2 : mO S2 (3) k il err rd tl pc lo cur hs sv := g2
  refine ar_ld i_X7_takeRemainder_27 rfl rfl ?_
  refine ar_gf i_X7_takeRemainder_28 (o2) rfl ?_
  refine ar_iff i_X7_takeRemainder_31 rfl (by decide) ?_
  refine ar_push i_X7_takeRemainder_34 ?_
  exact ar_ret i_X7_takeRemainder_35 rfl ⟨rfl, o2, k1.tr k2⟩
theorem m_takeRemainder_0 (d : Nat) {S : aq_S} {r i j : Nat} {ty : Nat → Int32} {sz : Nat → Nat} {v : Nat → Nat → UInt64} {th k il err rd tl pc lo cur hs sv : Int32} (h : mO S th k il err rd tl pc lo cur hs sv) (hw : mRw S ty sz v) (hr : r < 2) (ht : ty r = 0 ∨ ty r = 1) (hi : i < sz r) (hj : j < sz r) (h0 : dU (v r j) 0) : aX (d + 3) 205 [.ref 52, .int (nI r), .int (nI i), .int (nI j)] S (fun o S' => o = .inl (some (.int 0)) ∧ mO S' (4) k il err rd tl pc lo cur hs sv ∧ aq_fr S S' (fun q => q = 52)) := by
  have hw0 := hw
  have hn := m_notElement (i := nI i) d h hw hr ht
  obtain ⟨fn, ft, fs, w1, w2, w3, w4, w5⟩ := hw
  have h41 := (w4 r hr).2.2
  rw [pif_f (fun z => z.elim (fun u => nI_pos (by omega) u) (fun u => nI_ge hi (by omega) u))] at hn
  refine ar_run (Nat.le_of_ble_eq_true rfl) (fun o S1 h => h.2.2.le) ?_
  refine ar_ld i_X7_takeRemainder_0 rfl rfl ?_
  refine ar_ld i_X7_takeRemainder_1 rfl rfl ?_
  refine ar_ld i_X7_takeRemainder_2 rfl rfl ?_
  refine ar_ld i_X7_takeRemainder_3 rfl rfl ?_
  refine ar_cr i_X7_takeRemainder_4 rfl ⟨_, _, _, rfl, (h)⟩ (Nat.le_of_ble_eq_true rfl) (hn) ?_
  refine av_pf i_X7_takeRemainder_7 (h) (Nat.le_of_ble_eq_true rfl) (rfl) rfl (fun S1 g1 k1 => ?_)
  have o1 : mO S1 (0) k il err rd tl pc lo cur hs sv := g1
  refine ar_ld i_X7_takeRemainder_10 rfl rfl ?_
  refine ar_gf i_X7_takeRemainder_11 (o1) rfl ?_
  refine ar_iff i_X7_takeRemainder_14 rfl (by decide) ?_
  have hn2 := m_notElement (i := nI j) d o1 (hw0.fr k1 (by omega) (by omega) (by omega)) hr ht
  rw [pif_f (fun z => z.elim (fun u => nI_pos (by omega) u) (fun u => nI_ge hj (by omega) u))] at hn2
  refine ar_ld i_X7_takeRemainder_17 rfl rfl ?_
  refine ar_ld i_X7_takeRemainder_18 rfl rfl ?_
  refine ar_ld i_X7_takeRemainder_19 rfl rfl ?_
  refine ar_ld i_X7_takeRemainder_20 rfl rfl ?_
  refine ar_cr i_X7_takeRemainder_21 rfl ⟨_, _, _, rfl, o1⟩ (Nat.le_of_ble_eq_true rfl) (hn2) ?_
  refine av_pf i_X7_takeRemainder_24 (o1) (Nat.le_of_ble_eq_true rfl) (rfl) rfl (fun S2 g2 k2 => ?_)
  have o2 : mO S2 (0) k il err rd tl pc lo cur hs sv := g2
  refine ar_ld i_X7_takeRemainder_27 rfl rfl ?_
  refine ar_gf i_X7_takeRemainder_28 (o2) rfl ?_
  refine ar_ift i_X7_takeRemainder_31 rfl (by decide) ?_
  refine ar_ld i_X7_takeRemainder_36 rfl rfl ?_
  refine ar_gf i_X7_takeRemainder_37 (o2) rfl ?_
  refine ar_push i_X7_takeRemainder_40 ?_
  rw [show (41 : Int32) = nI 41 from rfl]
  refine ar_ld i_X7_takeRemainder_42 rfl rfl ?_
  refine ar_ar i_X7_takeRemainder_43 rfl ?_
  rw [pk_mul]
  refine ar_ld i_X7_takeRemainder_44 rfl rfl ?_
  refine ar_ar i_X7_takeRemainder_45 rfl ?_
  rw [nI_add]
  refine av_ldd i_X7_takeRemainder_46 ((w1.fr k1 (by omega)).fr k2 (by omega)) (by omega) (by omega) ?_
  rw [w5 r hr j (by omega)]
  refine ar_st i_X7_takeRemainder_47 rfl rfl ?_
  refine ar_ld i_X7_takeRemainder_49 rfl rfl ?_
  refine ar_push i_X7_takeRemainder_51 ?_
  refine ar_ar i_X7_takeRemainder_52 rfl ?_
  refine ar_iff i_X7_takeRemainder_53 rfl (fun z => z ((cv_eq h0 dU_0 _).mpr rfl)) ?_
  refine ar_ld i_X7_takeRemainder_56 rfl rfl ?_
  refine ar_push i_X7_takeRemainder_57 ?_
  refine av_cr i_X7_takeRemainder_58 rfl ⟨_, _, _, rfl, (o2)⟩ (Nat.le_of_ble_eq_true rfl) (m_fails (d + 1) o2 4) (fun S3 q3 => ?_)
  exact ar_ret i_X7_takeRemainder_61 rfl ⟨rfl, q3.1, (k1.tr k2).tr q3.2⟩
theorem m_takeRemainder (d : Nat) {S : aq_S} {r i j m : Nat} {ty : Nat → Int32} {sz : Nat → Nat} {v : Nat → Nat → UInt64} {th k il err rd tl pc lo cur hs sv : Int32} (h : mO S th k il err rd tl pc lo cur hs sv) (hw : mRw S ty sz v) (hr : r < 2) (ht : ty r = 0 ∨ ty r = 1) (hi : i < sz r) (hj : j < sz r) (h1 : eI (ty r) (v r i)) (h2 : eI (ty r) (v r j)) (h0 : dU (v r j) m) (hm : 0 < m) : aX (d + 3) 205 [.ref 52, .int (nI r), .int (nI i), .int (nI j)] S (fun o S' => o = .inl (some (.int (tR (FP.drem (v r i) (v r j))))) ∧ (mO S' (0) k il err rd tl pc lo cur hs sv ∧ mRw S' ty sz (updR v r (vf_upd (v r) i (FP.drem (v r i) (v r j))))) ∧ aq_fr S S' (fun q => q = 52 ∨ q = 67)) := by
  have hw0 := hw
  have hn := m_notElement (i := nI i) d h hw hr ht
  obtain ⟨fn, ft, fs, w1, w2, w3, w4, w5⟩ := hw
  have h41 := (w4 r hr).2.2
  obtain ⟨n1, e1, -⟩ := h1.d
  have hrm := dU_rem e1 h0 hm
  rw [pif_f (fun z => z.elim (fun u => nI_pos (by omega) u) (fun u => nI_ge hi (by omega) u))] at hn
  refine ar_run (Nat.le_of_ble_eq_true rfl) (fun o S1 h => h.2.2.le) ?_
  refine ar_ld i_X7_takeRemainder_0 rfl rfl ?_
  refine ar_ld i_X7_takeRemainder_1 rfl rfl ?_
  refine ar_ld i_X7_takeRemainder_2 rfl rfl ?_
  refine ar_ld i_X7_takeRemainder_3 rfl rfl ?_
  refine ar_cr i_X7_takeRemainder_4 rfl ⟨_, _, _, rfl, (h)⟩ (Nat.le_of_ble_eq_true rfl) (hn) ?_
  refine av_pf i_X7_takeRemainder_7 (h) (Nat.le_of_ble_eq_true rfl) (rfl) rfl (fun S1 g1 k1 => ?_)
  have o1 : mO S1 (0) k il err rd tl pc lo cur hs sv := g1
  refine ar_ld i_X7_takeRemainder_10 rfl rfl ?_
  refine ar_gf i_X7_takeRemainder_11 (o1) rfl ?_
  refine ar_iff i_X7_takeRemainder_14 rfl (by decide) ?_
  have hn2 := m_notElement (i := nI j) d o1 (hw0.fr k1 (by omega) (by omega) (by omega)) hr ht
  rw [pif_f (fun z => z.elim (fun u => nI_pos (by omega) u) (fun u => nI_ge hj (by omega) u))] at hn2
  refine ar_ld i_X7_takeRemainder_17 rfl rfl ?_
  refine ar_ld i_X7_takeRemainder_18 rfl rfl ?_
  refine ar_ld i_X7_takeRemainder_19 rfl rfl ?_
  refine ar_ld i_X7_takeRemainder_20 rfl rfl ?_
  refine ar_cr i_X7_takeRemainder_21 rfl ⟨_, _, _, rfl, o1⟩ (Nat.le_of_ble_eq_true rfl) (hn2) ?_
  refine av_pf i_X7_takeRemainder_24 (o1) (Nat.le_of_ble_eq_true rfl) (rfl) rfl (fun S2 g2 k2 => ?_)
  have o2 : mO S2 (0) k il err rd tl pc lo cur hs sv := g2
  have u1 := (w1.fr k1 (by omega)).fr k2 (by omega)
  refine ar_ld i_X7_takeRemainder_27 rfl rfl ?_
  refine ar_gf i_X7_takeRemainder_28 (o2) rfl ?_
  refine ar_ift i_X7_takeRemainder_31 rfl (by decide) ?_
  refine ar_ld i_X7_takeRemainder_36 rfl rfl ?_
  refine ar_gf i_X7_takeRemainder_37 (o2) rfl ?_
  refine ar_push i_X7_takeRemainder_40 ?_
  rw [show (41 : Int32) = nI 41 from rfl]
  refine ar_ld i_X7_takeRemainder_42 rfl rfl ?_
  refine ar_ar i_X7_takeRemainder_43 rfl ?_
  rw [pk_mul]
  refine ar_ld i_X7_takeRemainder_44 rfl rfl ?_
  refine ar_ar i_X7_takeRemainder_45 rfl ?_
  rw [nI_add]
  refine av_ldd i_X7_takeRemainder_46 (u1) (by omega) (by omega) ?_
  rw [w5 r hr j (by omega)]
  refine ar_st i_X7_takeRemainder_47 rfl rfl ?_
  refine ar_ld i_X7_takeRemainder_49 rfl rfl ?_
  refine ar_push i_X7_takeRemainder_51 ?_
  refine ar_ar i_X7_takeRemainder_52 rfl ?_
  refine ar_ift i_X7_takeRemainder_53 rfl (fun z => absurd ((cv_eq h0 dU_0 _).mp z) (by omega)) ?_
  refine ar_ld i_X7_takeRemainder_62 rfl rfl ?_
  refine ar_ld i_X7_takeRemainder_63 rfl rfl ?_
  refine ar_ld i_X7_takeRemainder_64 rfl rfl ?_
  refine ar_ld i_X7_takeRemainder_65 rfl rfl ?_
  refine ar_gf i_X7_takeRemainder_66 (o2) rfl ?_
  refine ar_push i_X7_takeRemainder_69 ?_
  rw [show (41 : Int32) = nI 41 from rfl]
  refine ar_ld i_X7_takeRemainder_71 rfl rfl ?_
  refine ar_ar i_X7_takeRemainder_72 rfl ?_
  rw [pk_mul]
  refine ar_ld i_X7_takeRemainder_73 rfl rfl ?_
  refine ar_ar i_X7_takeRemainder_74 rfl ?_
  rw [nI_add]
  refine av_ldd i_X7_takeRemainder_75 (u1) (by omega) (by omega) ?_
  rw [w5 r hr i (by omega)]
  refine ar_ld i_X7_takeRemainder_76 rfl rfl ?_
  refine ar_arc i_X7_takeRemainder_78 rfl (hrm.vf) ?_
  have hw2 := (hw0.fr k1 (by omega) (by omega) (by omega)).fr k2 (by omega) (by omega) (by omega)
  refine av_cv i_X7_takeRemainder_79 rfl ⟨_, _, _, rfl, o2⟩ (Nat.le_of_ble_eq_true rfl) (m_setNumber (d + 1) o2 hw2 hr (show i < 41 by omega) ht (h1.rem h2 h0 hm)) (fun S3 q3 => ?_)
  have o3 := o2.fr q3.2 (by omega)
  have hw3 := q3.1
  obtain ⟨fn', ft', fs', x1, x2, x3, x4, x5⟩ := hw3
  refine ar_ld i_X7_takeRemainder_82 rfl rfl ?_
  refine ar_gf i_X7_takeRemainder_83 (o3) rfl ?_
  refine ar_push i_X7_takeRemainder_86 ?_
  rw [show (41 : Int32) = nI 41 from rfl]
  refine ar_ld i_X7_takeRemainder_88 rfl rfl ?_
  refine ar_ar i_X7_takeRemainder_89 rfl ?_
  rw [pk_mul]
  refine ar_ld i_X7_takeRemainder_90 rfl rfl ?_
  refine ar_ar i_X7_takeRemainder_91 rfl ?_
  rw [nI_add]
  refine av_ldd i_X7_takeRemainder_92 (x1) (by omega) (by omega) ?_
  rw [x5 r hr i (by omega), updR_eq, vf_upd_eq]
  refine ar_push i_X7_takeRemainder_93 ?_
  refine ar_arc i_X7_takeRemainder_96 rfl (mil_vf hrm) ?_
  refine ar_ar i_X7_takeRemainder_97 rfl ?_
  exact ar_ret i_X7_takeRemainder_98 rfl ⟨rfl, ⟨o3, q3.1⟩, ((k1.tr k2).mono (fun q z => Or.inl z)).tr (q3.2.mono (fun q z => Or.inr z))⟩
theorem m_fillDensities_r (d : Nat) {S : aq_S} {p q : Int32} {th k il err rd tl pc lo cur hs sv : Int32} (h : mO S th k il err rd tl pc lo cur hs sv) (hp : p < 0 ∨ nI 2 ≤ p) : aX (d + 2) 203 [.ref 52, .int p, .int q] S (fun o S' => o = .inl (some (.int 0)) ∧ mO S' (1) k il err rd tl pc lo cur hs sv ∧ aq_fr S S' (fun q => q = 52)) := by
  refine ar_run (Nat.le_of_ble_eq_true rfl) (fun o S1 h => h.2.2.le) ?_
  refine ar_ld i_X7_fillDensities_0 rfl rfl ?_
  refine ar_cr i_X7_fillDensities_1 rfl trivial (Nat.le_of_ble_eq_true rfl) (m_isRow_no d hp) ?_
  refine ar_ift i_X7_fillDensities_4 rfl (rfl) ?_
  refine ar_ld i_X7_fillDensities_14 rfl rfl ?_
  refine ar_push i_X7_fillDensities_15 ?_
  refine av_cr i_X7_fillDensities_16 rfl ⟨_, _, _, rfl, (h)⟩ (Nat.le_of_ble_eq_true rfl) (m_fails d h 1) (fun S1 q1 => ?_)
  exact ar_ret i_X7_fillDensities_19 rfl ⟨rfl, q1⟩
theorem m_fillDensities_q (d : Nat) {S : aq_S} {r : Nat} {q : Int32} {th k il err rd tl pc lo cur hs sv : Int32} (h : mO S th k il err rd tl pc lo cur hs sv) (hr : r < 2) (hq : q < 0 ∨ nI 4 ≤ q) : aX (d + 2) 203 [.ref 52, .int (nI r), .int q] S (fun o S' => o = .inl (some (.int 0)) ∧ mO S' (1) k il err rd tl pc lo cur hs sv ∧ aq_fr S S' (fun q => q = 52)) := by
  refine ar_run (Nat.le_of_ble_eq_true rfl) (fun o S1 h => h.2.2.le) ?_
  refine ar_ld i_X7_fillDensities_0 rfl rfl ?_
  refine ar_cr i_X7_fillDensities_1 rfl trivial (Nat.le_of_ble_eq_true rfl) (m_isRow d hr) ?_
  refine ar_iff i_X7_fillDensities_4 rfl (by decide) ?_
  refine ar_ld i_X7_fillDensities_7 rfl rfl ?_
  refine ar_cr i_X7_fillDensities_8 rfl trivial (Nat.le_of_ble_eq_true rfl) (m_isReg_no d hq) ?_
  refine ar_iff i_X7_fillDensities_11 rfl (by decide) ?_
  refine ar_ld i_X7_fillDensities_14 rfl rfl ?_
  refine ar_push i_X7_fillDensities_15 ?_
  refine av_cr i_X7_fillDensities_16 rfl ⟨_, _, _, rfl, (h)⟩ (Nat.le_of_ble_eq_true rfl) (m_fails d h 1) (fun S1 q1 => ?_)
  exact ar_ret i_X7_fillDensities_19 rfl ⟨rfl, q1⟩
theorem m_fillDensities_n (d : Nat) {S : aq_S} {r q : Nat} {ty : Nat → Int32} {sz : Nat → Nat} {v : Nat → Nat → UInt64} {N : Nat → Nat} {G : Nat → Nat → Int32} {th k il err rd tl pc lo cur hs sv : Int32} (h : mO S th k il err rd tl pc lo cur hs sv) (hw : mRw S ty sz v) (hW : mW S N G) (hr : r < 2) (hq : q < 4) (hty : ty r = -1 ∨ ty r = 0 ∨ ty r = 1) (hb : ty r = -1 ∨ sz r < N q) : aX (d + 2) 203 [.ref 52, .int (nI r), .int (nI q)] S (fun o S' => o = .inl (some (.int 0)) ∧ mO S' (2) k il err rd tl pc lo cur hs sv ∧ aq_fr S S' (fun q => q = 52)) := by
  obtain ⟨fn, ft, fs, w1, w2, w3, w4, w5⟩ := hw
  obtain ⟨fl, fw, l1, l2, l3, l4⟩ := hW
  have hN := (l3 q hq).2
  have h41 := (w4 r hr).2.2
  refine ar_run (Nat.le_of_ble_eq_true rfl) (fun o S1 h => h.2.2.le) ?_
  have fin : aG (d + 1) 203 (fun o S' => o = .inl (some (.int 0)) ∧ mO S' (2) k il err rd tl pc lo cur hs sv ∧ aq_fr S S' (fun q => q = 52)) 46 [(0, .ref 52), (1, .int (nI r)), (2, .int (nI q)), (3, .int (nI (N q)))] [] S := by
    refine ar_ld i_X7_fillDensities_46 rfl rfl ?_
    refine ar_push i_X7_fillDensities_47 ?_
    refine av_cr i_X7_fillDensities_48 rfl ⟨_, _, _, rfl, (h)⟩ (Nat.le_of_ble_eq_true rfl) (m_fails d h 2) (fun S1 q1 => ?_)
    exact ar_ret i_X7_fillDensities_51 rfl ⟨rfl, q1⟩
  refine ar_ld i_X7_fillDensities_0 rfl rfl ?_
  refine ar_cr i_X7_fillDensities_1 rfl trivial (Nat.le_of_ble_eq_true rfl) (m_isRow d hr) ?_
  refine ar_iff i_X7_fillDensities_4 rfl (by decide) ?_
  refine ar_ld i_X7_fillDensities_7 rfl rfl ?_
  refine ar_cr i_X7_fillDensities_8 rfl trivial (Nat.le_of_ble_eq_true rfl) (m_isReg d hq) ?_
  refine ar_ift i_X7_fillDensities_11 rfl (by decide) ?_
  refine ar_ld i_X7_fillDensities_20 rfl rfl ?_
  refine ar_gf i_X7_fillDensities_21 (h) rfl ?_
  refine ar_ld i_X7_fillDensities_24 rfl rfl ?_
  refine av_ldi i_X7_fillDensities_25 (l1) (by omega) (by omega) ?_
  rw [(l3 q hq).1]
  refine ar_st i_X7_fillDensities_26 rfl rfl ?_
  refine ar_ld i_X7_fillDensities_27 rfl rfl ?_
  refine ar_gf i_X7_fillDensities_28 (h) rfl ?_
  refine ar_ld i_X7_fillDensities_31 rfl rfl ?_
  refine av_ldi i_X7_fillDensities_32 (w2) (by omega) (by omega) ?_
  rw [(w4 r hr).1]
  by_cases ht : ty r = -1
  · rw [ht]
    refine ar_ift i_X7_fillDensities_33 rfl (by decide) ?_
    exact fin
  · refine ar_iff i_X7_fillDensities_33 rfl (by rcases hty.resolve_left ht with e | e <;> rw [e] <;> decide) ?_
    refine ar_ld i_X7_fillDensities_36 rfl rfl ?_
    refine ar_gf i_X7_fillDensities_37 (h) rfl ?_
    refine ar_ld i_X7_fillDensities_40 rfl rfl ?_
    refine av_ldi i_X7_fillDensities_41 (w3) (by omega) (by omega) ?_
    rw [(w4 r hr).2.1]
    refine ar_ld i_X7_fillDensities_42 rfl rfl ?_
    refine ar_iff i_X7_fillDensities_43 rfl (nI_ge (hb.resolve_left ht) (by omega)) ?_
    exact fin
theorem m_fillDensities (d : Nat) {S : aq_S} {r q : Nat} {ty : Nat → Int32} {sz : Nat → Nat} {v : Nat → Nat → UInt64} {N : Nat → Nat} {G : Nat → Nat → Int32} {th k il err rd tl pc lo cur hs sv : Int32} (h : mO S th k il err rd tl pc lo cur hs sv) (hw : mRw S ty sz v) (hW : mW S N G) (hr : r < 2) (hq : q < 4) (hty : ty r = 0 ∨ ty r = 1) (hsz : N q ≤ sz r) : aX (d + 4) 203 [.ref 52, .int (nI r), .int (nI q)] S (fun o S' => o = .inl (some (.int (nI (N q)))) ∧ (mO S' (0) k il err rd tl pc lo cur hs sv ∧ mRw S' ty sz (updR v r (fun i => if i < N q then dq (ty r) (wholes (G q) (i + 1)) (i + 1) (fper 1 (N q) (G q)) else v r i))) ∧ aq_fr S S' (fun q => q = 52 ∨ q = 67)) := by
  have hW0 := hW
  obtain ⟨fn, ft, fs, w1, w2, w3, w4, w5⟩ := hw
  obtain ⟨fl, fw, l1, l2, l3, l4⟩ := hW
  have hN := (l3 q hq).2
  have h41 := (w4 r hr).2.2
  have hpl := fper_le 1 (N q) (G q)
  have hp0 : 0 < N q → 0 < fper 1 (N q) (G q) := fun z => by
    have e : fper 1 (N q) (G q) = leastP (perV 1 (N q) (G q)) (N q - 1) 1 := if_neg (by omega)
    rw [e]
    exact leastP_ge (N q - 1) 1
  refine ar_run (Nat.le_of_ble_eq_true rfl) (fun o S1 h => h.2.2.le) ?_
  refine ar_ld i_X7_fillDensities_0 rfl rfl ?_
  refine ar_cr i_X7_fillDensities_1 rfl trivial (Nat.le_of_ble_eq_true rfl) (m_isRow (d + 2) hr) ?_
  refine ar_iff i_X7_fillDensities_4 rfl (by decide) ?_
  refine ar_ld i_X7_fillDensities_7 rfl rfl ?_
  refine ar_cr i_X7_fillDensities_8 rfl trivial (Nat.le_of_ble_eq_true rfl) (m_isReg (d + 2) hq) ?_
  refine ar_ift i_X7_fillDensities_11 rfl (by decide) ?_
  refine ar_ld i_X7_fillDensities_20 rfl rfl ?_
  refine ar_gf i_X7_fillDensities_21 (h) rfl ?_
  refine ar_ld i_X7_fillDensities_24 rfl rfl ?_
  refine av_ldi i_X7_fillDensities_25 (l1) (by omega) (by omega) ?_
  rw [(l3 q hq).1]
  refine ar_st i_X7_fillDensities_26 rfl rfl ?_
  refine ar_ld i_X7_fillDensities_27 rfl rfl ?_
  refine ar_gf i_X7_fillDensities_28 (h) rfl ?_
  refine ar_ld i_X7_fillDensities_31 rfl rfl ?_
  refine av_ldi i_X7_fillDensities_32 (w2) (by omega) (by omega) ?_
  rw [(w4 r hr).1]
  refine ar_iff i_X7_fillDensities_33 rfl (by rcases hty with e | e <;> rw [e] <;> decide) ?_
  refine ar_ld i_X7_fillDensities_36 rfl rfl ?_
  refine ar_gf i_X7_fillDensities_37 (h) rfl ?_
  refine ar_ld i_X7_fillDensities_40 rfl rfl ?_
  refine av_ldi i_X7_fillDensities_41 (w3) (by omega) (by omega) ?_
  rw [(w4 r hr).2.1]
  refine ar_ld i_X7_fillDensities_42 rfl rfl ?_
  refine ar_ift i_X7_fillDensities_43 rfl (nI_le hsz (by omega)) ?_
  refine ar_ld i_X7_fillDensities_52 rfl rfl ?_
  refine ar_push i_X7_fillDensities_53 ?_
  refine av_pf i_X7_fillDensities_54 (h) (Nat.le_of_ble_eq_true rfl) (rfl) rfl (fun S1 g1 k1 => ?_)
  have o1 : mO S1 (0) k il err rd tl pc lo cur hs sv := g1
  have hW1 := hW0.fr k1 (by omega) (by omega)
  have key : ∀ pp, (0 < N q → pp = fper 1 (N q) (G q)) → ∀ j i (S1 : aq_S) (fn' : Nat → UInt64), i + j = N q → mO S1 (0) k il err rd tl pc lo cur hs sv → ia S1 54 160 fw → ia S1 68 2 ft → ia S1 69 2 fs → da S1 67 82 fn' → (∀ x, x < 41 → fn' (41 * r + x) = if x < i then dq (ty r) (wholes (G q) (x + 1)) (x + 1) (fper 1 (N q) (G q)) else v r x) → (∀ y x, y ≠ r → x < 41 → fn' (41 * y + x) = fn (41 * y + x)) → aq_fr S S1 (fun q => q = 52 ∨ q = 67) → aG (d + 3) 203 (fun o S' => o = .inl (some (.int (nI (N q)))) ∧ (mO S' (0) k il err rd tl pc lo cur hs sv ∧ mRw S' ty sz (updR v r (fun i => if i < N q then dq (ty r) (wholes (G q) (i + 1)) (i + 1) (fper 1 (N q) (G q)) else v r i))) ∧ aq_fr S S' (fun q => q = 52 ∨ q = 67)) 79 [(0, .ref 52), (1, .int (nI r)), (2, .int (nI q)), (3, .int (nI (N q))), (4, .int (nI (wholes (G q) i))), (5, .int (nI pp)), (6, .int (nI (i + 1)))] [] S1 := by
    intro pp hpp j
    induction j with
    | zero =>
      intro i S1 fn' hi o1 u2 x2 x3 x1 hag hot hfr
      refine ar_ld i_X7_fillDensities_79 rfl rfl ?_
      refine ar_ld i_X7_fillDensities_81 rfl rfl ?_
      refine ar_ift i_X7_fillDensities_82 rfl (nI_lt (by omega) (by omega)) ?_
      refine ar_ld i_X7_fillDensities_177 rfl rfl ?_
      refine ar_ret i_X7_fillDensities_178 rfl ⟨rfl, ⟨o1, fn', ft, fs, x1, x2, x3, w4, fun y hy x hx => ?_⟩, hfr⟩
      by_cases e : y = r
      · subst e
        rw [updR_eq, hag x hx, show i = N q by omega]
      · rw [updR_ne e, hot y x e hx]
        exact w5 y hy x hx
    | succ j ih =>
      intro i S1 fn' hi o1 u2 x2 x3 x1 hag hot hfr
      have hwl := wholes_le (G q) (i + 1)
      have hfp := hp0 (by omega)
      have epp := hpp (by omega)
      subst epp
      refine ar_ld i_X7_fillDensities_79 rfl rfl ?_
      refine ar_ld i_X7_fillDensities_81 rfl rfl ?_
      refine ar_iff i_X7_fillDensities_82 rfl (nI_nlt (show i + 1 ≤ N q by omega) (by omega)) ?_
      refine ar_ld i_X7_fillDensities_85 rfl rfl ?_
      refine ar_ld i_X7_fillDensities_87 rfl rfl ?_
      refine ar_ld i_X7_fillDensities_88 rfl rfl ?_
      refine ar_ld i_X7_fillDensities_89 rfl rfl ?_
      refine ar_push i_X7_fillDensities_91 ?_
      refine ar_ar i_X7_fillDensities_92 rfl ?_
      rw [nI_pred]
      refine ar_cr i_X7_fillDensities_93 rfl ⟨_, _, _, rfl, o1⟩ (Nat.le_of_ble_eq_true rfl) (m_at (d + 2) o1 u2 hq (i := i) (by omega)) ?_
      rw [l4 q hq i (by omega)]
      refine ar_push i_X7_fillDensities_96 ?_
      have fin : aG (d + 3) 203 (fun o S' => o = .inl (some (.int (nI (N q)))) ∧ (mO S' (0) k il err rd tl pc lo cur hs sv ∧ mRw S' ty sz (updR v r (fun i => if i < N q then dq (ty r) (wholes (G q) (i + 1)) (i + 1) (fper 1 (N q) (G q)) else v r i))) ∧ aq_fr S S' (fun q => q = 52 ∨ q = 67)) 106 [(0, .ref 52), (1, .int (nI r)), (2, .int (nI q)), (3, .int (nI (N q))), (4, .int (nI (wholes (G q) i))), (5, .int (nI (fper 1 (N q) (G q)))), (6, .int (nI (i + 1)))] [.int (nI (wholes (G q) (i + 1)))] S1 := by
        have tail : ∀ x, x = dq (ty r) (wholes (G q) (i + 1)) (i + 1) (fper 1 (N q) (G q)) → ∀ S2, S2 = S1 → (∀ S4, da S4 67 82 (vf_upd fn' (41 * r + i) x) → aq_fr S1 S4 (fun c => c = 67) → aG (d + 3) 203 (fun o S' => o = .inl (some (.int (nI (N q)))) ∧ (mO S' (0) k il err rd tl pc lo cur hs sv ∧ mRw S' ty sz (updR v r (fun i => if i < N q then dq (ty r) (wholes (G q) (i + 1)) (i + 1) (fper 1 (N q) (G q)) else v r i))) ∧ aq_fr S S' (fun q => q = 52 ∨ q = 67)) 171 [(0, .ref 52), (1, .int (nI r)), (2, .int (nI q)), (3, .int (nI (N q))), (4, .int (nI (wholes (G q) (i + 1)))), (5, .int (nI (fper 1 (N q) (G q)))), (6, .int (nI (i + 1)))] [] S4) := by
          intro x hx S2 eS S4 g4 k4
          refine ar_inc i_X7_fillDensities_171 rfl rfl ?_
          refine ar_go i_X7_fillDensities_174 ?_
          have := ih (i + 1) S4 _ (by omega) (o1.fr k4 (by omega)) (u2.fr k4 (by omega)) (x2.fr k4 (by omega)) (x3.fr k4 (by omega)) g4 (fun y hy => by
            by_cases e : y = i
            · rw [e, vf_upd_eq, if_pos (by omega), hx]
            · rw [vf_upd_ne (by omega), hag y hy]
              by_cases e2 : y < i
              · rw [if_pos e2, if_pos (by omega)]
              · rw [if_neg e2, if_neg (by omega)]) (fun y z e hz => by rw [vf_upd_ne (by omega)]; exact hot y z e hz) (hfr.tr (k4.mono (fun q z => Or.inr z)))
          rw [← nI_1 (i + 1)] at this
          exact this
        refine ar_st i_X7_fillDensities_106 rfl rfl ?_
        refine ar_ld i_X7_fillDensities_108 rfl rfl ?_
        refine ar_gf i_X7_fillDensities_109 (o1) rfl ?_
        refine ar_ld i_X7_fillDensities_112 rfl rfl ?_
        refine av_ldi i_X7_fillDensities_113 (x2) (by omega) (by omega) ?_
        rw [(w4 r hr).1]
        rcases hty with e | e
        · obtain ⟨v1, v2, v3⟩ := dq_F (h := wholes (G q) (i + 1)) (i := i + 1) (p := fper 1 (N q) (G q)) hwl (by omega) (by omega) hfp (by omega)
          have ex : FP.f2d (FP.fdiv (FP.fdiv (FP.i2f (nI (wholes (G q) (i + 1)))) (FP.i2f (nI (i + 1)))) (FP.i2f (nI (fper 1 (N q) (G q))))) = dq (ty r) (wholes (G q) (i + 1)) (i + 1) (fper 1 (N q) (G q)) := (if_neg (by rw [e]; decide)).symm
          refine ar_iff i_X7_fillDensities_114 rfl (by rw [e]; decide) ?_
          refine ar_ld i_X7_fillDensities_117 rfl rfl ?_
          refine ar_gf i_X7_fillDensities_118 (o1) rfl ?_
          refine ar_push i_X7_fillDensities_121 ?_
          rw [show (41 : Int32) = nI 41 from rfl]
          refine ar_ld i_X7_fillDensities_123 rfl rfl ?_
          refine ar_ar i_X7_fillDensities_124 rfl ?_
          rw [pk_mul]
          refine ar_ld i_X7_fillDensities_125 rfl rfl ?_
          refine ar_ar i_X7_fillDensities_127 rfl ?_
          rw [nI_add]
          refine ar_push i_X7_fillDensities_128 ?_
          refine ar_ar i_X7_fillDensities_129 rfl ?_
          rw [← Nat.add_assoc (41 * r) i 1, nI_pred]
          refine ar_ld i_X7_fillDensities_130 rfl rfl ?_
          refine ar_ar i_X7_fillDensities_132 rfl ?_
          refine ar_ld i_X7_fillDensities_133 rfl rfl ?_
          refine ar_ar i_X7_fillDensities_135 rfl ?_
          refine ar_arc i_X7_fillDensities_136 rfl (v1) ?_
          refine ar_ld i_X7_fillDensities_137 rfl rfl ?_
          refine ar_ar i_X7_fillDensities_139 rfl ?_
          refine ar_arc i_X7_fillDensities_140 rfl (v2) ?_
          refine ar_arc i_X7_fillDensities_141 rfl (v3) ?_
          refine av_std i_X7_fillDensities_142 (by omega) (x1) (by omega) (by omega) (fun S4 g4 k4 => ?_)
          refine ar_go i_X7_fillDensities_143 ?_
          exact tail _ ex S1 rfl S4 g4 k4
        · obtain ⟨v1, v2⟩ := dq_D (h := wholes (G q) (i + 1)) (i := i + 1) (p := fper 1 (N q) (G q)) hwl (by omega) (by omega) hfp (by omega)
          have ex : FP.ddiv (FP.ddiv (FP.i2d (nI (wholes (G q) (i + 1)))) (FP.i2d (nI (i + 1)))) (FP.i2d (nI (fper 1 (N q) (G q)))) = dq (ty r) (wholes (G q) (i + 1)) (i + 1) (fper 1 (N q) (G q)) := (if_pos e).symm
          refine ar_ift i_X7_fillDensities_114 rfl (by rw [e]; decide) ?_
          refine ar_ld i_X7_fillDensities_146 rfl rfl ?_
          refine ar_gf i_X7_fillDensities_147 (o1) rfl ?_
          refine ar_push i_X7_fillDensities_150 ?_
          rw [show (41 : Int32) = nI 41 from rfl]
          refine ar_ld i_X7_fillDensities_152 rfl rfl ?_
          refine ar_ar i_X7_fillDensities_153 rfl ?_
          rw [pk_mul]
          refine ar_ld i_X7_fillDensities_154 rfl rfl ?_
          refine ar_ar i_X7_fillDensities_156 rfl ?_
          rw [nI_add]
          refine ar_push i_X7_fillDensities_157 ?_
          refine ar_ar i_X7_fillDensities_158 rfl ?_
          rw [← Nat.add_assoc (41 * r) i 1, nI_pred]
          refine ar_ld i_X7_fillDensities_159 rfl rfl ?_
          refine ar_ar i_X7_fillDensities_161 rfl ?_
          refine ar_ld i_X7_fillDensities_162 rfl rfl ?_
          refine ar_ar i_X7_fillDensities_164 rfl ?_
          refine ar_arc i_X7_fillDensities_165 rfl (v1) ?_
          refine ar_ld i_X7_fillDensities_166 rfl rfl ?_
          refine ar_ar i_X7_fillDensities_168 rfl ?_
          refine ar_arc i_X7_fillDensities_169 rfl (v2) ?_
          refine av_std i_X7_fillDensities_170 (by omega) (x1) (by omega) (by omega) (fun S4 g4 k4 => ?_)
          exact tail _ ex S1 rfl S4 g4 k4
      by_cases c : G q i = -1
      · refine ar_iff i_X7_fillDensities_97 rfl (fun z => z c) ?_
        refine ar_push i_X7_fillDensities_100 ?_
        refine ar_go i_X7_fillDensities_101 ?_
        refine ar_ar i_X7_fillDensities_105 rfl ?_
        rw [nI_1, ← wholes_y c]
        exact fin
      · refine ar_ift i_X7_fillDensities_97 rfl (c) ?_
        refine ar_push i_X7_fillDensities_104 ?_
        refine ar_ar i_X7_fillDensities_105 rfl ?_
        rw [Int32.add_zero]
        rw [wholes_n c] at fin
        exact fin
  have start : ∀ pp, (0 < N q → pp = fper 1 (N q) (G q)) → aG (d + 3) 203 (fun o S' => o = .inl (some (.int (nI (N q)))) ∧ (mO S' (0) k il err rd tl pc lo cur hs sv ∧ mRw S' ty sz (updR v r (fun i => if i < N q then dq (ty r) (wholes (G q) (i + 1)) (i + 1) (fper 1 (N q) (G q)) else v r i))) ∧ aq_fr S S' (fun q => q = 52 ∨ q = 67)) 74 [(0, .ref 52), (1, .int (nI r)), (2, .int (nI q)), (3, .int (nI (N q))), (4, .int 0)] [.int (nI pp)] S1 := by
    intro pp hpp
    refine ar_st i_X7_fillDensities_74 rfl rfl ?_
    refine ar_push i_X7_fillDensities_76 ?_
    refine ar_st i_X7_fillDensities_77 rfl rfl ?_
    exact key pp hpp (N q) 0 S1 fn (by omega) o1 (l2.fr k1 (by omega)) (w2.fr k1 (by omega)) (w3.fr k1 (by omega)) (w1.fr k1 (by omega)) (fun x hx => by rw [if_neg (Nat.not_lt_zero x)]; exact w5 r hr x hx) (fun _ _ _ _ => rfl) (k1.mono (fun q z => Or.inl z))
  refine ar_push i_X7_fillDensities_57 ?_
  refine ar_st i_X7_fillDensities_58 rfl rfl ?_
  refine ar_ld i_X7_fillDensities_60 rfl rfl ?_
  by_cases hn0 : N q = 0
  · refine ar_iff i_X7_fillDensities_61 rfl (fun z => z (congrArg nI hn0)) ?_
    refine ar_push i_X7_fillDensities_64 ?_
    refine ar_go i_X7_fillDensities_65 ?_
    exact start 1 (fun z => by omega)
  · refine ar_ift i_X7_fillDensities_61 rfl (nI_ne0 (by omega) (by omega)) ?_
    refine ar_ld i_X7_fillDensities_68 rfl rfl ?_
    refine ar_ld i_X7_fillDensities_69 rfl rfl ?_
    refine ar_push i_X7_fillDensities_70 ?_
    refine ar_cr i_X7_fillDensities_71 rfl ⟨_, _, _, rfl, o1⟩ (Nat.le_of_ble_eq_true rfl) (m_smallest d o1 hW1 hq hn0) ?_
    exact start _ (fun _ => rfl)
end
