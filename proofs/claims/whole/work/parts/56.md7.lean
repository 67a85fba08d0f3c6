/-! ===== the reference: removePattern ===== -/
section
theorem btw_iff {n : Nat} (hn : n ≤ 40) {i : Int32} : ((0 : Int64) ≤ i.toInt64 ∧ i.toInt64 ≤ (nI n - 1).toInt64) ↔ ¬ (i < 0 ∨ nI n ≤ i) := by
  rw [Int64.le_iff_toInt_le, Int64.le_iff_toInt_le, Int32.toInt_toInt64, Int32.toInt_toInt64, Int32.lt_iff_toInt_lt, Int32.le_iff_toInt_le, nI_toInt (by omega), show nI n - 1 = nI n - nI 1 from rfl, pk_sub_toInt (by omega) (by omega)]
  have a : (0 : Int64).toInt = 0 := by decide
  have b : (0 : Int32).toInt = 0 := by decide
  omega
theorem m_removePattern_i (d : Nat) {S : aq_S} {c : Nat} {i : Int32} {th k il err rd tl lo cur hs sv : Int32} (h : mO S th k il err rd tl (nI c) lo cur hs sv) (hc : c ≤ 12) (hi : i < 0 ∨ nI c ≤ i) : aX (d + 2) 180 [.ref 52, .int i] S (fun o S' => o = .inl (some (.int 0)) ∧ mO S' 1 k il err rd tl (nI c) lo cur hs sv ∧ aq_fr S S' (fun q => q = 52)) := by
  refine ar_run (Nat.le_of_ble_eq_true rfl) (fun o S1 h => h.2.2.le) ?_
  refine ar_ld i_X7_removePattern_0 rfl rfl ?_
  refine ar_ar i_X7_removePattern_1 rfl ?_
  refine ar_push i_X7_removePattern_2 ?_
  refine ar_ld i_X7_removePattern_3 rfl rfl ?_
  refine ar_gf i_X7_removePattern_4 (h) rfl ?_
  refine ar_push i_X7_removePattern_7 ?_
  refine ar_ar i_X7_removePattern_8 rfl ?_
  refine ar_ar i_X7_removePattern_9 rfl ?_
  refine ar_cr i_X7_removePattern_10 rfl trivial (Nat.le_of_ble_eq_true rfl) (m_isBetween d) ?_
  refine ar_iff i_X7_removePattern_13 rfl (fun z => z (bI_f (fun u => (btw_iff (by omega)).mp u hi))) ?_
  refine ar_ld i_X7_removePattern_16 rfl rfl ?_
  refine ar_push i_X7_removePattern_17 ?_
  refine av_cr i_X7_removePattern_18 rfl ⟨_, _, _, rfl, (h)⟩ (Nat.le_of_ble_eq_true rfl) (m_fails d h 1) (fun S1 q1 => ?_)
  exact ar_ret i_X7_removePattern_21 rfl ⟨rfl, q1⟩
theorem m_removePattern (d : Nat) {S : aq_S} {c i : Nat} {pn : Nat → Nat} {pg : Nat → Nat → Int32} {th k il err rd tl lo cur hs sv : Int32} (h : mO S th k il err rd tl (nI c) lo cur hs sv) (hp : mPt S c pn pg) (hk : pOk c pn pg) (hi : i < c) : aX (d + 2) 180 [.ref 52, .int (nI i)] S (fun o S' => o = .inl (some (.int (nI (c - 1)))) ∧ (mO S' 0 k il err rd tl (nI (c - 1)) lo cur hs sv ∧ mPt S' (c - 1) (pnDel i pn) (pgDel i pg)) ∧ aq_fr S S' (fun q => q = 52 ∨ q = 58 ∨ q = 59)) := by
  obtain ⟨fL, fp, p1, p2, p3, p4⟩ := hp
  have hc := hk.1
  refine ar_run (Nat.le_of_ble_eq_true rfl) (fun o S1 h => h.2.2.le) ?_
  refine ar_ld i_X7_removePattern_0 rfl rfl ?_
  refine ar_ar i_X7_removePattern_1 rfl ?_
  refine ar_push i_X7_removePattern_2 ?_
  refine ar_ld i_X7_removePattern_3 rfl rfl ?_
  refine ar_gf i_X7_removePattern_4 (h) rfl ?_
  refine ar_push i_X7_removePattern_7 ?_
  refine ar_ar i_X7_removePattern_8 rfl ?_
  refine ar_ar i_X7_removePattern_9 rfl ?_
  refine ar_cr i_X7_removePattern_10 rfl trivial (Nat.le_of_ble_eq_true rfl) (m_isBetween d) ?_
  refine ar_ift i_X7_removePattern_13 rfl (bI_nz.mpr ((btw_iff (by omega)).mpr (fun z => z.elim (fun u => nI_pos (by omega) u) (fun u => nI_ge hi (by omega) u)))) ?_
  refine ar_ld i_X7_removePattern_22 rfl rfl ?_
  refine ar_push i_X7_removePattern_23 ?_
  refine av_pf i_X7_removePattern_24 (h) (Nat.le_of_ble_eq_true rfl) (rfl) rfl (fun S1 g1 k1 => ?_)
  have o1 : mO S1 0 k il err rd tl (nI c) lo cur hs sv := g1
  refine ar_ld i_X7_removePattern_27 rfl rfl ?_
  refine ar_ar i_X7_removePattern_28 rfl ?_
  refine ar_gf i_X7_removePattern_29 (o1) rfl ?_
  refine ar_push i_X7_removePattern_32 ?_
  refine ar_ar i_X7_removePattern_33 rfl ?_
  rw [nI_m1 (by omega)]
  refine av_pf i_X7_removePattern_34 (o1) (Nat.le_of_ble_eq_true rfl) (rfl) rfl (fun S2 g2 k2 => ?_)
  have o2 : mO S2 0 k il err rd tl (nI (c - 1)) lo cur hs sv := g2
  refine ar_ld i_X7_removePattern_37 rfl rfl ?_
  refine ar_st i_X7_removePattern_38 rfl rfl ?_
  have hfr := (k1.tr k2).mono (P' := fun q => q = 52 ∨ q = 58 ∨ q = 59) (fun q z => Or.inl z)
  suffices key : ∀ j x (S2 : aq_S) (L P : Nat → Int32) (L3 : List (Nat × Value)), x + j = c - 1 → i ≤ x → (L3 = [] ∨ ∃ v, L3 = [(3, .int v)]) → mO S2 0 k il err rd tl (nI (c - 1)) lo cur hs sv → ia S2 58 12 L → ia S2 59 60 P → (∀ y, y < i → L y = fL y) → (∀ y, i ≤ y → y < x → L y = fL (y + 1)) → (∀ y, x ≤ y → L y = fL y) → (∀ y, y < 5 * i → P y = fp y) → (∀ y, 5 * i ≤ y → y < 5 * x → P y = fp (y + 5)) → (∀ y, 5 * x ≤ y → P y = fp y) → aq_fr S S2 (fun q => q = 52 ∨ q = 58 ∨ q = 59) → aG (d + 1) 180 (fun o S' => o = .inl (some (.int (nI (c - 1)))) ∧ (mO S' 0 k il err rd tl (nI (c - 1)) lo cur hs sv ∧ mPt S' (c - 1) (pnDel i pn) (pgDel i pg)) ∧ aq_fr S S' (fun q => q = 52 ∨ q = 58 ∨ q = 59)) 39 ((0, .ref 52) :: (1, .int (nI i)) :: (2, .int (nI x)) :: L3) [] S2 from key (c - 1 - i) i S2 fL fp [] (by omega) (Nat.le_refl i) (Or.inl rfl) o2 ((p1.fr k1 (by omega)).fr k2 (by omega)) ((p2.fr k1 (by omega)).fr k2 (by omega)) (fun y _ => rfl) (fun y h1 h2 => by omega) (fun y _ => rfl) (fun y _ => rfl) (fun y h1 h2 => by omega) (fun y _ => rfl) hfr
  clear k2 g2 o2 hfr S2 k1 g1 o1 S1
  intro j
  induction j with
  | zero =>
    intro x S2 L P L3 hx hix hL3 o2 q1 q2 a1 a2 a3 b1 b2 b3 hfr
    refine ar_ld i_X7_removePattern_39 rfl rfl ?_
    refine ar_ld i_X7_removePattern_40 rfl rfl ?_
    refine ar_gf i_X7_removePattern_41 (o2) rfl ?_
    refine ar_ift i_X7_removePattern_44 rfl (nI_le (by omega) (by omega)) ?_
    refine ar_ld i_X7_removePattern_102 rfl rfl ?_
    refine ar_gf i_X7_removePattern_103 (o2) rfl ?_
    refine ar_ret i_X7_removePattern_106 rfl ⟨rfl, ⟨o2, L, P, q1, q2, fun y hy => ?_, fun y hy s hs => ?_⟩, hfr⟩
    · unfold pnDel
      by_cases e : y < i
      · rw [if_pos e, a1 y e]; exact p3 y (by omega)
      · rw [if_neg e, a2 y (by omega) (by omega)]; exact p3 (y + 1) (by omega)
    · unfold pnDel at hs
      unfold pgDel
      by_cases e : y < i
      · rw [if_pos e] at hs ⊢
        have := hk.2.1 y (by omega)
        rw [b1 _ (by omega)]; exact p4 y (by omega) s hs
      · rw [if_neg e] at hs ⊢
        have := hk.2.1 (y + 1) (by omega)
        rw [b2 _ (by omega) (by omega), show 5 * y + s + 5 = 5 * (y + 1) + s by omega]
        exact p4 (y + 1) (by omega) s hs
  | succ j ih =>
    intro x S2 L P L3 hx hix hL3 o2 q1 q2 a1 a2 a3 b1 b2 b3 hfr
    refine ar_ld i_X7_removePattern_39 rfl rfl ?_
    refine ar_ld i_X7_removePattern_40 rfl rfl ?_
    refine ar_gf i_X7_removePattern_41 (o2) rfl ?_
    refine ar_iff i_X7_removePattern_44 rfl (nI_ge (by omega) (by omega)) ?_
    refine ar_ld i_X7_removePattern_47 rfl rfl ?_
    refine ar_gf i_X7_removePattern_48 (o2) rfl ?_
    refine ar_ld i_X7_removePattern_51 rfl rfl ?_
    refine ar_ld i_X7_removePattern_52 rfl rfl ?_
    refine ar_gf i_X7_removePattern_53 (o2) rfl ?_
    refine ar_ld i_X7_removePattern_56 rfl rfl ?_
    refine ar_push i_X7_removePattern_57 ?_
    refine ar_ar i_X7_removePattern_58 rfl ?_
    rw [nI_1]
    refine av_ldi i_X7_removePattern_59 (q1) (by omega) (by omega) ?_
    rw [a3 (x + 1) (by omega)]
    refine av_sti i_X7_removePattern_60 (by omega) (q1) (by omega) (by omega) (fun S3 g3 k3 => ?_)
    have o3 := o2.fr k3 (by omega)
    refine ar_push i_X7_removePattern_61 ?_
    have inner : ∀ b s (S3 : aq_S) (P : Nat → Int32), s + b = 5 → mO S3 0 k il err rd tl (nI (c - 1)) lo cur hs sv → ia S3 58 12 (upd L x (fL (x + 1))) → ia S3 59 60 P → (∀ y, y < 5 * i → P y = fp y) → (∀ y, 5 * i ≤ y → y < 5 * x + s → P y = fp (y + 5)) → (∀ y, 5 * x + s ≤ y → P y = fp y) → aq_fr S S3 (fun q => q = 52 ∨ q = 58 ∨ q = 59) → aG (d + 1) 180 (fun o S' => o = .inl (some (.int (nI (c - 1)))) ∧ (mO S' 0 k il err rd tl (nI (c - 1)) lo cur hs sv ∧ mPt S' (c - 1) (pnDel i pn) (pgDel i pg)) ∧ aq_fr S S' (fun q => q = 52 ∨ q = 58 ∨ q = 59)) 63 [(0, .ref 52), (1, .int (nI i)), (2, .int (nI x)), (3, .int (nI s))] [] S3 := by
      intro b
      induction b with
      | zero =>
        intro s S3 P hs o3 q1 q2 b1 b2 b3 hfr
        refine ar_ld i_X7_removePattern_63 rfl rfl ?_
        refine ar_push i_X7_removePattern_64 ?_
        refine ar_ift i_X7_removePattern_65 rfl (nI_le (a := 5) (by omega) (by omega)) ?_
        refine ar_inc i_X7_removePattern_96 rfl rfl ?_
        refine ar_go i_X7_removePattern_99 ?_
        have := ih (x + 1) S3 _ P [(3, .int (nI s))] (by omega) (by omega) (Or.inr ⟨_, rfl⟩) o3 q1 q2 (fun y hy => by rw [upd_ne (by omega)]; exact a1 y hy) (fun y h1 h2 => by
          by_cases e : y = x
          · rw [e, upd_eq]
          · rw [upd_ne e]; exact a2 y h1 (by omega)) (fun y hy => by rw [upd_ne (by omega)]; exact a3 y (by omega)) b1 (fun y h1 h2 => b2 y h1 (by omega)) (fun y hy => b3 y (by omega)) hfr
        rw [← nI_1 x] at this
        exact this
      | succ b ihb =>
        intro s S3 P hs o3 q1 q2 b1 b2 b3 hfr
        refine ar_ld i_X7_removePattern_63 rfl rfl ?_
        refine ar_push i_X7_removePattern_64 ?_
        refine ar_iff i_X7_removePattern_65 rfl (nI_ge (b := 5) (by omega) (by omega)) ?_
        refine ar_ld i_X7_removePattern_68 rfl rfl ?_
        refine ar_gf i_X7_removePattern_69 (o3) rfl ?_
        refine ar_push i_X7_removePattern_72 ?_
        rw [show (5 : Int32) = nI 5 from rfl]
        refine ar_ld i_X7_removePattern_73 rfl rfl ?_
        refine ar_ar i_X7_removePattern_74 rfl ?_
        rw [pk_mul]
        refine ar_ld i_X7_removePattern_75 rfl rfl ?_
        refine ar_ar i_X7_removePattern_76 rfl ?_
        rw [nI_add]
        refine ar_ld i_X7_removePattern_77 rfl rfl ?_
        refine ar_gf i_X7_removePattern_78 (o3) rfl ?_
        refine ar_push i_X7_removePattern_81 ?_
        rw [show (5 : Int32) = nI 5 from rfl]
        refine ar_ld i_X7_removePattern_82 rfl rfl ?_
        refine ar_ar i_X7_removePattern_83 rfl ?_
        rw [pk_mul]
        refine ar_push i_X7_removePattern_84 ?_
        rw [show (5 : Int32) = nI 5 from rfl]
        refine ar_ar i_X7_removePattern_85 rfl ?_
        rw [nI_add]
        refine ar_ld i_X7_removePattern_86 rfl rfl ?_
        refine ar_ar i_X7_removePattern_87 rfl ?_
        rw [nI_add]
        refine av_ldi i_X7_removePattern_88 (q2) (by omega) (by omega) ?_
        rw [b3 (5 * x + 5 + s) (by omega)]
        refine av_sti i_X7_removePattern_89 (by omega) (q2) (by omega) (by omega) (fun S4 g4 k4 => ?_)
        refine ar_inc i_X7_removePattern_90 rfl rfl ?_
        refine ar_go i_X7_removePattern_93 ?_
        have := ihb (s + 1) S4 _ (by omega) (o3.fr k4 (by omega)) (q1.fr k4 (by omega)) g4 (fun y hy => by rw [upd_ne (by omega)]; exact b1 y hy) (fun y h1 h2 => by
          by_cases e : y = 5 * x + s
          · rw [e, upd_eq, show 5 * x + 5 + s = 5 * x + s + 5 by omega]
          · rw [upd_ne e]; exact b2 y h1 (by omega)) (fun y hy => by rw [upd_ne (by omega)]; exact b3 y (by omega)) (hfr.tr (k4.mono (fun q z => Or.inr (Or.inr z))))
        rw [← nI_1 s] at this
        exact this
    have hfr3 := hfr.tr (k3.mono (P' := fun q => q = 52 ∨ q = 58 ∨ q = 59) (fun q z => Or.inr (Or.inl z)))
    rcases hL3 with e | ⟨v, e⟩
    · subst e
      refine ar_st i_X7_removePattern_62 rfl rfl ?_
      exact inner 5 0 S3 P (by omega) o3 g3 (q2.fr k3 (by omega)) b1 (fun y h1 h2 => b2 y h1 (by omega)) (fun y hy => b3 y (by omega)) hfr3
    · subst e
      refine ar_st i_X7_removePattern_62 rfl rfl ?_
      exact inner 5 0 S3 P (by omega) o3 g3 (q2.fr k3 (by omega)) b1 (fun y h1 h2 => b2 y h1 (by omega)) (fun y hy => b3 y (by omega)) hfr3
end
