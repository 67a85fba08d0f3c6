/-! ===== the reference: parseWord, the whole ===== -/
section
theorem m_parseWord_r (d : Nat) {S : aq_S} {th k il err rd tl pc lo cur hs sv : Int32} {a0 : Int32} (h : mO S th k il err rd tl pc lo cur hs sv) (hp : a0 < 0 ∨ nI 4 ≤ a0) : aX (d + 2) 139 [.ref 52, .int a0] S (fun o S' => o = .inl (some (.int 0)) ∧ mO S' (1) k il err rd tl pc lo cur hs sv ∧ aq_fr S S' (fun q => q = 52)) := by
  refine ar_run (Nat.le_of_ble_eq_true rfl) (fun o S1 h => h.2.2.le) ?_
  refine ar_ld i_X7_parseWord_0 rfl rfl ?_
  refine ar_cr i_X7_parseWord_1 rfl trivial (Nat.le_of_ble_eq_true rfl) (m_isReg_no d hp) ?_
  refine ar_iff i_X7_parseWord_4 rfl (by decide) ?_
  refine ar_ld i_X7_parseWord_7 rfl rfl ?_
  refine ar_push i_X7_parseWord_8 ?_
  refine av_cr i_X7_parseWord_9 rfl ⟨_, _, _, rfl, (h)⟩ (Nat.le_of_ble_eq_true rfl) (m_fails d h 1) (fun S1 q1 => ?_)
  exact ar_ret i_X7_parseWord_12 rfl ⟨rfl, q1⟩
theorem m_parseWord_e (d : Nat) {S : aq_S} {n kk e r : Nat} {inp : Nat → Nat} {th err rd tl pc lo cur hs sv : Int32} (h : mO S th (nI kk) (nI n) err rd tl pc lo cur hs sv) (hk : kk ≤ 3) (hi0 : mI S n inp) (hp : mP S) (hb : mBg S) (hr : r < 4) (he : psE kk n inp = some e) : aX (d + 4) 139 [.ref 52, .int (nI r)] S (fun o S' => o = .inl (some (.int 0)) ∧ ((∃ rd' tl', mO S' 2 (nI kk) 0 (nI e) rd' tl' pc lo cur hs sv) ∧ mP S' ∧ mBg S') ∧ aq_fr S S' (fun q => q = 52 ∨ q = 55 ∨ q = 57)) := by
  have hle : e < 2 ^ 31 := by
    have hn := hi0
    obtain ⟨F, f1, f2, f3⟩ := hn
    have key : ∀ j i p, i + j = n → (psRun kk inp j i p).1 ≤ n := by
      intro j
      induction j with
      | zero => intro i p hi; show i ≤ n; omega
      | succ j ih =>
        intro i p hi
        cases hst : psStep kk (inp i) p with
        | none => rw [psRun_n hst]; show i ≤ n; omega
        | some p' => rw [psRun_s hst]; exact ih (i + 1) p' (by omega)
    have h1 := key n 0 ps0 (by omega)
    have he' : psErr n (psRun kk inp n 0 ps0) = some e := he
    cases hq : psRun kk inp n 0 ps0 with
    | mk a b =>
      rw [hq] at he' h1
      cases b with
      | none =>
        have he2 : some a = some e := he'
        cases he2
        have h1 : e ≤ n := h1
        omega
      | some p =>
        have he2 : (if 0 < p.2.1 then some n else none) = some e := he'
        by_cases hc : 0 < p.2.1
        · rw [if_pos hc] at he2
          cases he2
          omega
        · rw [if_neg hc] at he2
          cases he2
  refine ar_run (Nat.le_of_ble_eq_true rfl) (fun o S1 h => h.2.2.le) ?_
  refine ar_ld i_X7_parseWord_0 rfl rfl ?_
  refine ar_cr i_X7_parseWord_1 rfl trivial (Nat.le_of_ble_eq_true rfl) (m_isReg (d + 2) hr) ?_
  refine ar_ift i_X7_parseWord_4 rfl (by decide) ?_
  refine ar_ld i_X7_parseWord_13 rfl rfl ?_
  refine ar_call i_X7_parseWord_14 rfl ⟨_, _, _, rfl, h⟩ (Nat.le_of_ble_eq_true rfl) (m_reads d h hk hi0 hp hb) (fun v S1 hq => ?_) (fun E S1 hq => ?_)
  · obtain ⟨q1, q2, ⟨st, ⟨q3, q4, F, q5, q6⟩, -⟩, q7, q8⟩ := hq
    have ev := q1 e he
    cases ev
    refine ar_st i_X7_parseWord_17 rfl rfl ?_
    refine ar_ld i_X7_parseWord_18 rfl rfl ?_
    refine ar_push i_X7_parseWord_19 ?_
    refine av_pf i_X7_parseWord_20 (q3) (Nat.le_of_ble_eq_true rfl) (rfl) rfl (fun S2 g2 k2 => ?_)
    have o2 : mO S2 th (nI kk) 0 err (nI st.1) st.2.2 pc lo cur hs sv := g2
    refine ar_ld i_X7_parseWord_23 rfl rfl ?_
    refine ar_iff i_X7_parseWord_24 rfl (nI_pos hle) ?_
    refine ar_ld i_X7_parseWord_27 rfl rfl ?_
    refine ar_ld i_X7_parseWord_28 rfl rfl ?_
    refine av_pf i_X7_parseWord_29 (o2) (Nat.le_of_ble_eq_true rfl) (rfl) rfl (fun S3 g3 k3 => ?_)
    have o3 : mO S3 th (nI kk) 0 (nI e) (nI st.1) st.2.2 pc lo cur hs sv := g3
    refine ar_ld i_X7_parseWord_32 rfl rfl ?_
    refine ar_ift i_X7_parseWord_33 rfl (nI_pos' hle) ?_
    refine ar_ld i_X7_parseWord_43 rfl rfl ?_
    refine ar_push i_X7_parseWord_44 ?_
    have hfr : aq_fr S S3 (fun q => q = 52 ∨ q = 55 ∨ q = 57) := q8.tr ((k2.tr k3).mono (fun q z => Or.inl z))
    have p3 : mP S3 := ⟨F, (q5.fr k2 (by omega)).fr k3 (by omega)⟩
    have b3 := (q7.fr k2 (by omega)).fr k3 (by omega)
    refine av_cr i_X7_parseWord_45 rfl ⟨_, _, _, rfl, o3⟩ (Nat.le_of_ble_eq_true rfl) (m_fails (d + 2) o3 2) (fun S4 q4 => ?_)
    exact ar_ret i_X7_parseWord_48 rfl ⟨rfl, ⟨⟨_, _, q4.1⟩, p3.fr q4.2 (by omega), b3.fr q4.2 (by omega)⟩, hfr.tr (q4.2.mono (fun q z => Or.inl z))⟩
  · obtain ⟨q1, -⟩ := hq
    have := q1 e he
    cases this
theorem m_parseWord_l (d : Nat) {S : aq_S} {n kk r : Nat} {inp : Nat → Nat} {p : pS} {th err rd tl pc lo cur hs sv : Int32} (h : mO S th (nI kk) (nI n) err rd tl pc lo cur hs sv) (hk : kk ≤ 3) (hi0 : mI S n inp) (hp : mP S) (hb : mBg S) (hr : r < 4) (hrun : psRun kk inp n 0 ps0 = (n, some p)) (ho : ¬ 0 < p.2.1) (ht : p.1.2.2 = 1) : aX (d + 4) 139 [.ref 52, .int (nI r)] S (fun o S' => o = .inl (some (.int 0)) ∧ ((∃ rd' tl', mO S' 2 (nI kk) 0 err rd' tl' pc lo cur hs sv) ∧ mP S' ∧ mBg S') ∧ aq_fr S S' (fun q => q = 52 ∨ q = 55 ∨ q = 57)) := by
  have he : psErr n (psRun kk inp n 0 ps0) = none := by
    rw [hrun]
    exact if_neg ho
  refine ar_run (Nat.le_of_ble_eq_true rfl) (fun o S1 h => h.2.2.le) ?_
  refine ar_ld i_X7_parseWord_0 rfl rfl ?_
  refine ar_cr i_X7_parseWord_1 rfl trivial (Nat.le_of_ble_eq_true rfl) (m_isReg (d + 2) hr) ?_
  refine ar_ift i_X7_parseWord_4 rfl (by decide) ?_
  refine ar_ld i_X7_parseWord_13 rfl rfl ?_
  refine ar_call i_X7_parseWord_14 rfl ⟨_, _, _, rfl, h⟩ (Nat.le_of_ble_eq_true rfl) (m_reads d h hk hi0 hp hb) (fun v S1 hq => ?_) (fun E S1 hq => ?_)
  · obtain ⟨q1, q2, ⟨st, ⟨q3, q4, F, q5, q6⟩, hst⟩, q7, q8⟩ := hq
    have est := hst p hrun
    subst est
    have ev := q2 he
    cases ev
    rw [ht] at q3
    refine ar_st i_X7_parseWord_17 rfl rfl ?_
    refine ar_ld i_X7_parseWord_18 rfl rfl ?_
    refine ar_push i_X7_parseWord_19 ?_
    refine av_pf i_X7_parseWord_20 (q3) (Nat.le_of_ble_eq_true rfl) (rfl) rfl (fun S2 g2 k2 => ?_)
    have o2 : mO S2 th (nI kk) 0 err (nI p.1.1) 1 pc lo cur hs sv := g2
    refine ar_ld i_X7_parseWord_23 rfl rfl ?_
    refine ar_ift i_X7_parseWord_24 rfl (by decide) ?_
    refine ar_ld i_X7_parseWord_32 rfl rfl ?_
    refine ar_iff i_X7_parseWord_33 rfl (by decide) ?_
    refine ar_ld i_X7_parseWord_36 rfl rfl ?_
    refine ar_gf i_X7_parseWord_37 (o2) rfl ?_
    refine ar_iff i_X7_parseWord_40 rfl (by decide) ?_
    refine ar_ld i_X7_parseWord_43 rfl rfl ?_
    refine ar_push i_X7_parseWord_44 ?_
    have hfr : aq_fr S S2 (fun q => q = 52 ∨ q = 55 ∨ q = 57) := q8.tr (k2.mono (fun q z => Or.inl z))
    have p3 : mP S2 := ⟨F, q5.fr k2 (by omega)⟩
    have b3 := q7.fr k2 (by omega)
    refine av_cr i_X7_parseWord_45 rfl ⟨_, _, _, rfl, o2⟩ (Nat.le_of_ble_eq_true rfl) (m_fails (d + 2) o2 2) (fun S4 q4 => ?_)
    exact ar_ret i_X7_parseWord_48 rfl ⟨rfl, ⟨⟨_, _, q4.1⟩, p3.fr q4.2 (by omega), b3.fr q4.2 (by omega)⟩, hfr.tr (q4.2.mono (fun q z => Or.inl z))⟩
  · obtain ⟨-, q1, -⟩ := hq
    have := q1 he
    cases this
theorem m_parseWord (d : Nat) {S : aq_S} {n kk r : Nat} {inp : Nat → Nat} {p : pS} {N : Nat → Nat} {G : Nat → Nat → Int32} {th err rd tl pc lo cur hs sv : Int32} (h : mO S th (nI kk) (nI n) err rd tl pc lo cur hs sv) (hw : mW S N G) (hk : kk ≤ 3) (hi0 : mI S n inp) (hp : mP S) (hb : mBg S) (hr : r < 4) (hrun : psRun kk inp n 0 ps0 = (n, some p)) (ho : ¬ 0 < p.2.1) (ht : p.1.2.2 = 0) : aX (d + 4) 139 [.ref 52, .int (nI r)] S (fun o S' => o = .inl (some (.int (nI p.1.1))) ∧ ((∃ rd' tl', mO S' 0 (nI kk) 0 err rd' tl' pc lo cur hs sv) ∧ mP S' ∧ mBg S' ∧ mW S' (updN N r p.1.1) (updG G r p.1.2.1)) ∧ aq_fr S S' (fun q => q = 52 ∨ q = 53 ∨ q = 54 ∨ q = 55 ∨ q = 57)) := by
  have he : psErr n (psRun kk inp n 0 ps0) = none := by
    rw [hrun]
    exact if_neg ho
  obtain ⟨fl, fw, w1, w2, w3, w4⟩ := hw
  refine ar_run (Nat.le_of_ble_eq_true rfl) (fun o S1 h => h.2.2.le) ?_
  refine ar_ld i_X7_parseWord_0 rfl rfl ?_
  refine ar_cr i_X7_parseWord_1 rfl trivial (Nat.le_of_ble_eq_true rfl) (m_isReg (d + 2) hr) ?_
  refine ar_ift i_X7_parseWord_4 rfl (by decide) ?_
  refine ar_ld i_X7_parseWord_13 rfl rfl ?_
  refine ar_call i_X7_parseWord_14 rfl ⟨_, _, _, rfl, h⟩ (Nat.le_of_ble_eq_true rfl) (m_reads d h hk hi0 hp hb) (fun v S1 hq => ?_) (fun E S1 hq => ?_)
  · obtain ⟨q1, q2, ⟨st, ⟨q3, q4, F, q5, q6⟩, hst⟩, q7, q8⟩ := hq
    have est := hst p hrun
    subst est
    have ev := q2 he
    cases ev
    rw [ht] at q3
    refine ar_st i_X7_parseWord_17 rfl rfl ?_
    refine ar_ld i_X7_parseWord_18 rfl rfl ?_
    refine ar_push i_X7_parseWord_19 ?_
    refine av_pf i_X7_parseWord_20 (q3) (Nat.le_of_ble_eq_true rfl) (rfl) rfl (fun S2 g2 k2 => ?_)
    have o2 : mO S2 th (nI kk) 0 err (nI p.1.1) 0 pc lo cur hs sv := g2
    refine ar_ld i_X7_parseWord_23 rfl rfl ?_
    refine ar_ift i_X7_parseWord_24 rfl (by decide) ?_
    refine ar_ld i_X7_parseWord_32 rfl rfl ?_
    refine ar_iff i_X7_parseWord_33 rfl (by decide) ?_
    refine ar_ld i_X7_parseWord_36 rfl rfl ?_
    refine ar_gf i_X7_parseWord_37 (o2) rfl ?_
    refine ar_ift i_X7_parseWord_40 rfl (rfl) ?_
    refine ar_ld i_X7_parseWord_49 rfl rfl ?_
    refine ar_push i_X7_parseWord_50 ?_
    refine av_pf i_X7_parseWord_51 (o2) (Nat.le_of_ble_eq_true rfl) (rfl) rfl (fun S3 g3 k3 => ?_)
    have o3 : mO S3 0 (nI kk) 0 err (nI p.1.1) 0 pc lo cur hs sv := g3
    have hfr : aq_fr S S3 (fun q => q = 52 ∨ q = 55 ∨ q = 57) := q8.tr ((k2.tr k3).mono (fun q z => Or.inl z))
    have u1 := w1.fr hfr (by omega)
    have u2 := w2.fr hfr (by omega)
    have u5 := (q5.fr k2 (by omega)).fr k3 (by omega)
    have u7 := (q7.fr k2 (by omega)).fr k3 (by omega)
    refine ar_ld i_X7_parseWord_54 rfl rfl ?_
    refine ar_gf i_X7_parseWord_55 (o3) rfl ?_
    refine ar_ld i_X7_parseWord_58 rfl rfl ?_
    refine ar_ld i_X7_parseWord_59 rfl rfl ?_
    refine ar_gf i_X7_parseWord_60 (o3) rfl ?_
    refine av_sti i_X7_parseWord_63 (by omega) (u1) (by omega) (by omega) (fun S4 g4 k4 => ?_)
    refine ar_push i_X7_parseWord_64 ?_
    refine ar_st i_X7_parseWord_65 rfl rfl ?_
    have hfr4 : aq_fr S S4 (fun q => q = 52 ∨ q = 53 ∨ q = 54 ∨ q = 55 ∨ q = 57) := (hfr.mono (fun q z => by omega)).tr (k4.mono (fun q z => by omega))
    suffices key : ∀ j i (S4 : aq_S) (fw' : Nat → Int32), i + j = p.1.1 → mO S4 0 (nI kk) 0 err (nI p.1.1) 0 pc lo cur hs sv → ia S4 53 4 (upd fl r (nI p.1.1)) → ia S4 54 160 fw' → ia S4 55 40 F → mBg S4 → (∀ x, x < i → fw' (40 * r + x) = p.1.2.1 x) → (∀ x y, x ≠ r → y < 40 → fw' (40 * x + y) = fw (40 * x + y)) → aq_fr S S4 (fun q => q = 52 ∨ q = 53 ∨ q = 54 ∨ q = 55 ∨ q = 57) → aG (d + 3) 139 (fun o S' => o = .inl (some (.int (nI p.1.1))) ∧ ((∃ rd' tl', mO S' 0 (nI kk) 0 err rd' tl' pc lo cur hs sv) ∧ mP S' ∧ mBg S' ∧ mW S' (updN N r p.1.1) (updG G r p.1.2.1)) ∧ aq_fr S S' (fun q => q = 52 ∨ q = 53 ∨ q = 54 ∨ q = 55 ∨ q = 57)) 66 [(0, .ref 52), (1, .int (nI r)), (2, .int (-1)), (3, .int (nI i))] [] S4 from key p.1.1 0 S4 fw (by omega) (o3.fr k4 (by omega)) g4 (u2.fr k4 (by omega)) (u5.fr k4 (by omega)) (u7.fr k4 (by omega)) (fun x hx => absurd hx (Nat.not_lt_zero x)) (fun _ _ _ _ => rfl) hfr4
    clear hfr4 g4 k4 S4
    intro j
    induction j with
    | zero =>
      intro i S4 fw' hi o4 v1 v2 v5 v7 hag hot hfr4
      refine ar_ld i_X7_parseWord_66 rfl rfl ?_
      refine ar_ld i_X7_parseWord_67 rfl rfl ?_
      refine ar_gf i_X7_parseWord_68 (o4) rfl ?_
      refine ar_ift i_X7_parseWord_71 rfl (nI_le (by omega) (by omega)) ?_
      refine ar_ld i_X7_parseWord_97 rfl rfl ?_
      refine ar_gf i_X7_parseWord_98 (o4) rfl ?_
      refine ar_ret i_X7_parseWord_101 rfl ⟨rfl, ⟨⟨_, _, o4⟩, ⟨F, v5⟩, v7, _, fw', v1, v2, ?_⟩, hfr4⟩
      exact mW_put hr q4 w3 w4 upd_eq (fun x hx e => upd_ne e) (fun x hx => hag x (by omega)) hot
    | succ j ih =>
      intro i S4 fw' hi o4 v1 v2 v5 v7 hag hot hfr4
      have q4' : p.1.1 ≤ 40 := q4
      refine ar_ld i_X7_parseWord_66 rfl rfl ?_
      refine ar_ld i_X7_parseWord_67 rfl rfl ?_
      refine ar_gf i_X7_parseWord_68 (o4) rfl ?_
      refine ar_iff i_X7_parseWord_71 rfl (nI_ge (by omega) (by omega)) ?_
      refine ar_ld i_X7_parseWord_74 rfl rfl ?_
      refine ar_gf i_X7_parseWord_75 (o4) rfl ?_
      refine ar_push i_X7_parseWord_78 ?_
      rw [show (40 : Int32) = nI 40 from rfl]
      refine ar_ld i_X7_parseWord_80 rfl rfl ?_
      refine ar_ar i_X7_parseWord_81 rfl ?_
      rw [pk_mul]
      refine ar_ld i_X7_parseWord_82 rfl rfl ?_
      refine ar_ar i_X7_parseWord_83 rfl ?_
      rw [nI_add]
      refine ar_ld i_X7_parseWord_84 rfl rfl ?_
      refine ar_gf i_X7_parseWord_85 (o4) rfl ?_
      refine ar_ld i_X7_parseWord_88 rfl rfl ?_
      refine av_ldi i_X7_parseWord_89 (v5) (by omega) (by omega) ?_
      rw [q6 i (by omega)]
      refine av_sti i_X7_parseWord_90 (by omega) (v2) (by omega) (by omega) (fun S5 g5 k5 => ?_)
      refine ar_inc i_X7_parseWord_91 rfl rfl ?_
      refine ar_go i_X7_parseWord_94 ?_
      have := ih (i + 1) S5 _ (by omega) (o4.fr k5 (by omega)) (v1.fr k5 (by omega)) g5 (v5.fr k5 (by omega)) (v7.fr k5 (by omega)) (fun x hx => by
        by_cases e : x = i
        · rw [e, upd_eq]
        · rw [upd_ne (by omega)]; exact hag x (by omega)) (fun x y e hy => by rw [upd_ne (by omega)]; exact hot x y e hy) (hfr4.tr (k5.mono (fun q z => by omega)))
      rw [← nI_1 i] at this
      exact this
  · obtain ⟨-, q1, -⟩ := hq
    have := q1 he
    cases this
end
