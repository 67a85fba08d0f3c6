/-! ===== avoidingCycle: the reference ===== -/
section
theorem cycB_min {lo : Int32} {k c B n b : Nat} {pn : Nat → Nat} {pg : Nat → Nat → Int32} {g : Nat → Int32} (h : cycB lo k c pn pg (k ^ 4) B g) (hm : cMin lo k c pn pg n b) : B = n ∧ n ≤ 40 ∧ ∀ j, j < n → g j = wlet k n b j := by
  rcases h with ⟨e, z⟩ | ⟨e, b', z1, z2, z3⟩
  · obtain ⟨h1, ⟨w, hw, hc⟩, -⟩ := hm
    exact absurd hc (z w hw n b h1)
  · obtain ⟨e1, e2⟩ := cMin_uq (lo := lo) (n := B) (m := b') ⟨e, z1, fun n' m' ⟨w, hw, hc⟩ => z2 w hw n' m' hc⟩ hm
    rw [e1, e2] at z3
    exact ⟨e1, hm.1, z3⟩
theorem cycB_none {lo : Int32} {k c B : Nat} {pn : Nat → Nat} {pg : Nat → Nat → Int32} {g : Nat → Int32} (h : cycB lo k c pn pg (k ^ 4) B g) (hn : cNone lo k c pn pg) : B = 1000 := by
  rcases h with ⟨e, z⟩ | ⟨e, b', z1, z2, z3⟩
  · exact e
  · exact absurd z1 (hn B b' e)
theorem m_avoidingCycle_r (d : Nat) {S : aq_S} {p : Int32} {th k il err rd tl pc lo cur hs sv : Int32} (h : mO S th k il err rd tl pc lo cur hs sv) (hp : p < 0 ∨ nI 4 ≤ p) : aX (d + 2) 199 [.ref 52, .int p] S (fun o S' => o = .inl (some (.int 0)) ∧ mO S' (1) k il err rd tl pc lo cur hs sv ∧ aq_fr S S' (fun q => q = 52)) := by
  refine ar_run (Nat.le_of_ble_eq_true rfl) (fun o S1 h => h.2.2.le) ?_
  refine ar_ld i_X7_avoidingCycle_0 rfl rfl ?_
  refine ar_cr i_X7_avoidingCycle_1 rfl trivial (Nat.le_of_ble_eq_true rfl) (m_isReg_no d hp) ?_
  refine ar_iff i_X7_avoidingCycle_4 rfl (fun z => z rfl) ?_
  refine ar_ld i_X7_avoidingCycle_7 rfl rfl ?_
  refine ar_push i_X7_avoidingCycle_8 ?_
  refine av_cr i_X7_avoidingCycle_9 rfl ⟨_, _, _, rfl, (by assumption)⟩ (Nat.le_of_ble_eq_true rfl) (m_fails d h 1) (fun S1 q1 => ?_)
  exact ar_ret i_X7_avoidingCycle_12 rfl ⟨rfl, q1⟩
theorem m_avoidingCycle_n (d : Nat) {S : aq_S} {kk c r : Nat} {pn : Nat → Nat} {pg : Nat → Nat → Int32} {th il err rd tl lo cur hs sv : Int32} (hO : mO S th (nI kk) il err rd tl (nI c) lo cur hs sv) (hp : mPt S c pn pg) (hpk : pOk c pn pg) (hmP : mP S) (hG : mGr S) (hk0 : 0 < kk) (hk : kk ≤ 3) (hr : r < 4) (hn : cNone lo kk c pn pg) : aX (d + 6) 199 [.ref 52, .int (nI r)] S (fun o S' => o = .inl (some (.int 0)) ∧ (mO S' 2 (nI kk) il err rd tl (nI c) lo cur hs sv ∧ mP S' ∧ mGr S') ∧ aq_fr S S' (fun q => q = 52 ∨ q = 55 ∨ (60 ≤ q ∧ q ≤ 66))) := by
  refine ar_run (Nat.le_of_ble_eq_true rfl) (fun o S1 h => h.2.2.le) ?_
  refine ar_ld i_X7_avoidingCycle_0 rfl rfl ?_
  refine ar_cr i_X7_avoidingCycle_1 rfl trivial (Nat.le_of_ble_eq_true rfl) (m_isReg (d + 4) hr) ?_
  refine ar_ift i_X7_avoidingCycle_4 rfl (by decide) ?_
  refine m_cycLoop d hO hp hpk hmP hG hk0 hk fun S1 B g L hL o1 hP1 hG1 y6 hB hfr => ?_
  rw [cycB_none hB hn]
  refine ar_ld i_X7_avoidingCycle_120 rfl rfl ?_
  refine ar_push i_X7_avoidingCycle_121 ?_
  refine ar_iff i_X7_avoidingCycle_124 rfl (fun z => z rfl) ?_
  refine ar_ld i_X7_avoidingCycle_127 rfl rfl ?_
  refine ar_push i_X7_avoidingCycle_128 ?_
  refine av_cr i_X7_avoidingCycle_129 rfl ⟨_, _, _, rfl, o1⟩ (Nat.le_of_ble_eq_true rfl) (m_fails (d + 4) o1 2) (fun S2 q2 => ?_)
  obtain ⟨o2, k2⟩ := q2
  exact ar_ret i_X7_avoidingCycle_132 rfl ⟨rfl, ⟨o2, hP1.fr k2 (by omega), mGr.fr hG1 k2 (fun x _ _ => by omega)⟩, (hfr.mono (fun q z => by omega)).tr (k2.mono (fun q z => by omega))⟩
theorem m_avoidingCycle (d : Nat) {S : aq_S} {kk c r n b : Nat} {pn : Nat → Nat} {pg : Nat → Nat → Int32} {N : Nat → Nat} {G : Nat → Nat → Int32} {th il err rd tl lo cur hs sv : Int32} (hO : mO S th (nI kk) il err rd tl (nI c) lo cur hs sv) (hw : mW S N G) (hp : mPt S c pn pg) (hpk : pOk c pn pg) (hmP : mP S) (hG : mGr S) (hk0 : 0 < kk) (hk : kk ≤ 3) (hr : r < 4) (hn : cMin lo kk c pn pg n b) : aX (d + 6) 199 [.ref 52, .int (nI r)] S (fun o S' => o = .inl (some (.int (nI n))) ∧ (mO S' 0 (nI kk) il err rd tl (nI c) lo cur hs sv ∧ mW S' (updN N r n) (updG G r (wlet kk n b)) ∧ mP S' ∧ mGr S') ∧ aq_fr S S' (fun q => (52 ≤ q ∧ q ≤ 55) ∨ (60 ≤ q ∧ q ≤ 66))) := by
  refine ar_run (Nat.le_of_ble_eq_true rfl) (fun o S1 h => h.2.2.le) ?_
  refine ar_ld i_X7_avoidingCycle_0 rfl rfl ?_
  refine ar_cr i_X7_avoidingCycle_1 rfl trivial (Nat.le_of_ble_eq_true rfl) (m_isReg (d + 4) hr) ?_
  refine ar_ift i_X7_avoidingCycle_4 rfl (by decide) ?_
  refine m_cycLoop d hO hp hpk hmP hG hk0 hk fun S1 B g L hL o1 hP1 hG1 y6 hB hfr => ?_
  obtain ⟨eB, hn40, hg⟩ := cycB_min hB hn
  rw [eB]
  have hw1 := hw.fr hfr (by omega) (by omega)
  obtain ⟨fl, fw, w1, w2, w3, w4⟩ := hw1
  refine ar_ld i_X7_avoidingCycle_120 rfl rfl ?_
  refine ar_push i_X7_avoidingCycle_121 ?_
  refine ar_ift i_X7_avoidingCycle_124 rfl (fun z => absurd (nI_inj (b := 1000) (by omega) (by omega) z) (by omega)) ?_
  refine ar_ld i_X7_avoidingCycle_133 rfl rfl ?_
  refine ar_push i_X7_avoidingCycle_134 ?_
  refine av_pf i_X7_avoidingCycle_135 (o1) (Nat.le_of_ble_eq_true rfl) (rfl) rfl (fun S2 g2 k2 => ?_)
  have o2 : mO S2 0 (nI kk) il err rd tl (nI c) lo cur hs sv := g2
  refine ar_ld i_X7_avoidingCycle_138 rfl rfl ?_
  refine ar_gf i_X7_avoidingCycle_139 (o2) rfl ?_
  refine ar_ld i_X7_avoidingCycle_142 rfl rfl ?_
  refine ar_ld i_X7_avoidingCycle_143 rfl rfl ?_
  refine av_sti i_X7_avoidingCycle_144 (by omega) (w1.fr k2 (by omega)) (by omega) (by omega) (fun S3 g3 k3 => ?_)
  have o3 := o2.fr k3 (by omega)
  have g3 : ia S3 53 4 (upd fl r (nI n)) := g3
  have y63 := (y6.fr k2 (by omega)).fr k3 (by omega)
  have w23 := (w2.fr k2 (by omega)).fr k3 (by omega)
  have hfr3 : aq_fr S S3 (fun q => (52 ≤ q ∧ q ≤ 55) ∨ (60 ≤ q ∧ q ≤ 66)) := ((hfr.mono (fun q z => by omega)).tr (k2.mono (fun q z => by omega))).tr (k3.mono (fun q z => by omega))
  have hP3 := (hP1.fr k2 (by omega)).fr k3 (by omega)
  have hG3 := mGr.fr (mGr.fr hG1 k2 (fun x _ _ => by omega)) k3 (fun x _ _ => by omega)
  have loop : ∀ j i (S4 : aq_S) (fw' : Nat → Int32), i + j = n → aq_fr S3 S4 (fun q => q = 54) → ia S4 54 160 fw' → (∀ x, x < i → fw' (40 * r + x) = wlet kk n b x) → (∀ x i, x ≠ r → i < 40 → fw' (40 * x + i) = fw (40 * x + i)) → aG (d + 5) 199 (fun o S' => o = .inl (some (.int (nI n))) ∧ (mO S' 0 (nI kk) il err rd tl (nI c) lo cur hs sv ∧ mW S' (updN N r n) (updG G r (wlet kk n b)) ∧ mP S' ∧ mGr S') ∧ aq_fr S S' (fun q => (52 ≤ q ∧ q ≤ 55) ∨ (60 ≤ q ∧ q ≤ 66))) 147 ((0, .ref 52) :: (1, .int (nI r)) :: (2, .int (nI n)) :: (3, .int (nI i)) :: L) [] S4 := by
    intro j
    induction j with
    | zero =>
      intro i S4 fw' hi k4 u1 u2 u3
      refine ar_ld i_X7_avoidingCycle_147 rfl rfl ?_
      refine ar_ld i_X7_avoidingCycle_148 rfl rfl ?_
      refine ar_ift i_X7_avoidingCycle_149 rfl (nI_le (show n ≤ i by omega) (by omega)) ?_
      refine ar_ld i_X7_avoidingCycle_175 rfl rfl ?_
      exact ar_ret i_X7_avoidingCycle_176 rfl ⟨rfl, ⟨o3.fr k4 (by omega), ⟨_, fw', g3.fr k4 (by omega), u1, mW_put hr hn40 w3 w4 upd_eq (fun x hx e => upd_ne e) (fun x hx => u2 x (by omega)) u3⟩, hP3.fr k4 (by omega), mGr.fr hG3 k4 (fun x _ _ => by omega)⟩, hfr3.tr (k4.mono (fun q z => by omega))⟩
    | succ j ih =>
      intro i S4 fw' hi k4 u1 u2 u3
      have o4 := o3.fr k4 (by omega)
      refine ar_ld i_X7_avoidingCycle_147 rfl rfl ?_
      refine ar_ld i_X7_avoidingCycle_148 rfl rfl ?_
      refine ar_iff i_X7_avoidingCycle_149 rfl (nI_ge (show i < n by omega) (by omega)) ?_
      refine ar_ld i_X7_avoidingCycle_152 rfl rfl ?_
      refine ar_gf i_X7_avoidingCycle_153 (o4) rfl ?_
      refine ar_push i_X7_avoidingCycle_156 ?_
      refine ar_ld i_X7_avoidingCycle_158 rfl rfl ?_
      rw [show (40 : Int32) = nI 40 from rfl]
      refine ar_ar i_X7_avoidingCycle_159 rfl ?_
      rw [pk_mul]
      refine ar_ld i_X7_avoidingCycle_160 rfl rfl ?_
      refine ar_ar i_X7_avoidingCycle_161 rfl ?_
      rw [nI_add]
      refine ar_ld i_X7_avoidingCycle_162 rfl rfl ?_
      refine ar_gf i_X7_avoidingCycle_163 (o4) rfl ?_
      refine ar_ld i_X7_avoidingCycle_166 rfl rfl ?_
      refine av_ldi i_X7_avoidingCycle_167 (y63.fr k4 (by omega)) (by omega) (by omega) ?_
      rw [hg i (by omega)]
      refine av_sti i_X7_avoidingCycle_168 (by omega) (u1) (by omega) (by omega) (fun S5 g5 k5 => ?_)
      have := ih (i + 1) S5 _ (by omega) (k4.tr k5) g5 (fun x hx => by
        by_cases e : x = i
        · rw [e, upd_eq]
        · rw [upd_ne (by omega)]; exact u2 x (by omega)) (fun x i' hx hi' => by rw [upd_ne (by omega)]; exact u3 x i' hx hi')
      rw [← nI_1 i] at this
      refine ar_inc i_X7_avoidingCycle_169 rfl rfl ?_
      refine ar_go i_X7_avoidingCycle_172 ?_
      rcases hL with e | ⟨u, e⟩ | ⟨u, w, e⟩ <;> subst e <;> exact this
  have start := loop n 0 S3 fw (by omega) aq_fr.rf w23 (fun x hx => absurd hx (Nat.not_lt_zero x)) (fun x i _ _ => rfl)
  refine ar_push i_X7_avoidingCycle_145 ?_
  refine ar_st i_X7_avoidingCycle_146 rfl rfl ?_
  rcases hL with e | ⟨u, e⟩ | ⟨u, w, e⟩ <;> subst e <;> exact start
end
