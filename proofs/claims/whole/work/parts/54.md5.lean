/-! ===== the reference: patterns, avoids ===== -/
section
def mPt (S : aq_S) (c : Nat) (pn : Nat → Nat) (pg : Nat → Nat → Int32) : Prop := ∃ fL fp, ia S 58 12 fL ∧ ia S 59 60 fp ∧ (∀ i, i < c → fL i = nI (pn i)) ∧ ∀ i, i < c → ∀ j, j < pn i → fp (5 * i + j) = pg i j
theorem mPt.fr {S S' : aq_S} {c : Nat} {pn : Nat → Nat} {pg : Nat → Nat → Int32} {P : Nat → Prop} (h : mPt S c pn pg) (q : aq_fr S S' P) (h1 : ¬ P 58) (h2 : ¬ P 59) : mPt S' c pn pg := by
  obtain ⟨fL, fp, a1, a2, a3⟩ := h
  exact ⟨fL, fp, a1.fr q h1, a2.fr q h2, a3⟩
theorem m_patternCount (d : Nat) {S : aq_S} {th k il err rd tl pc lo cur hs sv : Int32} (h : mO S th k il err rd tl pc lo cur hs sv) : aX (d + 1) 181 [.ref 52] S (fun o S' => o = .inl (some (.int pc)) ∧ mO S' (0) k il err rd tl pc lo cur hs sv ∧ aq_fr S S' (fun q => q = 52)) := by
  refine ar_run (Nat.le_of_ble_eq_true rfl) (fun o S1 h => h.2.2.le) ?_
  refine ar_ld i_X7_patternCount_0 rfl rfl ?_
  refine ar_push i_X7_patternCount_1 ?_
  refine av_pf i_X7_patternCount_2 (h) (Nat.le_of_ble_eq_true rfl) (rfl) rfl (fun S1 g1 k1 => ?_)
  have h1 : mO S1 (0) k il err rd tl pc lo cur hs sv := g1
  refine ar_ld i_X7_patternCount_5 rfl rfl ?_
  refine ar_gf i_X7_patternCount_6 (h1) rfl ?_
  exact ar_ret i_X7_patternCount_9 rfl ⟨rfl, h1, k1⟩
/-- none of the patterns, but one, is in the text -/
def wavX (lo : Int32) (c : Nat) (pn : Nat → Nat) (pg : Nat → Nat → Int32) (n : Nat) (f : Nat → Int32) : Prop := ∀ i, i < c → ¬ nI i = lo → ∀ p, p + pn i ≤ n → ∃ x, x < pn i ∧ wdf (f (p + x)) (pg i x)
theorem wavX_iff {c : Nat} {pn : Nat → Nat} {pg : Nat → Nat → Int32} {n : Nat} {f : Nat → Int32} (hc : c ≤ 12) : wavX (-1) c pn pg n f ↔ wavoid c pn pg n f := by
  refine ⟨fun z i hi p hp w => ?_, fun z i hi _ p hp => Classical.byContradiction fun u => z i hi p hp fun x hx w => u ⟨x, hx, wdf_symm w⟩⟩
  obtain ⟨x, hx, hd⟩ := z i hi (nI_nm1 i (by omega)) p hp
  exact w x hx (wdf_symm hd)
theorem m_doesAvoid (d : Nat) {S : aq_S} {a M from' n c : Nat} {F f : Nat → Int32} {pn : Nat → Nat} {pg : Nat → Nat → Int32} {th k il err rd tl lo cur hs sv : Int32} (h : mO S th k il err rd tl (nI c) lo cur hs sv) (hp : mPt S c pn pg) (hk : pOk c pn pg) (hF : ia S a M F) (hM : from' + n ≤ M) (hM2 : M ≤ 1000) (hf : ∀ i, i < n → F (from' + i) = f i) : aX (d + 2) 182 [.ref 52, .ref a, .int (nI from'), .int (nI n)] S (fun o S' => o = .inl (some (.int (bI (wavX lo c pn pg n f)))) ∧ S' = S) := by
  obtain ⟨fL, fp, w1, w2, w3, w4⟩ := hp
  have hc := hk.1
  refine ar_run (Nat.le_of_ble_eq_true rfl) (fun o S1 h => aq_le_of (aq_le_refl S) h) ?_
  refine ar_push i_X7_doesAvoid_0 ?_
  refine ar_st i_X7_doesAvoid_1 rfl rfl ?_
  suffices key : ∀ j y (L5 : List (Nat × Value)), y + j = c → (L5 = [] ∨ (∃ v, L5 = [(5, .int v)]) ∨ ∃ v u, L5 = [(5, .int v), (6, .int u)]) → (∀ i, i < y → ¬ nI i = lo → ∀ p, p + pn i ≤ n → ∃ x, x < pn i ∧ wdf (f (p + x)) (pg i x)) → aG (d + 1) 182 (fun o S' => o = .inl (some (.int (bI (wavX lo c pn pg n f)))) ∧ S' = S) 3 ((0, .ref 52) :: (1, .ref a) :: (2, .int (nI from')) :: (3, .int (nI n)) :: (4, .int (nI y)) :: L5) [] S from key c 0 [] (by omega) (Or.inl rfl) (fun i hi => absurd hi (Nat.not_lt_zero i))
  intro j
  induction j with
  | zero =>
    intro y L5 hy hL hag
    refine ar_ld i_X7_doesAvoid_3 rfl rfl ?_
    refine ar_ld i_X7_doesAvoid_5 rfl rfl ?_
    refine ar_gf i_X7_doesAvoid_6 (h) rfl ?_
    refine ar_ift i_X7_doesAvoid_9 rfl (nI_le (by omega) (by omega)) ?_
    refine ar_push i_X7_doesAvoid_112 ?_
    exact ar_ret i_X7_doesAvoid_113 ((Or.inr rfl)) ⟨bR_t (fun i hi => hag i (by omega)), rfl⟩
  | succ j ih =>
    intro y L5 hy hL hag
    have hpn := hk.2.1 y (by omega)
    have nextP : ∀ i (L6 : List (Nat × Value)), (L6 = [] ∨ ∃ u, L6 = [(6, .int u)]) → (¬ nI y = lo → ∀ p, p + pn y ≤ n → ∃ x, x < pn y ∧ wdf (f (p + x)) (pg y x)) → aG (d + 1) 182 (fun o S' => o = .inl (some (.int (bI (wavX lo c pn pg n f)))) ∧ S' = S) 106 ((0, .ref 52) :: (1, .ref a) :: (2, .int (nI from')) :: (3, .int (nI n)) :: (4, .int (nI y)) :: (5, .int (nI i)) :: L6) [] S := by
      intro i L6 hL6 hh
      have := ih (y + 1) ((5, .int (nI i)) :: L6) (by omega) (Or.inr (hL6.elim (fun e => Or.inl ⟨_, by rw [e]⟩) (fun ⟨u, e⟩ => Or.inr ⟨_, u, by rw [e]⟩))) (fun x hx => by
        by_cases e : x = y
        · rw [e]; exact hh
        · exact hag x (by omega))
      rw [← nI_1] at this
      rcases hL6 with e | ⟨u, e⟩
      · subst e
        refine ar_inc i_X7_doesAvoid_106 rfl rfl ?_
        refine ar_go i_X7_doesAvoid_109 ?_
        exact this
      · subst e
        refine ar_inc i_X7_doesAvoid_106 rfl rfl ?_
        refine ar_go i_X7_doesAvoid_109 ?_
        exact this
    have mid : ∀ q i (L6 : List (Nat × Value)), i + q = n + 1 → (L6 = [] ∨ ∃ u, L6 = [(6, .int u)]) → (∀ p, p < i → p + pn y ≤ n → ∃ x, x < pn y ∧ wdf (f (p + x)) (pg y x)) → aG (d + 1) 182 (fun o S' => o = .inl (some (.int (bI (wavX lo c pn pg n f)))) ∧ S' = S) 15 ((0, .ref 52) :: (1, .ref a) :: (2, .int (nI from')) :: (3, .int (nI n)) :: (4, .int (nI y)) :: (5, .int (nI i)) :: L6) [] S := by
      intro q
      induction q with
      | zero =>
        intro i L6 hi hL6 hag2
        refine ar_ld i_X7_doesAvoid_15 rfl rfl ?_
        refine ar_ld i_X7_doesAvoid_17 rfl rfl ?_
        refine ar_gf i_X7_doesAvoid_18 (h) rfl ?_
        refine ar_ld i_X7_doesAvoid_21 rfl rfl ?_
        refine av_ldi i_X7_doesAvoid_23 (w1) (by omega) (by omega) ?_
        rw [w3 y (by omega)]
        refine ar_ar i_X7_doesAvoid_24 rfl ?_
        refine ar_ld i_X7_doesAvoid_25 rfl rfl ?_
        rw [nI_add]
        refine ar_ift i_X7_doesAvoid_26 rfl (nI_lt (by omega) (by omega)) ?_
        exact nextP i L6 hL6 (fun _ p hp => hag2 p (by omega) hp)
      | succ q ihq =>
        intro i L6 hi hL6 hag2
        refine ar_ld i_X7_doesAvoid_15 rfl rfl ?_
        refine ar_ld i_X7_doesAvoid_17 rfl rfl ?_
        refine ar_gf i_X7_doesAvoid_18 (h) rfl ?_
        refine ar_ld i_X7_doesAvoid_21 rfl rfl ?_
        refine av_ldi i_X7_doesAvoid_23 (w1) (by omega) (by omega) ?_
        rw [w3 y (by omega)]
        refine ar_ar i_X7_doesAvoid_24 rfl ?_
        refine ar_ld i_X7_doesAvoid_25 rfl rfl ?_
        rw [nI_add]
        by_cases hin : i + pn y ≤ n
        · refine ar_iff i_X7_doesAvoid_26 rfl (nI_nlt hin (by omega)) ?_
          refine ar_ld i_X7_doesAvoid_29 rfl rfl ?_
          refine ar_ld i_X7_doesAvoid_31 rfl rfl ?_
          refine ar_gf i_X7_doesAvoid_32 (h) rfl ?_
          refine ar_if i_X7_doesAvoid_35 rfl (fun c35 => ?_) (fun c35 => ?_)
          · exact nextP i L6 hL6 (fun z => absurd c35 z)
          · refine ar_push i_X7_doesAvoid_38 ?_
            have nxt : ∀ u, (∃ x, x < pn y ∧ wdf (f (i + x)) (pg y x)) → aG (d + 1) 182 (fun o S' => o = .inl (some (.int (bI (wavX lo c pn pg n f)))) ∧ S' = S) 100 [(0, .ref 52), (1, .ref a), (2, .int (nI from')), (3, .int (nI n)), (4, .int (nI y)), (5, .int (nI i)), (6, .int u)] [] S := by
              intro u hu
              refine ar_inc i_X7_doesAvoid_100 rfl rfl ?_
              refine ar_go i_X7_doesAvoid_103 ?_
              have := ihq (i + 1) [(6, .int u)] (by omega) (Or.inr ⟨_, rfl⟩) (fun p hp1 hp2 => by
                by_cases e : p = i
                · rw [e]; exact hu
                · exact hag2 p (by omega) hp2)
              rw [← nI_1] at this
              exact this
            have inner : ∀ b s, s + b = pn y → (∀ x, x < s → ¬ wdf (f (i + x)) (pg y x)) → aG (d + 1) 182 (fun o S' => o = .inl (some (.int (bI (wavX lo c pn pg n f)))) ∧ S' = S) 41 [(0, .ref 52), (1, .ref a), (2, .int (nI from')), (3, .int (nI n)), (4, .int (nI y)), (5, .int (nI i)), (6, .int (nI s))] [] S := by
              intro b
              induction b with
              | zero =>
                intro s hs hnd
                refine ar_ld i_X7_doesAvoid_41 rfl rfl ?_
                refine ar_ld i_X7_doesAvoid_43 rfl rfl ?_
                refine ar_gf i_X7_doesAvoid_44 (h) rfl ?_
                refine ar_ld i_X7_doesAvoid_47 rfl rfl ?_
                refine av_ldi i_X7_doesAvoid_49 (w1) (by omega) (by omega) ?_
                rw [w3 y (by omega)]
                refine ar_ift i_X7_doesAvoid_50 rfl (nI_le (by omega) (by omega)) ?_
                refine ar_ld i_X7_doesAvoid_86 rfl rfl ?_
                refine ar_ld i_X7_doesAvoid_88 rfl rfl ?_
                refine ar_gf i_X7_doesAvoid_89 (h) rfl ?_
                refine ar_ld i_X7_doesAvoid_92 rfl rfl ?_
                refine av_ldi i_X7_doesAvoid_94 (w1) (by omega) (by omega) ?_
                rw [w3 y (by omega), show s = pn y by omega]
                refine ar_iff i_X7_doesAvoid_95 rfl (fun z => z rfl) ?_
                refine ar_push i_X7_doesAvoid_98 ?_
                exact ar_ret i_X7_doesAvoid_99 ((Or.inl rfl)) ⟨bR_f (fun z => by
                  obtain ⟨x, hx, hd⟩ := z y (by omega) c35 i hin
                  exact hnd x (by omega) hd), rfl⟩
              | succ b ihb =>
                intro s hs hnd
                refine ar_ld i_X7_doesAvoid_41 rfl rfl ?_
                refine ar_ld i_X7_doesAvoid_43 rfl rfl ?_
                refine ar_gf i_X7_doesAvoid_44 (h) rfl ?_
                refine ar_ld i_X7_doesAvoid_47 rfl rfl ?_
                refine av_ldi i_X7_doesAvoid_49 (w1) (by omega) (by omega) ?_
                rw [w3 y (by omega)]
                refine ar_iff i_X7_doesAvoid_50 rfl (nI_ge (by omega) (by omega)) ?_
                refine ar_ld i_X7_doesAvoid_53 rfl rfl ?_
                refine ar_ld i_X7_doesAvoid_54 rfl rfl ?_
                refine ar_ld i_X7_doesAvoid_55 rfl rfl ?_
                refine ar_ar i_X7_doesAvoid_57 rfl ?_
                rw [nI_add]
                refine ar_ld i_X7_doesAvoid_58 rfl rfl ?_
                refine ar_ar i_X7_doesAvoid_60 rfl ?_
                rw [nI_add]
                refine av_ldi i_X7_doesAvoid_61 (hF) (by omega) (by omega) ?_
                rw [Nat.add_assoc, hf (i + s) (by omega)]
                refine ar_ld i_X7_doesAvoid_62 rfl rfl ?_
                refine ar_gf i_X7_doesAvoid_63 (h) rfl ?_
                refine ar_push i_X7_doesAvoid_66 ?_
                rw [show (5 : Int32) = nI 5 from rfl]
                refine ar_ld i_X7_doesAvoid_67 rfl rfl ?_
                refine ar_ar i_X7_doesAvoid_69 rfl ?_
                rw [pk_mul]
                refine ar_ld i_X7_doesAvoid_70 rfl rfl ?_
                refine ar_ar i_X7_doesAvoid_72 rfl ?_
                rw [nI_add]
                refine av_ldi i_X7_doesAvoid_73 (w2) (by omega) (by omega) ?_
                rw [w4 y (by omega) s (by omega)]
                refine ar_cr i_X7_doesAvoid_74 rfl trivial (Nat.le_of_ble_eq_true rfl) (m_differ d (f (i + s)) (pg y s)) ?_
                by_cases hd : wdf (f (i + s)) (pg y s)
                · refine ar_ift i_X7_doesAvoid_77 rfl (bI_nz.mpr hd) ?_
                  refine ar_ld i_X7_doesAvoid_86 rfl rfl ?_
                  refine ar_ld i_X7_doesAvoid_88 rfl rfl ?_
                  refine ar_gf i_X7_doesAvoid_89 (h) rfl ?_
                  refine ar_ld i_X7_doesAvoid_92 rfl rfl ?_
                  refine av_ldi i_X7_doesAvoid_94 (w1) (by omega) (by omega) ?_
                  rw [w3 y (by omega)]
                  refine ar_ift i_X7_doesAvoid_95 rfl (fun z => absurd (nI_inj (by omega) (by omega) z) (by omega)) ?_
                  exact nxt _ ⟨s, by omega, hd⟩
                · refine ar_iff i_X7_doesAvoid_77 rfl (fun z => z (bI_f hd)) ?_
                  refine ar_inc i_X7_doesAvoid_80 rfl rfl ?_
                  refine ar_go i_X7_doesAvoid_83 ?_
                  have := ihb (s + 1) (by omega) (fun x hx => by
                    by_cases e : x = s
                    · rw [e]; exact hd
                    · exact hnd x (by omega))
                  rw [← nI_1] at this
                  exact this
            rcases hL6 with e | ⟨u, e⟩
            · subst e
              refine ar_st i_X7_doesAvoid_39 rfl rfl ?_
              exact inner (pn y) 0 (by omega) (fun x hx => absurd hx (Nat.not_lt_zero x))
            · subst e
              refine ar_st i_X7_doesAvoid_39 rfl rfl ?_
              exact inner (pn y) 0 (by omega) (fun x hx => absurd hx (Nat.not_lt_zero x))
        · refine ar_ift i_X7_doesAvoid_26 rfl (nI_lt (by omega) (by omega)) ?_
          exact nextP i L6 hL6 (fun _ p hp => hag2 p (by omega) hp)
    refine ar_ld i_X7_doesAvoid_3 rfl rfl ?_
    refine ar_ld i_X7_doesAvoid_5 rfl rfl ?_
    refine ar_gf i_X7_doesAvoid_6 (h) rfl ?_
    refine ar_iff i_X7_doesAvoid_9 rfl (nI_ge (by omega) (by omega)) ?_
    rcases hL with e | ⟨v, e⟩ | ⟨v, u, e⟩
    · subst e
      refine ar_push i_X7_doesAvoid_12 ?_
      refine ar_st i_X7_doesAvoid_13 rfl rfl ?_
      exact mid (n + 1) 0 [] (by omega) (Or.inl rfl) (fun p hp => absurd hp (Nat.not_lt_zero p))
    · subst e
      refine ar_push i_X7_doesAvoid_12 ?_
      refine ar_st i_X7_doesAvoid_13 rfl rfl ?_
      exact mid (n + 1) 0 [] (by omega) (Or.inl rfl) (fun p hp => absurd hp (Nat.not_lt_zero p))
    · subst e
      refine ar_push i_X7_doesAvoid_12 ?_
      refine ar_st i_X7_doesAvoid_13 rfl rfl ?_
      exact mid (n + 1) 0 [(6, .int u)] (by omega) (Or.inr ⟨_, rfl⟩) (fun p hp => absurd hp (Nat.not_lt_zero p))
theorem m_avoids_r (d : Nat) {S : aq_S} {th k il err rd tl pc lo cur hs sv : Int32} {a0 : Int32} (h : mO S th k il err rd tl pc lo cur hs sv) (hp : a0 < 0 ∨ nI 4 ≤ a0) : aX (d + 2) 183 [.ref 52, .int a0] S (fun o S' => o = .inl (some (.int 0)) ∧ mO S' (1) k il err rd tl pc lo cur hs sv ∧ aq_fr S S' (fun q => q = 52)) := by
  refine ar_run (Nat.le_of_ble_eq_true rfl) (fun o S1 h => h.2.2.le) ?_
  refine ar_ld i_X7_avoids_0 rfl rfl ?_
  refine ar_cr i_X7_avoids_1 rfl trivial (Nat.le_of_ble_eq_true rfl) (m_isReg_no d hp) ?_
  refine ar_iff i_X7_avoids_4 rfl (by decide) ?_
  refine ar_ld i_X7_avoids_7 rfl rfl ?_
  refine ar_push i_X7_avoids_8 ?_
  refine av_cr i_X7_avoids_9 rfl ⟨_, _, _, rfl, (h)⟩ (Nat.le_of_ble_eq_true rfl) (m_refuses d h 1) (fun S1 q1 => ?_)
  exact ar_ret i_X7_avoids_12 ((Or.inl rfl)) ⟨rfl, q1⟩
theorem m_avoids (d : Nat) {S : aq_S} {r c : Nat} {N : Nat → Nat} {G : Nat → Nat → Int32} {pn : Nat → Nat} {pg : Nat → Nat → Int32} {th k il err rd tl cur hs sv : Int32} (h : mO S th k il err rd tl (nI c) (-1) cur hs sv) (hw : mW S N G) (hp : mPt S c pn pg) (hk : pOk c pn pg) (hr : r < 4) : aX (d + 3) 183 [.ref 52, .int (nI r)] S (fun o S' => o = .inl (some (.int (bI (wavoid c pn pg (N r) (G r))))) ∧ mO S' 0 k il err rd tl (nI c) (-1) cur hs sv ∧ aq_fr S S' (fun q => q = 52)) := by
  obtain ⟨fl, fw, w1, w2, w3, w4⟩ := hw
  have hN := (w3 r hr).2
  refine ar_run (Nat.le_of_ble_eq_true rfl) (fun o S1 h => h.2.2.le) ?_
  refine ar_ld i_X7_avoids_0 rfl rfl ?_
  refine ar_cr i_X7_avoids_1 rfl trivial (Nat.le_of_ble_eq_true rfl) (m_isReg (d + 1) hr) ?_
  refine ar_ift i_X7_avoids_4 rfl (by decide) ?_
  refine ar_ld i_X7_avoids_13 rfl rfl ?_
  refine ar_push i_X7_avoids_14 ?_
  refine av_pf i_X7_avoids_15 (h) (Nat.le_of_ble_eq_true rfl) (rfl) rfl (fun S1 g1 k1 => ?_)
  have h1 : mO S1 0 k il err rd tl (nI c) (-1) cur hs sv := g1
  refine ar_ld i_X7_avoids_18 rfl rfl ?_
  refine ar_ld i_X7_avoids_19 rfl rfl ?_
  refine ar_gf i_X7_avoids_20 (h1) rfl ?_
  refine ar_push i_X7_avoids_23 ?_
  rw [show (40 : Int32) = nI 40 from rfl]
  refine ar_ld i_X7_avoids_25 rfl rfl ?_
  refine ar_ar i_X7_avoids_26 rfl ?_
  rw [pk_mul]
  refine ar_ld i_X7_avoids_27 rfl rfl ?_
  refine ar_gf i_X7_avoids_28 (h1) rfl ?_
  refine ar_ld i_X7_avoids_31 rfl rfl ?_
  refine av_ldi i_X7_avoids_32 (w1.fr k1 (by omega)) (by omega) (by omega) ?_
  rw [(w3 r hr).1]
  refine ar_cr i_X7_avoids_33 rfl ⟨_, _, _, rfl, h1⟩ (Nat.le_of_ble_eq_true rfl) (m_doesAvoid d (f := G r) h1 (hp.fr k1 (by omega) (by omega)) hk (w2.fr k1 (by omega)) (from' := 40 * r) (n := N r) (by omega) (by omega) (w4 r hr)) ?_
  rw [bI_cg (wavX_iff hk.1)]
  exact ar_ret i_X7_avoids_36 ((bI_01 _)) ⟨rfl, h1, k1⟩
end
