/-! ===== the reference: periods ===== -/
section
theorem perV_iff {v : Int32} {n p : Nat} {f : Nat → Int32} : perV v n f p ↔ ∀ i k, 0 < k → (v = 0 ∨ k = 1) → i + k * p < n → ¬ wdf (f i) (f (i + k * p)) := by
  unfold perV
  by_cases hv : v = 0
  · rw [if_pos hv]
    exact ⟨fun h i k hk _ hi => h k hk i hi, fun h k hk i hi => h i k hk (Or.inl hv) hi⟩
  · rw [if_neg hv]
    refine ⟨fun h i k hk hc hi => ?_, fun h i hi => ?_⟩
    · have e : k = 1 := hc.resolve_left hv
      subst e
      rw [Nat.one_mul] at hi ⊢
      exact h i hi
    · have := h i 1 (by omega) (Or.inr rfl) (by omega)
      rwa [Nat.one_mul] at this
theorem m_hasPeriod (d : Nat) {S : aq_S} {a M fr n p : Nat} {F f : Nat → Int32} (hF : ia S a M F) (hM : fr + n ≤ M) (hM2 : M ≤ 1000) (hf : ∀ i, i < n → F (fr + i) = f i) (hp0 : 0 < p) (hp : p ≤ 900) (v : Int32) : aX (d + 2) 159 [.ref a, .int (nI fr), .int (nI n), .int (nI p), .int v] S (fun o S' => o = .inl (some (.int (bI (perV v n f p)))) ∧ S' = S) := by
  rw [bI_cg perV_iff]
  refine ar_run (Nat.le_of_ble_eq_true rfl) (fun o S1 h => aq_le_of (aq_le_refl S) h) ?_
  refine ar_push i_X7_hasPeriod_0 ?_
  refine ar_st i_X7_hasPeriod_1 rfl rfl ?_
  suffices key : ∀ j i (L6 : List (Nat × Value)), i + j = n → (L6 = [] ∨ ∃ u, L6 = [(6, .int u)]) → (∀ x k, x < i → 0 < k → (v = 0 ∨ k = 1) → x + k * p < n → ¬ wdf (f x) (f (x + k * p))) → aG (d + 1) 159 (fun o S' => o = .inl (some (.int (bI (∀ i k, 0 < k → (v = 0 ∨ k = 1) → i + k * p < n → ¬ wdf (f i) (f (i + k * p)))))) ∧ S' = S) 3 ((0, .ref a) :: (1, .int (nI fr)) :: (2, .int (nI n)) :: (3, .int (nI p)) :: (4, .int v) :: (5, .int (nI i)) :: L6) [] S from key n 0 [] (by omega) (Or.inl rfl) (fun x k hx => absurd hx (Nat.not_lt_zero x))
  intro j
  induction j with
  | zero =>
    intro i L6 hi hL hag
    refine ar_ld i_X7_hasPeriod_3 rfl rfl ?_
    refine ar_ld i_X7_hasPeriod_5 rfl rfl ?_
    refine ar_ift i_X7_hasPeriod_6 rfl (nI_le (by omega) (by omega)) ?_
    refine ar_push i_X7_hasPeriod_70 ?_
    exact ar_ret i_X7_hasPeriod_71 ((Or.inr rfl)) ⟨bR_t (fun x k hk hc hx => hag x k (by omega) hk hc hx), rfl⟩
  | succ j ih =>
    intro i L6 hi hL hag
    have next : ∀ u, (∀ k, 0 < k → (v = 0 ∨ k = 1) → i + k * p < n → ¬ wdf (f i) (f (i + k * p))) → aG (d + 1) 159 (fun o S' => o = .inl (some (.int (bI (∀ i k, 0 < k → (v = 0 ∨ k = 1) → i + k * p < n → ¬ wdf (f i) (f (i + k * p)))))) ∧ S' = S) 64 [(0, .ref a), (1, .int (nI fr)), (2, .int (nI n)), (3, .int (nI p)), (4, .int v), (5, .int (nI i)), (6, .int u)] [] S := by
      intro u hall
      refine ar_inc i_X7_hasPeriod_64 rfl rfl ?_
      refine ar_go i_X7_hasPeriod_67 ?_
      have := ih (i + 1) [(6, .int u)] (by omega) (Or.inr ⟨_, rfl⟩) (fun x k hx hk hc hx2 => by
        by_cases e : x = i
        · subst e; exact hall k hk hc hx2
        · exact hag x k (by omega) hk hc hx2)
      rw [← nI_1 i] at this
      exact this
    have inner : ∀ b k, 0 < k → n ≤ i + k * p + b → i + k * p ≤ 2000 → (∀ x, 0 < x → x < k → (v = 0 ∨ x = 1) → i + x * p < n → ¬ wdf (f i) (f (i + x * p))) → aG (d + 1) 159 (fun o S' => o = .inl (some (.int (bI (∀ i k, 0 < k → (v = 0 ∨ k = 1) → i + k * p < n → ¬ wdf (f i) (f (i + k * p)))))) ∧ S' = S) 15 [(0, .ref a), (1, .int (nI fr)), (2, .int (nI n)), (3, .int (nI p)), (4, .int v), (5, .int (nI i)), (6, .int (nI (i + k * p)))] [] S := by
      have fin : ∀ k, 0 < k → n ≤ i + k * p → i + k * p ≤ 2000 → (∀ x, 0 < x → x < k → (v = 0 ∨ x = 1) → i + x * p < n → ¬ wdf (f i) (f (i + x * p))) → aG (d + 1) 159 (fun o S' => o = .inl (some (.int (bI (∀ i k, 0 < k → (v = 0 ∨ k = 1) → i + k * p < n → ¬ wdf (f i) (f (i + k * p)))))) ∧ S' = S) 15 [(0, .ref a), (1, .int (nI fr)), (2, .int (nI n)), (3, .int (nI p)), (4, .int v), (5, .int (nI i)), (6, .int (nI (i + k * p)))] [] S := by
        intro k hk0 hk hb hag2
        refine ar_ld i_X7_hasPeriod_15 rfl rfl ?_
        refine ar_ld i_X7_hasPeriod_17 rfl rfl ?_
        refine ar_ift i_X7_hasPeriod_18 rfl (nI_le hk (by omega)) ?_
        refine next _ (fun x hx hc hx2 => ?_)
        by_cases hxk : x < k
        · exact hag2 x hx hxk hc hx2
        · have : k * p ≤ x * p := Nat.mul_le_mul_right p (by omega)
          omega
      intro b
      induction b with
      | zero =>
        intro k hk0 hk hb hag2
        exact fin k hk0 (by omega) hb hag2
      | succ b ihb =>
        intro k hk0 hk hb hag2
        by_cases hlt : i + k * p < n
        · have hkp : 0 < k * p := Nat.mul_pos hk0 hp0
          refine ar_ld i_X7_hasPeriod_15 rfl rfl ?_
          refine ar_ld i_X7_hasPeriod_17 rfl rfl ?_
          refine ar_iff i_X7_hasPeriod_18 rfl (nI_ge hlt (by omega)) ?_
          refine ar_ld i_X7_hasPeriod_21 rfl rfl ?_
          have chk : (v = 0 ∨ k = 1) → aG (d + 1) 159 (fun o S' => o = .inl (some (.int (bI (∀ i k, 0 < k → (v = 0 ∨ k = 1) → i + k * p < n → ¬ wdf (f i) (f (i + k * p)))))) ∧ S' = S) 35 [(0, .ref a), (1, .int (nI fr)), (2, .int (nI n)), (3, .int (nI p)), (4, .int v), (5, .int (nI i)), (6, .int (nI (i + k * p)))] [] S := by
            intro hc
            refine ar_ld i_X7_hasPeriod_35 rfl rfl ?_
            refine ar_ld i_X7_hasPeriod_36 rfl rfl ?_
            refine ar_ld i_X7_hasPeriod_37 rfl rfl ?_
            refine ar_ar i_X7_hasPeriod_39 rfl ?_
            rw [nI_add]
            refine av_ldi i_X7_hasPeriod_40 (hF) (by omega) (by omega) ?_
            rw [hf i (by omega)]
            refine ar_ld i_X7_hasPeriod_41 rfl rfl ?_
            refine ar_ld i_X7_hasPeriod_42 rfl rfl ?_
            refine ar_ld i_X7_hasPeriod_43 rfl rfl ?_
            refine ar_ar i_X7_hasPeriod_45 rfl ?_
            rw [nI_add]
            refine av_ldi i_X7_hasPeriod_46 (hF) (by omega) (by omega) ?_
            rw [hf (i + k * p) hlt]
            refine ar_cr i_X7_hasPeriod_47 rfl trivial (Nat.le_of_ble_eq_true rfl) (m_differ d (f i) (f (i + k * p))) ?_
            by_cases hd : wdf (f i) (f (i + k * p))
            · refine ar_iff i_X7_hasPeriod_50 rfl (fun z => bI_nz.mpr hd z) ?_
              refine ar_push i_X7_hasPeriod_53 ?_
              exact ar_ret i_X7_hasPeriod_54 ((Or.inl rfl)) ⟨bR_f (fun z => z i k hk0 hc hlt hd), rfl⟩
            · refine ar_ift i_X7_hasPeriod_50 rfl (bI_f hd) ?_
              refine ar_ld i_X7_hasPeriod_55 rfl rfl ?_
              refine ar_ld i_X7_hasPeriod_57 rfl rfl ?_
              refine ar_ar i_X7_hasPeriod_58 rfl ?_
              rw [nI_add]
              refine ar_st i_X7_hasPeriod_59 rfl rfl ?_
              refine ar_go i_X7_hasPeriod_61 ?_
              have e : (k + 1) * p = k * p + p := by rw [Nat.add_mul]; omega
              have := ihb (k + 1) (by omega) (by omega) (by omega) (fun x hx hxk hc hx2 => by
                by_cases ex : x = k
                · rw [ex]; exact hd
                · exact hag2 x hx (by omega) hc hx2)
              rw [e, ← Nat.add_assoc] at this
              exact this
          by_cases hv : v = 0
          · refine ar_ift i_X7_hasPeriod_23 rfl (hv) ?_
            exact chk (Or.inl hv)
          · refine ar_iff i_X7_hasPeriod_23 rfl (hv) ?_
            refine ar_ld i_X7_hasPeriod_26 rfl rfl ?_
            refine ar_ld i_X7_hasPeriod_28 rfl rfl ?_
            refine ar_ld i_X7_hasPeriod_30 rfl rfl ?_
            refine ar_ar i_X7_hasPeriod_31 rfl ?_
            rw [nI_add]
            by_cases h1 : k = 1
            · refine ar_iff i_X7_hasPeriod_32 rfl (fun z => z (by rw [h1, Nat.one_mul])) ?_
              exact chk (Or.inr h1)
            · have hne : ¬ nI (i + k * p) = nI (i + p) := fun z => by
                have z2 := nI_inj (by omega) (by omega) z
                have : 2 * p ≤ k * p := Nat.mul_le_mul_right p (by omega)
                omega
              refine ar_ift i_X7_hasPeriod_32 rfl (hne) ?_
              refine next _ (fun x hx hc hx2 => ?_)
              have ex := hc.resolve_left hv
              exact hag2 x hx (by omega) hc hx2
        · exact fin k hk0 (by omega) hb hag2
    have start := inner n 1 (by omega) (by omega) (by omega) (fun x h0 h1 => by omega)
    rw [Nat.one_mul] at start
    rcases hL with e | ⟨u, e⟩
    · subst e
      refine ar_ld i_X7_hasPeriod_3 rfl rfl ?_
      refine ar_ld i_X7_hasPeriod_5 rfl rfl ?_
      refine ar_iff i_X7_hasPeriod_6 rfl (nI_ge (by omega) (by omega)) ?_
      refine ar_ld i_X7_hasPeriod_9 rfl rfl ?_
      refine ar_ld i_X7_hasPeriod_11 rfl rfl ?_
      refine ar_ar i_X7_hasPeriod_12 rfl ?_
      rw [nI_add]
      refine ar_st i_X7_hasPeriod_13 rfl rfl ?_
      exact start
    · subst e
      refine ar_ld i_X7_hasPeriod_3 rfl rfl ?_
      refine ar_ld i_X7_hasPeriod_5 rfl rfl ?_
      refine ar_iff i_X7_hasPeriod_6 rfl (nI_ge (by omega) (by omega)) ?_
      refine ar_ld i_X7_hasPeriod_9 rfl rfl ?_
      refine ar_ld i_X7_hasPeriod_11 rfl rfl ?_
      refine ar_ar i_X7_hasPeriod_12 rfl ?_
      rw [nI_add]
      refine ar_st i_X7_hasPeriod_13 rfl rfl ?_
      exact start
theorem m_isPeriod_r (d : Nat) {S : aq_S} {th k il err rd tl pc lo cur hs sv : Int32} {a0 : Int32} {a1 : Int32} {a2 : Int32} (h : mO S th k il err rd tl pc lo cur hs sv) (hp : a0 < 0 ∨ nI 4 ≤ a0) : aX (d + 2) 160 [.ref 52, .int a0, .int a1, .int a2] S (fun o S' => o = .inl (some (.int 0)) ∧ mO S' (1) k il err rd tl pc lo cur hs sv ∧ aq_fr S S' (fun q => q = 52)) := by
  refine ar_run (Nat.le_of_ble_eq_true rfl) (fun o S1 h => h.2.2.le) ?_
  refine ar_ld i_X7_isPeriod_0 rfl rfl ?_
  refine ar_cr i_X7_isPeriod_1 rfl trivial (Nat.le_of_ble_eq_true rfl) (m_isReg_no d hp) ?_
  refine ar_ift i_X7_isPeriod_4 rfl (by decide) ?_
  refine ar_ld i_X7_isPeriod_23 rfl rfl ?_
  refine ar_push i_X7_isPeriod_24 ?_
  refine av_cr i_X7_isPeriod_25 rfl ⟨_, _, _, rfl, (h)⟩ (Nat.le_of_ble_eq_true rfl) (m_refuses d h 1) (fun S1 q1 => ?_)
  exact ar_ret i_X7_isPeriod_28 ((Or.inl rfl)) ⟨rfl, q1⟩
theorem m_isPeriod_p (d : Nat) {S : aq_S} {r : Nat} {p v : Int32} {th k il err rd tl pc lo cur hs sv : Int32} {N : Nat → Nat} {G : Nat → Nat → Int32} (h : mO S th k il err rd tl pc lo cur hs sv) (hw : mW S N G) (hr : r < 4) (hp : p < 1 ∨ nI (N r + 1) ≤ p) : aX (d + 3) 160 [.ref 52, .int (nI r), .int p, .int v] S (fun o S' => o = .inl (some (.int 0)) ∧ mO S' (1) k il err rd tl pc lo cur hs sv ∧ aq_fr S S' (fun q => q = 52)) := by
  obtain ⟨fl, fw, w1, w2, w3, w4⟩ := hw
  have hN := (w3 r hr).2
  refine ar_run (Nat.le_of_ble_eq_true rfl) (fun o S1 h => h.2.2.le) ?_
  refine ar_ld i_X7_isPeriod_0 rfl rfl ?_
  refine ar_cr i_X7_isPeriod_1 rfl trivial (Nat.le_of_ble_eq_true rfl) (m_isReg (d + 1) hr) ?_
  refine ar_iff i_X7_isPeriod_4 rfl (by decide) ?_
  refine ar_ld i_X7_isPeriod_7 rfl rfl ?_
  refine ar_ar i_X7_isPeriod_8 rfl ?_
  refine ar_push i_X7_isPeriod_9 ?_
  refine ar_ld i_X7_isPeriod_10 rfl rfl ?_
  refine ar_gf i_X7_isPeriod_11 (h) rfl ?_
  refine ar_ld i_X7_isPeriod_14 rfl rfl ?_
  refine av_ldi i_X7_isPeriod_15 (w1) (by omega) (by omega) ?_
  rw [(w3 r hr).1]
  refine ar_ar i_X7_isPeriod_16 rfl ?_
  rw [nI_l (by omega)]
  refine ar_cr i_X7_isPeriod_17 rfl trivial (Nat.le_of_ble_eq_true rfl) (m_isBetween (d + 1)) ?_
  have e : ¬ ((1 : Int64) ≤ p.toInt64 ∧ p.toInt64 ≤ lN (N r)) := fun z => by
    have z1 := (i2l_le (b := 0) (a := 1) (by omega) p).mp z.1
    have z2 := (i2l_ge (a := N r) (by omega) p).mp z.2
    rcases hp with hp | hp
    · exact absurd hp (Int32.not_lt.mpr z1)
    · exact absurd (Int32.le_trans hp z2) (nI_ge (by omega) (by omega))
  refine ar_iff i_X7_isPeriod_20 rfl (fun z => z (bI_f e)) ?_
  refine ar_ld i_X7_isPeriod_23 rfl rfl ?_
  refine ar_push i_X7_isPeriod_24 ?_
  refine av_cr i_X7_isPeriod_25 rfl ⟨_, _, _, rfl, (h)⟩ (Nat.le_of_ble_eq_true rfl) (m_refuses (d + 1) h 1) (fun S1 q1 => ?_)
  exact ar_ret i_X7_isPeriod_28 ((Or.inl rfl)) ⟨rfl, q1⟩
theorem m_isPeriod (d : Nat) {S : aq_S} {r p : Nat} {v : Int32} {th k il err rd tl pc lo cur hs sv : Int32} {N : Nat → Nat} {G : Nat → Nat → Int32} (h : mO S th k il err rd tl pc lo cur hs sv) (hw : mW S N G) (hr : r < 4) (hp0 : 0 < p) (hp : p ≤ N r) : aX (d + 3) 160 [.ref 52, .int (nI r), .int (nI p), .int v] S (fun o S' => o = .inl (some (.int (bI (perV v (N r) (G r) p)))) ∧ mO S' (0) k il err rd tl pc lo cur hs sv ∧ aq_fr S S' (fun q => q = 52)) := by
  obtain ⟨fl, fw, w1, w2, w3, w4⟩ := hw
  have hN := (w3 r hr).2
  refine ar_run (Nat.le_of_ble_eq_true rfl) (fun o S1 h => h.2.2.le) ?_
  refine ar_ld i_X7_isPeriod_0 rfl rfl ?_
  refine ar_cr i_X7_isPeriod_1 rfl trivial (Nat.le_of_ble_eq_true rfl) (m_isReg (d + 1) hr) ?_
  refine ar_iff i_X7_isPeriod_4 rfl (by decide) ?_
  refine ar_ld i_X7_isPeriod_7 rfl rfl ?_
  refine ar_ar i_X7_isPeriod_8 rfl ?_
  refine ar_push i_X7_isPeriod_9 ?_
  refine ar_ld i_X7_isPeriod_10 rfl rfl ?_
  refine ar_gf i_X7_isPeriod_11 (h) rfl ?_
  refine ar_ld i_X7_isPeriod_14 rfl rfl ?_
  refine av_ldi i_X7_isPeriod_15 (w1) (by omega) (by omega) ?_
  rw [(w3 r hr).1]
  refine ar_ar i_X7_isPeriod_16 rfl ?_
  rw [nI_l (show N r < 2 ^ 31 by omega)]
  refine ar_cr i_X7_isPeriod_17 rfl trivial (Nat.le_of_ble_eq_true rfl) (m_isBetween (d + 1)) ?_
  refine ar_ift i_X7_isPeriod_20 rfl (bI_nz.mpr ((l_btw (a := 1) (by omega) (by omega) (by omega)).mpr ⟨hp0, hp⟩)) ?_
  refine ar_ld i_X7_isPeriod_29 rfl rfl ?_
  refine ar_push i_X7_isPeriod_30 ?_
  refine av_pf i_X7_isPeriod_31 (h) (Nat.le_of_ble_eq_true rfl) (rfl) rfl (fun S1 g1 k1 => ?_)
  have o1 : mO S1 (0) k il err rd tl pc lo cur hs sv := g1
  refine ar_ld i_X7_isPeriod_34 rfl rfl ?_
  refine ar_gf i_X7_isPeriod_35 (o1) rfl ?_
  refine ar_push i_X7_isPeriod_38 ?_
  rw [show (40 : Int32) = nI 40 from rfl]
  refine ar_ld i_X7_isPeriod_40 rfl rfl ?_
  refine ar_ar i_X7_isPeriod_41 rfl ?_
  rw [pk_mul]
  refine ar_ld i_X7_isPeriod_42 rfl rfl ?_
  refine ar_gf i_X7_isPeriod_43 (o1) rfl ?_
  refine ar_ld i_X7_isPeriod_46 rfl rfl ?_
  refine av_ldi i_X7_isPeriod_47 (w1.fr k1 (by omega)) (by omega) (by omega) ?_
  rw [(w3 r hr).1]
  refine ar_ld i_X7_isPeriod_48 rfl rfl ?_
  refine ar_ld i_X7_isPeriod_49 rfl rfl ?_
  refine ar_cr i_X7_isPeriod_50 rfl trivial (Nat.le_of_ble_eq_true rfl) (m_hasPeriod d (w2.fr k1 (by omega)) (fr := 40 * r) (n := N r) (f := G r) (by omega) (by omega) (w4 r hr) hp0 (by omega) v) ?_
  exact ar_ret i_X7_isPeriod_53 ((bI_01 _)) ⟨rfl, o1, k1⟩
theorem m_smallest (d : Nat) {S : aq_S} {r : Nat} {v : Int32} {th k il err rd tl pc lo cur hs sv : Int32} {N : Nat → Nat} {G : Nat → Nat → Int32} (h : mO S th k il err rd tl pc lo cur hs sv) (hw : mW S N G) (hr : r < 4) (hn : ¬ N r = 0) : aX (d + 3) 161 [.ref 52, .int (nI r), .int v] S (fun o S' => o = .inl (some (.int (nI (fper v (N r) (G r))))) ∧ S' = S) := by
  obtain ⟨fl, fw, w1, w2, w3, w4⟩ := hw
  have hN := (w3 r hr).2
  refine ar_run (Nat.le_of_ble_eq_true rfl) (fun o S1 h => aq_le_of (aq_le_refl S) h) ?_
  refine ar_push i_X7_smallest_0 ?_
  refine ar_st i_X7_smallest_1 rfl rfl ?_
  have e : fper v (N r) (G r) = leastP (perV v (N r) (G r)) (N r - 1) 1 := if_neg hn
  rw [e]
  suffices key : ∀ j p, p + j = N r → 0 < p → aG (d + 2) 161 (fun o S' => o = .inl (some (.int (nI (leastP (perV v (N r) (G r)) j p)))) ∧ S' = S) 2 [(0, .ref 52), (1, .int (nI r)), (2, .int v), (3, .int (nI p))] [] S from key (N r - 1) 1 (by omega) (by omega)
  intro j
  induction j with
  | zero =>
    intro p hp h0
    refine ar_ld i_X7_smallest_2 rfl rfl ?_
    refine ar_gf i_X7_smallest_3 (h) rfl ?_
    refine ar_push i_X7_smallest_6 ?_
    rw [show (40 : Int32) = nI 40 from rfl]
    refine ar_ld i_X7_smallest_8 rfl rfl ?_
    refine ar_ar i_X7_smallest_9 rfl ?_
    rw [pk_mul]
    refine ar_ld i_X7_smallest_10 rfl rfl ?_
    refine ar_gf i_X7_smallest_11 (h) rfl ?_
    refine ar_ld i_X7_smallest_14 rfl rfl ?_
    refine av_ldi i_X7_smallest_15 (w1) (by omega) (by omega) ?_
    rw [(w3 r hr).1]
    refine ar_ld i_X7_smallest_16 rfl rfl ?_
    refine ar_ld i_X7_smallest_17 rfl rfl ?_
    refine ar_cr i_X7_smallest_18 rfl trivial (Nat.le_of_ble_eq_true rfl) (m_hasPeriod d w2 (fr := 40 * r) (n := N r) (f := G r) (by omega) (by omega) (w4 r hr) h0 (by omega) v) ?_
    refine ar_ift i_X7_smallest_21 rfl (bI_nz.mpr (perV_n (by omega))) ?_
    refine ar_ld i_X7_smallest_30 rfl rfl ?_
    exact ar_ret i_X7_smallest_31 rfl ⟨rfl, rfl⟩
  | succ j ih =>
    intro p hp h0
    refine ar_ld i_X7_smallest_2 rfl rfl ?_
    refine ar_gf i_X7_smallest_3 (h) rfl ?_
    refine ar_push i_X7_smallest_6 ?_
    rw [show (40 : Int32) = nI 40 from rfl]
    refine ar_ld i_X7_smallest_8 rfl rfl ?_
    refine ar_ar i_X7_smallest_9 rfl ?_
    rw [pk_mul]
    refine ar_ld i_X7_smallest_10 rfl rfl ?_
    refine ar_gf i_X7_smallest_11 (h) rfl ?_
    refine ar_ld i_X7_smallest_14 rfl rfl ?_
    refine av_ldi i_X7_smallest_15 (w1) (by omega) (by omega) ?_
    rw [(w3 r hr).1]
    refine ar_ld i_X7_smallest_16 rfl rfl ?_
    refine ar_ld i_X7_smallest_17 rfl rfl ?_
    refine ar_cr i_X7_smallest_18 rfl trivial (Nat.le_of_ble_eq_true rfl) (m_hasPeriod d w2 (fr := 40 * r) (n := N r) (f := G r) (by omega) (by omega) (w4 r hr) h0 (by omega) v) ?_
    by_cases hd : perV v (N r) (G r) p
    · refine ar_ift i_X7_smallest_21 rfl (bI_nz.mpr hd) ?_
      refine ar_ld i_X7_smallest_30 rfl rfl ?_
      exact ar_ret i_X7_smallest_31 rfl ⟨by rw [leastP_y hd], rfl⟩
    · refine ar_iff i_X7_smallest_21 rfl (fun z => z (bI_f hd)) ?_
      refine ar_inc i_X7_smallest_24 rfl rfl ?_
      refine ar_go i_X7_smallest_27 ?_
      have := ih (p + 1) (by omega) (by omega)
      rw [← nI_1 p] at this
      rw [leastP_n hd]
      exact this
theorem m_smallestPeriod_r (d : Nat) {S : aq_S} {th k il err rd tl pc lo cur hs sv : Int32} {a0 : Int32} {a1 : Int32} (h : mO S th k il err rd tl pc lo cur hs sv) (hp : a0 < 0 ∨ nI 4 ≤ a0) : aX (d + 2) 162 [.ref 52, .int a0, .int a1] S (fun o S' => o = .inl (some (.int 0)) ∧ mO S' (1) k il err rd tl pc lo cur hs sv ∧ aq_fr S S' (fun q => q = 52)) := by
  refine ar_run (Nat.le_of_ble_eq_true rfl) (fun o S1 h => h.2.2.le) ?_
  refine ar_ld i_X7_smallestPeriod_0 rfl rfl ?_
  refine ar_cr i_X7_smallestPeriod_1 rfl trivial (Nat.le_of_ble_eq_true rfl) (m_isReg_no d hp) ?_
  refine ar_iff i_X7_smallestPeriod_4 rfl (by decide) ?_
  refine ar_ld i_X7_smallestPeriod_7 rfl rfl ?_
  refine ar_push i_X7_smallestPeriod_8 ?_
  refine av_cr i_X7_smallestPeriod_9 rfl ⟨_, _, _, rfl, (h)⟩ (Nat.le_of_ble_eq_true rfl) (m_fails d h 1) (fun S1 q1 => ?_)
  exact ar_ret i_X7_smallestPeriod_12 rfl ⟨rfl, q1⟩
theorem m_smallestPeriod_e (d : Nat) {S : aq_S} {r : Nat} {v : Int32} {th k il err rd tl pc lo cur hs sv : Int32} {N : Nat → Nat} {G : Nat → Nat → Int32} (h : mO S th k il err rd tl pc lo cur hs sv) (hw : mW S N G) (hr : r < 4) (hn : N r = 0) : aX (d + 2) 162 [.ref 52, .int (nI r), .int v] S (fun o S' => o = .inl (some (.int 0)) ∧ mO S' (2) k il err rd tl pc lo cur hs sv ∧ aq_fr S S' (fun q => q = 52)) := by
  obtain ⟨fl, fw, w1, w2, w3, w4⟩ := hw
  refine ar_run (Nat.le_of_ble_eq_true rfl) (fun o S1 h => h.2.2.le) ?_
  refine ar_ld i_X7_smallestPeriod_0 rfl rfl ?_
  refine ar_cr i_X7_smallestPeriod_1 rfl trivial (Nat.le_of_ble_eq_true rfl) (m_isReg d hr) ?_
  refine ar_ift i_X7_smallestPeriod_4 rfl (by decide) ?_
  refine ar_ld i_X7_smallestPeriod_13 rfl rfl ?_
  refine ar_gf i_X7_smallestPeriod_14 (h) rfl ?_
  refine ar_ld i_X7_smallestPeriod_17 rfl rfl ?_
  refine av_ldi i_X7_smallestPeriod_18 (w1) (by omega) (by omega) ?_
  rw [(w3 r hr).1, hn]
  refine ar_iff i_X7_smallestPeriod_19 rfl (fun z => z rfl) ?_
  refine ar_ld i_X7_smallestPeriod_22 rfl rfl ?_
  refine ar_push i_X7_smallestPeriod_23 ?_
  refine av_cr i_X7_smallestPeriod_24 rfl ⟨_, _, _, rfl, (h)⟩ (Nat.le_of_ble_eq_true rfl) (m_fails d h 2) (fun S1 q1 => ?_)
  exact ar_ret i_X7_smallestPeriod_27 rfl ⟨rfl, q1⟩
theorem m_smallestPeriod (d : Nat) {S : aq_S} {r : Nat} {v : Int32} {th k il err rd tl pc lo cur hs sv : Int32} {N : Nat → Nat} {G : Nat → Nat → Int32} (h : mO S th k il err rd tl pc lo cur hs sv) (hw : mW S N G) (hr : r < 4) (hn : ¬ N r = 0) : aX (d + 4) 162 [.ref 52, .int (nI r), .int v] S (fun o S' => o = .inl (some (.int (nI (fper v (N r) (G r))))) ∧ mO S' (0) k il err rd tl pc lo cur hs sv ∧ aq_fr S S' (fun q => q = 52)) := by
  have hw0 := hw
  obtain ⟨fl, fw, w1, w2, w3, w4⟩ := hw
  have hN := (w3 r hr).2
  refine ar_run (Nat.le_of_ble_eq_true rfl) (fun o S1 h => h.2.2.le) ?_
  refine ar_ld i_X7_smallestPeriod_0 rfl rfl ?_
  refine ar_cr i_X7_smallestPeriod_1 rfl trivial (Nat.le_of_ble_eq_true rfl) (m_isReg (d + 2) hr) ?_
  refine ar_ift i_X7_smallestPeriod_4 rfl (by decide) ?_
  refine ar_ld i_X7_smallestPeriod_13 rfl rfl ?_
  refine ar_gf i_X7_smallestPeriod_14 (h) rfl ?_
  refine ar_ld i_X7_smallestPeriod_17 rfl rfl ?_
  refine av_ldi i_X7_smallestPeriod_18 (w1) (by omega) (by omega) ?_
  rw [(w3 r hr).1]
  refine ar_ift i_X7_smallestPeriod_19 rfl (nI_ne0 (by omega) (by omega)) ?_
  refine ar_ld i_X7_smallestPeriod_28 rfl rfl ?_
  refine ar_push i_X7_smallestPeriod_29 ?_
  refine av_pf i_X7_smallestPeriod_30 (h) (Nat.le_of_ble_eq_true rfl) (rfl) rfl (fun S1 g1 k1 => ?_)
  have o1 : mO S1 (0) k il err rd tl pc lo cur hs sv := g1
  refine ar_ld i_X7_smallestPeriod_33 rfl rfl ?_
  refine ar_ld i_X7_smallestPeriod_34 rfl rfl ?_
  refine ar_ld i_X7_smallestPeriod_35 rfl rfl ?_
  refine ar_cr i_X7_smallestPeriod_36 rfl ⟨_, _, _, rfl, o1⟩ (Nat.le_of_ble_eq_true rfl) (m_smallest d o1 (hw0.fr k1 (by omega) (by omega)) hr hn) ?_
  exact ar_ret i_X7_smallestPeriod_39 rfl ⟨rfl, o1, k1⟩
theorem m_longestBorder_r (d : Nat) {S : aq_S} {th k il err rd tl pc lo cur hs sv : Int32} {a0 : Int32} (h : mO S th k il err rd tl pc lo cur hs sv) (hp : a0 < 0 ∨ nI 4 ≤ a0) : aX (d + 2) 164 [.ref 52, .int a0] S (fun o S' => o = .inl (some (.int 0)) ∧ mO S' (1) k il err rd tl pc lo cur hs sv ∧ aq_fr S S' (fun q => q = 52)) := by
  refine ar_run (Nat.le_of_ble_eq_true rfl) (fun o S1 h => h.2.2.le) ?_
  refine ar_ld i_X7_longestBorder_0 rfl rfl ?_
  refine ar_cr i_X7_longestBorder_1 rfl trivial (Nat.le_of_ble_eq_true rfl) (m_isReg_no d hp) ?_
  refine ar_iff i_X7_longestBorder_4 rfl (by decide) ?_
  refine ar_ld i_X7_longestBorder_7 rfl rfl ?_
  refine ar_push i_X7_longestBorder_8 ?_
  refine av_cr i_X7_longestBorder_9 rfl ⟨_, _, _, rfl, (h)⟩ (Nat.le_of_ble_eq_true rfl) (m_fails d h 1) (fun S1 q1 => ?_)
  exact ar_ret i_X7_longestBorder_12 rfl ⟨rfl, q1⟩
theorem m_longestBorder (d : Nat) {S : aq_S} {r : Nat} {th k il err rd tl pc lo cur hs sv : Int32} {N : Nat → Nat} {G : Nat → Nat → Int32} (h : mO S th k il err rd tl pc lo cur hs sv) (hw : mW S N G) (hr : r < 4) : aX (d + 2) 164 [.ref 52, .int (nI r)] S (fun o S' => o = .inl (some (.int (nI (N r - fper 1 (N r) (G r))))) ∧ mO S' (0) k il err rd tl pc lo cur hs sv ∧ aq_fr S S' (fun q => q = 52)) := by
  obtain ⟨fl, fw, w1, w2, w3, w4⟩ := hw
  have hN := (w3 r hr).2
  refine ar_run (Nat.le_of_ble_eq_true rfl) (fun o S1 h => h.2.2.le) ?_
  refine ar_ld i_X7_longestBorder_0 rfl rfl ?_
  refine ar_cr i_X7_longestBorder_1 rfl trivial (Nat.le_of_ble_eq_true rfl) (m_isReg d hr) ?_
  refine ar_ift i_X7_longestBorder_4 rfl (by decide) ?_
  refine ar_ld i_X7_longestBorder_13 rfl rfl ?_
  refine ar_push i_X7_longestBorder_14 ?_
  refine av_pf i_X7_longestBorder_15 (h) (Nat.le_of_ble_eq_true rfl) (rfl) rfl (fun S1 g1 k1 => ?_)
  have o1 : mO S1 (0) k il err rd tl pc lo cur hs sv := g1
  have u2 := w2.fr k1 (by omega)
  refine ar_ld i_X7_longestBorder_18 rfl rfl ?_
  refine ar_gf i_X7_longestBorder_19 (o1) rfl ?_
  refine ar_ld i_X7_longestBorder_22 rfl rfl ?_
  refine av_ldi i_X7_longestBorder_23 (w1.fr k1 (by omega)) (by omega) (by omega) ?_
  rw [(w3 r hr).1]
  by_cases hn0 : N r = 0
  · rw [show fper 1 (N r) (G r) = 0 from if_pos hn0, hn0]
    refine ar_st i_X7_longestBorder_24 rfl rfl ?_
    refine ar_ld i_X7_longestBorder_25 rfl rfl ?_
    refine ar_push i_X7_longestBorder_26 ?_
    refine ar_ar i_X7_longestBorder_27 rfl ?_
    refine ar_st i_X7_longestBorder_28 rfl rfl ?_
    refine ar_ld i_X7_longestBorder_29 rfl rfl ?_
    refine ar_ift i_X7_longestBorder_30 rfl (by decide) ?_
    refine ar_push i_X7_longestBorder_86 ?_
    exact ar_ret i_X7_longestBorder_87 rfl ⟨rfl, o1, k1⟩
  have e : fper 1 (N r) (G r) = leastP (perV 1 (N r) (G r)) (N r - 1) 1 := if_neg hn0
  rw [e]
  refine ar_st i_X7_longestBorder_24 rfl rfl ?_
  refine ar_ld i_X7_longestBorder_25 rfl rfl ?_
  refine ar_push i_X7_longestBorder_26 ?_
  refine ar_ar i_X7_longestBorder_27 rfl ?_
  rw [show nI (N r) - 1 = nI (N r) - nI 1 from rfl, pk_sub (by omega)]
  refine ar_st i_X7_longestBorder_28 rfl rfl ?_
  suffices key : ∀ j p (L4 : List (Nat × Value)), p + j = N r → 0 < p → (L4 = [] ∨ ∃ u, L4 = [(4, .int u)]) → aG (d + 1) 164 (fun o S' => o = .inl (some (.int (nI (N r - leastP (perV 1 (N r) (G r)) j p)))) ∧ mO S' (0) k il err rd tl pc lo cur hs sv ∧ aq_fr S S' (fun q => q = 52)) 29 ((0, .ref 52) :: (1, .int (nI r)) :: (2, .int (nI (N r))) :: (3, .int (nI (N r - p))) :: L4) [] S1 from key (N r - 1) 1 [] (by omega) (by omega) (Or.inl rfl)
  intro j
  induction j with
  | zero =>
    intro p L4 hp h0 hL
    refine ar_ld i_X7_longestBorder_29 rfl rfl ?_
    refine ar_ift i_X7_longestBorder_30 rfl (by rw [show N r - p = 0 by omega]; decide) ?_
    refine ar_push i_X7_longestBorder_86 ?_
    exact ar_ret i_X7_longestBorder_87 rfl ⟨by rw [show leastP (perV 1 (N r) (G r)) 0 p = p from rfl, show N r - p = 0 by omega]; rfl, o1, k1⟩
  | succ j ih =>
    intro p L4 hp h0 hL
    have hb : 0 < N r - p := by omega
    have inner : ∀ b i, i + b = N r - p → (∀ x, x < i → ¬ wdf (G r x) (G r (x + p))) → aG (d + 1) 164 (fun o S' => o = .inl (some (.int (nI (N r - leastP (perV 1 (N r) (G r)) (j + 1) p)))) ∧ mO S' (0) k il err rd tl pc lo cur hs sv ∧ aq_fr S S' (fun q => q = 52)) 36 [(0, .ref 52), (1, .int (nI r)), (2, .int (nI (N r))), (3, .int (nI (N r - p))), (4, .int (nI i))] [] S1 := by
      intro b
      induction b with
      | zero =>
        intro i hi hag
        refine ar_ld i_X7_longestBorder_36 rfl rfl ?_
        refine ar_ld i_X7_longestBorder_38 rfl rfl ?_
        refine ar_ift i_X7_longestBorder_39 rfl (nI_le (by omega) (by omega)) ?_
        refine ar_ld i_X7_longestBorder_72 rfl rfl ?_
        refine ar_ld i_X7_longestBorder_74 rfl rfl ?_
        refine ar_iff i_X7_longestBorder_75 rfl (fun z => z (by rw [show i = N r - p by omega])) ?_
        refine ar_ld i_X7_longestBorder_78 rfl rfl ?_
        have hd : perV 1 (N r) (G r) p := fun x hx => hag x (by omega)
        exact ar_ret i_X7_longestBorder_79 rfl ⟨by rw [leastP_y hd], o1, k1⟩
      | succ b ihb =>
        intro i hi hag
        refine ar_ld i_X7_longestBorder_36 rfl rfl ?_
        refine ar_ld i_X7_longestBorder_38 rfl rfl ?_
        refine ar_iff i_X7_longestBorder_39 rfl (nI_ge (by omega) (by omega)) ?_
        refine ar_ld i_X7_longestBorder_42 rfl rfl ?_
        refine ar_ld i_X7_longestBorder_43 rfl rfl ?_
        refine ar_ld i_X7_longestBorder_44 rfl rfl ?_
        refine ar_cr i_X7_longestBorder_46 rfl ⟨_, _, _, rfl, o1⟩ (Nat.le_of_ble_eq_true rfl) (m_at d o1 u2 hr (i := i) (by omega)) ?_
        rw [w4 r hr i (by omega)]
        refine ar_ld i_X7_longestBorder_49 rfl rfl ?_
        refine ar_ld i_X7_longestBorder_50 rfl rfl ?_
        refine ar_ld i_X7_longestBorder_51 rfl rfl ?_
        refine ar_ld i_X7_longestBorder_52 rfl rfl ?_
        refine ar_ar i_X7_longestBorder_53 rfl ?_
        rw [pk_sub (show N r - p ≤ N r by omega), show N r - (N r - p) = p by omega]
        refine ar_ld i_X7_longestBorder_54 rfl rfl ?_
        refine ar_ar i_X7_longestBorder_56 rfl ?_
        rw [nI_add]
        refine ar_cr i_X7_longestBorder_57 rfl ⟨_, _, _, rfl, o1⟩ (Nat.le_of_ble_eq_true rfl) (m_at d o1 u2 hr (i := p + i) (by omega)) ?_
        rw [w4 r hr (p + i) (by omega), Nat.add_comm p i]
        refine ar_cr i_X7_longestBorder_60 rfl trivial (Nat.le_of_ble_eq_true rfl) (m_differ d (G r i) (G r (i + p))) ?_
        by_cases hd : wdf (G r i) (G r (i + p))
        · refine ar_ift i_X7_longestBorder_63 rfl (bI_nz.mpr hd) ?_
          refine ar_ld i_X7_longestBorder_72 rfl rfl ?_
          refine ar_ld i_X7_longestBorder_74 rfl rfl ?_
          refine ar_ift i_X7_longestBorder_75 rfl (fun z => absurd (nI_inj (by omega) (by omega) z) (by omega)) ?_
          refine ar_inc i_X7_longestBorder_80 rfl rfl ?_
          rw [sb_m1 hb]
          refine ar_go i_X7_longestBorder_83 ?_
          have hnp : ¬ perV 1 (N r) (G r) p := fun z => (show perW (N r) (G r) p from z) i (by omega) hd
          rw [leastP_n hnp]
          have := ih (p + 1) [(4, .int (nI i))] (by omega) (by omega) (Or.inr ⟨_, rfl⟩)
          rw [show N r - (p + 1) = N r - p - 1 by omega] at this
          exact this
        · refine ar_iff i_X7_longestBorder_63 rfl (fun z => z (bI_f hd)) ?_
          refine ar_inc i_X7_longestBorder_66 rfl rfl ?_
          refine ar_go i_X7_longestBorder_69 ?_
          have := ihb (i + 1) (by omega) (fun x hx => by
            by_cases ex : x = i
            · rw [ex]; exact hd
            · exact hag x (by omega))
          rw [← nI_1 i] at this
          exact this
    have start := inner (N r - p) 0 (by omega) (fun x hx => absurd hx (Nat.not_lt_zero x))
    rcases hL with e | ⟨u, e⟩
    · subst e
      refine ar_ld i_X7_longestBorder_29 rfl rfl ?_
      refine ar_iff i_X7_longestBorder_30 rfl (nI_nle hb (by omega)) ?_
      refine ar_push i_X7_longestBorder_33 ?_
      refine ar_st i_X7_longestBorder_34 rfl rfl ?_
      exact start
    · subst e
      refine ar_ld i_X7_longestBorder_29 rfl rfl ?_
      refine ar_iff i_X7_longestBorder_30 rfl (nI_nle hb (by omega)) ?_
      refine ar_push i_X7_longestBorder_33 ?_
      refine ar_st i_X7_longestBorder_34 rfl rfl ?_
      exact start
theorem m_exponentOf (d : Nat) {S : aq_S} {a M fr n : Nat} {F f : Nat → Int32} (hF : ia S a M F) (hM : fr + n ≤ M) (hM2 : M ≤ 1000) (hf : ∀ i, i < n → F (fr + i) = f i) (hn0 : ¬ n = 0) (hn : n ≤ 40) : aX (d + 3) 165 [.ref a, .int (nI fr), .int (nI n)] S (fun o S' => o = .inl (some (.int (nI (wreps n f)))) ∧ S' = S) := by
  refine ar_run (Nat.le_of_ble_eq_true rfl) (fun o S1 h => aq_le_of (aq_le_refl S) h) ?_
  refine ar_push i_X7_exponentOf_0 ?_
  refine ar_st i_X7_exponentOf_1 rfl rfl ?_
  have e : wreps n f = n / leastP (fun d => n % d = 0 ∧ perS n f d) (n - 1) 1 := if_neg hn0
  rw [e]
  suffices key : ∀ j p, p + j = n → 0 < p → aG (d + 2) 165 (fun o S' => o = .inl (some (.int (nI (n / leastP (fun d => n % d = 0 ∧ perS n f d) j p)))) ∧ S' = S) 2 [(0, .ref a), (1, .int (nI fr)), (2, .int (nI n)), (3, .int (nI p))] [] S from key (n - 1) 1 (by omega) (by omega)
  intro j
  induction j with
  | zero =>
    intro p hp h0
    refine ar_ld i_X7_exponentOf_2 rfl rfl ?_
    refine ar_ld i_X7_exponentOf_3 rfl rfl ?_
    refine ar_arc i_X7_exponentOf_4 rfl (nI_ne0 h0 (by omega)) ?_
    rw [pk_rem (by omega) h0 (by omega), show n % p = 0 by rw [show p = n by omega]; exact Nat.mod_self n]
    refine ar_iff i_X7_exponentOf_5 rfl (fun z => z rfl) ?_
    refine ar_ld i_X7_exponentOf_8 rfl rfl ?_
    refine ar_ld i_X7_exponentOf_9 rfl rfl ?_
    refine ar_ld i_X7_exponentOf_10 rfl rfl ?_
    refine ar_ld i_X7_exponentOf_11 rfl rfl ?_
    refine ar_push i_X7_exponentOf_12 ?_
    refine ar_cr i_X7_exponentOf_13 rfl trivial (Nat.le_of_ble_eq_true rfl) (m_hasPeriod d hF hM hM2 hf h0 (by omega) 0) ?_
    refine ar_ift i_X7_exponentOf_16 rfl (bI_nz.mpr (perV_n (by omega))) ?_
    refine ar_ld i_X7_exponentOf_25 rfl rfl ?_
    refine ar_ld i_X7_exponentOf_26 rfl rfl ?_
    refine ar_arc i_X7_exponentOf_27 rfl (nI_ne0 h0 (by omega)) ?_
    rw [pk_div (by omega) h0 (by omega)]
    exact ar_ret i_X7_exponentOf_28 rfl ⟨rfl, rfl⟩
  | succ j ih =>
    intro p hp h0
    have := ih (p + 1) (by omega) (by omega)
    rw [← nI_1 p] at this
    refine ar_ld i_X7_exponentOf_2 rfl rfl ?_
    refine ar_ld i_X7_exponentOf_3 rfl rfl ?_
    refine ar_arc i_X7_exponentOf_4 rfl (nI_ne0 h0 (by omega)) ?_
    rw [pk_rem (by omega) h0 (by omega)]
    by_cases hd1 : n % p = 0
    · rw [hd1]
      refine ar_iff i_X7_exponentOf_5 rfl (fun z => z rfl) ?_
      refine ar_ld i_X7_exponentOf_8 rfl rfl ?_
      refine ar_ld i_X7_exponentOf_9 rfl rfl ?_
      refine ar_ld i_X7_exponentOf_10 rfl rfl ?_
      refine ar_ld i_X7_exponentOf_11 rfl rfl ?_
      refine ar_push i_X7_exponentOf_12 ?_
      refine ar_cr i_X7_exponentOf_13 rfl trivial (Nat.le_of_ble_eq_true rfl) (m_hasPeriod d hF hM hM2 hf h0 (by omega) 0) ?_
      by_cases hd : perS n f p
      · refine ar_ift i_X7_exponentOf_16 rfl (bI_nz.mpr (show perV 0 n f p from hd)) ?_
        refine ar_ld i_X7_exponentOf_25 rfl rfl ?_
        refine ar_ld i_X7_exponentOf_26 rfl rfl ?_
        refine ar_arc i_X7_exponentOf_27 rfl (nI_ne0 h0 (by omega)) ?_
        rw [pk_div (by omega) h0 (by omega)]
        exact ar_ret i_X7_exponentOf_28 rfl ⟨by rw [leastP_y (P := fun d => n % d = 0 ∧ perS n f d) ⟨hd1, hd⟩], rfl⟩
      · refine ar_iff i_X7_exponentOf_16 rfl (fun z => z (bI_f (show ¬ perV 0 n f p from hd))) ?_
        refine ar_inc i_X7_exponentOf_19 rfl rfl ?_
        refine ar_go i_X7_exponentOf_22 ?_
        rw [leastP_n (P := fun d => n % d = 0 ∧ perS n f d) (fun z => hd z.2)]
        exact this
    · refine ar_ift i_X7_exponentOf_5 rfl (nI_ne0 (by omega) (by have := Nat.mod_le n p; omega)) ?_
      refine ar_inc i_X7_exponentOf_19 rfl rfl ?_
      refine ar_go i_X7_exponentOf_22 ?_
      rw [leastP_n (P := fun d => n % d = 0 ∧ perS n f d) (fun z => hd1 z.1)]
      exact this
theorem m_isPrimitive_r (d : Nat) {S : aq_S} {th k il err rd tl pc lo cur hs sv : Int32} {a0 : Int32} (h : mO S th k il err rd tl pc lo cur hs sv) (hp : a0 < 0 ∨ nI 4 ≤ a0) : aX (d + 2) 166 [.ref 52, .int a0] S (fun o S' => o = .inl (some (.int 0)) ∧ mO S' (1) k il err rd tl pc lo cur hs sv ∧ aq_fr S S' (fun q => q = 52)) := by
  refine ar_run (Nat.le_of_ble_eq_true rfl) (fun o S1 h => h.2.2.le) ?_
  refine ar_ld i_X7_isPrimitive_0 rfl rfl ?_
  refine ar_cr i_X7_isPrimitive_1 rfl trivial (Nat.le_of_ble_eq_true rfl) (m_isReg_no d hp) ?_
  refine ar_iff i_X7_isPrimitive_4 rfl (by decide) ?_
  refine ar_ld i_X7_isPrimitive_7 rfl rfl ?_
  refine ar_push i_X7_isPrimitive_8 ?_
  refine av_cr i_X7_isPrimitive_9 rfl ⟨_, _, _, rfl, (h)⟩ (Nat.le_of_ble_eq_true rfl) (m_refuses d h 1) (fun S1 q1 => ?_)
  exact ar_ret i_X7_isPrimitive_12 ((Or.inl rfl)) ⟨rfl, q1⟩
theorem m_isPrimitive (d : Nat) {S : aq_S} {r : Nat} {th k il err rd tl pc lo cur hs sv : Int32} {N : Nat → Nat} {G : Nat → Nat → Int32} (h : mO S th k il err rd tl pc lo cur hs sv) (hw : mW S N G) (hr : r < 4) : aX (d + 4) 166 [.ref 52, .int (nI r)] S (fun o S' => o = .inl (some (.int (bI (0 < N r ∧ wreps (N r) (G r) = 1)))) ∧ mO S' (0) k il err rd tl pc lo cur hs sv ∧ aq_fr S S' (fun q => q = 52)) := by
  obtain ⟨fl, fw, w1, w2, w3, w4⟩ := hw
  have hN := (w3 r hr).2
  have h2 := wreps_le (f := G r) hN
  refine ar_run (Nat.le_of_ble_eq_true rfl) (fun o S1 h => h.2.2.le) ?_
  refine ar_ld i_X7_isPrimitive_0 rfl rfl ?_
  refine ar_cr i_X7_isPrimitive_1 rfl trivial (Nat.le_of_ble_eq_true rfl) (m_isReg (d + 2) hr) ?_
  refine ar_ift i_X7_isPrimitive_4 rfl (by decide) ?_
  refine ar_ld i_X7_isPrimitive_13 rfl rfl ?_
  refine ar_push i_X7_isPrimitive_14 ?_
  refine av_pf i_X7_isPrimitive_15 (h) (Nat.le_of_ble_eq_true rfl) (rfl) rfl (fun S1 g1 k1 => ?_)
  have o1 : mO S1 (0) k il err rd tl pc lo cur hs sv := g1
  have u1 := w1.fr k1 (by omega)
  refine ar_ld i_X7_isPrimitive_18 rfl rfl ?_
  refine ar_gf i_X7_isPrimitive_19 (o1) rfl ?_
  refine ar_ld i_X7_isPrimitive_22 rfl rfl ?_
  refine av_ldi i_X7_isPrimitive_23 (u1) (by omega) (by omega) ?_
  rw [(w3 r hr).1]
  by_cases hn : 0 < N r
  · refine ar_iff i_X7_isPrimitive_24 rfl (nI_nle hn (by omega)) ?_
    refine ar_ld i_X7_isPrimitive_27 rfl rfl ?_
    refine ar_gf i_X7_isPrimitive_28 (o1) rfl ?_
    refine ar_push i_X7_isPrimitive_31 ?_
    rw [show (40 : Int32) = nI 40 from rfl]
    refine ar_ld i_X7_isPrimitive_33 rfl rfl ?_
    refine ar_ar i_X7_isPrimitive_34 rfl ?_
    rw [pk_mul]
    refine ar_ld i_X7_isPrimitive_35 rfl rfl ?_
    refine ar_gf i_X7_isPrimitive_36 (o1) rfl ?_
    refine ar_ld i_X7_isPrimitive_39 rfl rfl ?_
    refine av_ldi i_X7_isPrimitive_40 (u1) (by omega) (by omega) ?_
    rw [(w3 r hr).1]
    refine ar_cr i_X7_isPrimitive_41 rfl trivial (Nat.le_of_ble_eq_true rfl) (m_exponentOf d (w2.fr k1 (by omega)) (fr := 40 * r) (n := N r) (f := G r) (by omega) (by omega) (w4 r hr) (by omega) hN) ?_
    refine ar_push i_X7_isPrimitive_44 ?_
    by_cases h1 : wreps (N r) (G r) = 1
    · refine ar_iff i_X7_isPrimitive_45 rfl (fun z => z (congrArg nI h1)) ?_
      refine ar_push i_X7_isPrimitive_48 ?_
      refine ar_go i_X7_isPrimitive_49 ?_
      exact ar_ret i_X7_isPrimitive_53 ((Or.inr rfl)) ⟨bR_t ⟨hn, h1⟩, o1, k1⟩
    · refine ar_ift i_X7_isPrimitive_45 rfl (fun z => h1 (nI_inj (b := 1) (by omega) (by omega) z)) ?_
      refine ar_push i_X7_isPrimitive_52 ?_
      exact ar_ret i_X7_isPrimitive_53 ((Or.inl rfl)) ⟨bR_f (fun z => h1 z.2), o1, k1⟩
  · rw [show N r = 0 by omega]
    refine ar_ift i_X7_isPrimitive_24 rfl (by decide) ?_
    refine ar_push i_X7_isPrimitive_52 ?_
    exact ar_ret i_X7_isPrimitive_53 ((Or.inl rfl)) ⟨bR_f (fun z => absurd z.1 (Nat.lt_irrefl 0)), o1, k1⟩
theorem m_exponent_r (d : Nat) {S : aq_S} {th k il err rd tl pc lo cur hs sv : Int32} {a0 : Int32} (h : mO S th k il err rd tl pc lo cur hs sv) (hp : a0 < 0 ∨ nI 4 ≤ a0) : aX (d + 2) 167 [.ref 52, .int a0] S (fun o S' => o = .inl (some (.int 0)) ∧ mO S' (1) k il err rd tl pc lo cur hs sv ∧ aq_fr S S' (fun q => q = 52)) := by
  refine ar_run (Nat.le_of_ble_eq_true rfl) (fun o S1 h => h.2.2.le) ?_
  refine ar_ld i_X7_exponent_0 rfl rfl ?_
  refine ar_cr i_X7_exponent_1 rfl trivial (Nat.le_of_ble_eq_true rfl) (m_isReg_no d hp) ?_
  refine ar_iff i_X7_exponent_4 rfl (by decide) ?_
  refine ar_ld i_X7_exponent_7 rfl rfl ?_
  refine ar_push i_X7_exponent_8 ?_
  refine av_cr i_X7_exponent_9 rfl ⟨_, _, _, rfl, (h)⟩ (Nat.le_of_ble_eq_true rfl) (m_fails d h 1) (fun S1 q1 => ?_)
  exact ar_ret i_X7_exponent_12 rfl ⟨rfl, q1⟩
theorem m_exponent_e (d : Nat) {S : aq_S} {r : Nat} {th k il err rd tl pc lo cur hs sv : Int32} {N : Nat → Nat} {G : Nat → Nat → Int32} (h : mO S th k il err rd tl pc lo cur hs sv) (hw : mW S N G) (hr : r < 4) (hn : N r = 0) : aX (d + 2) 167 [.ref 52, .int (nI r)] S (fun o S' => o = .inl (some (.int 0)) ∧ mO S' (2) k il err rd tl pc lo cur hs sv ∧ aq_fr S S' (fun q => q = 52)) := by
  obtain ⟨fl, fw, w1, w2, w3, w4⟩ := hw
  refine ar_run (Nat.le_of_ble_eq_true rfl) (fun o S1 h => h.2.2.le) ?_
  refine ar_ld i_X7_exponent_0 rfl rfl ?_
  refine ar_cr i_X7_exponent_1 rfl trivial (Nat.le_of_ble_eq_true rfl) (m_isReg d hr) ?_
  refine ar_ift i_X7_exponent_4 rfl (by decide) ?_
  refine ar_ld i_X7_exponent_13 rfl rfl ?_
  refine ar_gf i_X7_exponent_14 (h) rfl ?_
  refine ar_ld i_X7_exponent_17 rfl rfl ?_
  refine av_ldi i_X7_exponent_18 (w1) (by omega) (by omega) ?_
  rw [(w3 r hr).1, hn]
  refine ar_iff i_X7_exponent_19 rfl (fun z => z rfl) ?_
  refine ar_ld i_X7_exponent_22 rfl rfl ?_
  refine ar_push i_X7_exponent_23 ?_
  refine av_cr i_X7_exponent_24 rfl ⟨_, _, _, rfl, (h)⟩ (Nat.le_of_ble_eq_true rfl) (m_fails d h 2) (fun S1 q1 => ?_)
  exact ar_ret i_X7_exponent_27 rfl ⟨rfl, q1⟩
theorem m_exponent (d : Nat) {S : aq_S} {r : Nat} {th k il err rd tl pc lo cur hs sv : Int32} {N : Nat → Nat} {G : Nat → Nat → Int32} (h : mO S th k il err rd tl pc lo cur hs sv) (hw : mW S N G) (hr : r < 4) (hn : ¬ N r = 0) : aX (d + 4) 167 [.ref 52, .int (nI r)] S (fun o S' => o = .inl (some (.int (nI (wreps (N r) (G r))))) ∧ mO S' (0) k il err rd tl pc lo cur hs sv ∧ aq_fr S S' (fun q => q = 52)) := by
  obtain ⟨fl, fw, w1, w2, w3, w4⟩ := hw
  have hN := (w3 r hr).2
  refine ar_run (Nat.le_of_ble_eq_true rfl) (fun o S1 h => h.2.2.le) ?_
  refine ar_ld i_X7_exponent_0 rfl rfl ?_
  refine ar_cr i_X7_exponent_1 rfl trivial (Nat.le_of_ble_eq_true rfl) (m_isReg (d + 2) hr) ?_
  refine ar_ift i_X7_exponent_4 rfl (by decide) ?_
  refine ar_ld i_X7_exponent_13 rfl rfl ?_
  refine ar_gf i_X7_exponent_14 (h) rfl ?_
  refine ar_ld i_X7_exponent_17 rfl rfl ?_
  refine av_ldi i_X7_exponent_18 (w1) (by omega) (by omega) ?_
  rw [(w3 r hr).1]
  refine ar_ift i_X7_exponent_19 rfl (nI_ne0 (by omega) (by omega)) ?_
  refine ar_ld i_X7_exponent_28 rfl rfl ?_
  refine ar_push i_X7_exponent_29 ?_
  refine av_pf i_X7_exponent_30 (h) (Nat.le_of_ble_eq_true rfl) (rfl) rfl (fun S1 g1 k1 => ?_)
  have o1 : mO S1 (0) k il err rd tl pc lo cur hs sv := g1
  have u1 := w1.fr k1 (by omega)
  refine ar_ld i_X7_exponent_33 rfl rfl ?_
  refine ar_gf i_X7_exponent_34 (o1) rfl ?_
  refine ar_push i_X7_exponent_37 ?_
  rw [show (40 : Int32) = nI 40 from rfl]
  refine ar_ld i_X7_exponent_39 rfl rfl ?_
  refine ar_ar i_X7_exponent_40 rfl ?_
  rw [pk_mul]
  refine ar_ld i_X7_exponent_41 rfl rfl ?_
  refine ar_gf i_X7_exponent_42 (o1) rfl ?_
  refine ar_ld i_X7_exponent_45 rfl rfl ?_
  refine av_ldi i_X7_exponent_46 (u1) (by omega) (by omega) ?_
  rw [(w3 r hr).1]
  refine ar_cr i_X7_exponent_47 rfl trivial (Nat.le_of_ble_eq_true rfl) (m_exponentOf d (w2.fr k1 (by omega)) (fr := 40 * r) (n := N r) (f := G r) (by omega) (by omega) (w4 r hr) hn hN) ?_
  exact ar_ret i_X7_exponent_50 rfl ⟨rfl, o1, k1⟩
end
