/-! ===== complexity: counting factors letter by letter ===== -/
section
/-- how many words of j letters go on from one of the starts -/
noncomputable def dF (k n : Nat) (pl : Nat → Nat → Prop) : Nat → (Nat → Prop) → Nat
  | 0, st => pif (∃ s, st s) 1 0
  | j + 1, st => pif (∃ s, st s) (sumN (fun c => dF k n pl j (fun s => st s ∧ pl c (s + (n - (j + 1))))) k) 0
theorem dig_top {k j c r : Nat} (hk : 0 < k) (hc : c < k) (hr : r < k ^ j) : (c * k ^ j + r) / k ^ j % k = c := by
  have hp : 0 < k ^ j := Nat.pow_pos hk
  rw [Nat.add_comm, Nat.add_mul_div_right _ _ hp, Nat.div_eq_of_lt hr, Nat.zero_add, Nat.mod_eq_of_lt hc]
theorem dF_cnt {k n : Nat} {pl : Nat → Nat → Prop} (hk : 0 < k) : ∀ j (st : Nat → Prop), j ≤ n → dF k n pl j st = cntN (fun num => ∃ s, st s ∧ ∀ t, n - j ≤ t → t < n → pl (num / k ^ (n - 1 - t) % k) (s + t)) (k ^ j)
  | 0, st, hj => by
    rw [Nat.pow_zero]
    show pif (∃ s, st s) 1 0 = 0 + pif _ 1 0
    rw [Nat.zero_add]
    exact pif_cg ⟨fun ⟨s, hs⟩ => ⟨s, hs, fun t h1 h2 => by omega⟩, fun ⟨s, hs, _⟩ => ⟨s, hs⟩⟩
  | j + 1, st, hj => by
    rw [Nat.pow_succ, Nat.mul_comm, cntN_mul]
    have hM : ∀ c, c < k → cntN (fun r => ∃ s, st s ∧ ∀ t, n - (j + 1) ≤ t → t < n → pl ((c * k ^ j + r) / k ^ (n - 1 - t) % k) (s + t)) (k ^ j) = dF k n pl j (fun s => st s ∧ pl c (s + (n - (j + 1)))) := by
      intro c hc
      rw [dF_cnt hk j _ (by omega)]
      refine cntN_cg _ fun r hr => ?_
      refine ⟨fun ⟨s, hs, z⟩ => ⟨s, ⟨hs, ?_⟩, fun t h1 h2 => ?_⟩, fun ⟨s, ⟨hs, h0⟩, z⟩ => ⟨s, hs, fun t h1 h2 => ?_⟩⟩
      · have := z (n - (j + 1)) (Nat.le_refl _) (by omega)
        rw [show n - 1 - (n - (j + 1)) = j by omega, dig_top hk hc hr] at this
        exact this
      · have := z t (by omega) h2
        rw [div_top hk (by omega)] at this
        exact this
      · by_cases e : t = n - (j + 1)
        · rw [e, show n - 1 - (n - (j + 1)) = j by omega, dig_top hk hc hr]
          exact h0
        · rw [div_top hk (by omega)]
          exact z t (by omega) h2
    by_cases hs : ∃ s, st s
    · show pif (∃ s, st s) _ 0 = _
      rw [pif_t hs]
      exact sumN_cg k fun c hc => (hM c hc).symm
    · show pif (∃ s, st s) _ 0 = _
      rw [pif_f hs, sumN_cg (g := fun _ => 0) k (fun c hc => cntN_no _ fun r _ ⟨s, z, _⟩ => hs ⟨s, z⟩), sumN_const, Nat.mul_zero]
/-- a row of longs -/
def la (S : aq_S) (a m : Nat) (f : Nat → Int64) : Prop := S.2.2.2 a = some (.inl (1, (m, .inr (.inl f))))
theorem la.fr {S S' : aq_S} {a m : Nat} {f : Nat → Int64} {P : Nat → Prop} (h : la S a m f) (q : aq_fr S S' P) (h1 : ¬ P a) : la S' a m f := (q.2.2.2 a h1).trans h
theorem x_distinct (d : Nat) {S : aq_S} {k n : Nat} {acc : Nat → Int64} (hA : la S 47 3 acc) (hk : k ≤ 3) (hn : n ≤ 6) : ∀ j dp (starts : Int64), dp + j = n → aX (d + 1 + j) 122 [.ref 47, .int (nI k), .long starts, .int (nI dp), .int (nI n)] S (fun o S' => o = .inl (some (.int (nI (dF k n (fun c p => lb (acc c) p = true) j (fun s => s < 64 ∧ lb starts s = true))))) ∧ S' = S) := by
  intro j
  induction j with
  | zero =>
    intro dp starts hdp
    refine ar_run (Nat.le_of_ble_eq_true rfl) (fun o S1 h => aq_le_of (aq_le_refl S) h) ?_
    refine ar_ld i_X6_distinctFactors_0 rfl rfl ?_
    refine ar_push i_X6_distinctFactors_1 ?_
    refine ar_ar i_X6_distinctFactors_2 rfl ?_
    by_cases hz : starts = 0
    · refine ar_iff i_X6_distinctFactors_3 rfl (fun z => z ((lg_cmp_eq _ _).mpr hz)) ?_
      refine ar_push i_X6_distinctFactors_6 ?_
      exact ar_ret i_X6_distinctFactors_7 rfl ⟨by rw [show dF k n (fun c p => lb (acc c) p = true) 0 (fun s => s < 64 ∧ lb starts s = true) = 0 from pif_f (fun z => lb_nz.mpr z hz)]; rfl, rfl⟩
    · refine ar_ift i_X6_distinctFactors_3 rfl (fun z => hz ((lg_cmp_eq _ _).mp z)) ?_
      refine ar_ld i_X6_distinctFactors_8 rfl rfl ?_
      refine ar_ld i_X6_distinctFactors_10 rfl rfl ?_
      refine ar_ift i_X6_distinctFactors_12 rfl (nI_le (by omega) (by omega)) ?_
      refine ar_push i_X6_distinctFactors_22 ?_
      exact ar_ret i_X6_distinctFactors_23 rfl ⟨by rw [show dF k n (fun c p => lb (acc c) p = true) 0 (fun s => s < 64 ∧ lb starts s = true) = 1 from pif_t (lb_nz.mp hz)]; rfl, rfl⟩
  | succ j ih =>
    intro dp starts hdp
    refine ar_run (Nat.le_of_ble_eq_true rfl) (fun o S1 h => aq_le_of (aq_le_refl S) h) ?_
    refine ar_ld i_X6_distinctFactors_0 rfl rfl ?_
    refine ar_push i_X6_distinctFactors_1 ?_
    refine ar_ar i_X6_distinctFactors_2 rfl ?_
    by_cases hz : starts = 0
    · refine ar_iff i_X6_distinctFactors_3 rfl (fun z => z ((lg_cmp_eq _ _).mpr hz)) ?_
      refine ar_push i_X6_distinctFactors_6 ?_
      exact ar_ret i_X6_distinctFactors_7 rfl ⟨by rw [show dF k n (fun c p => lb (acc c) p = true) (j + 1) (fun s => s < 64 ∧ lb starts s = true) = 0 from pif_f (fun z => lb_nz.mpr z hz)]; rfl, rfl⟩
    · rw [show dF k n (fun c p => lb (acc c) p = true) (j + 1) (fun s => s < 64 ∧ lb starts s = true) = sumN (fun c => dF k n (fun c p => lb (acc c) p = true) j (fun s => (s < 64 ∧ lb starts s = true) ∧ lb (acc c) (s + (n - (j + 1))) = true)) k from pif_t (lb_nz.mp hz)]
      refine ar_ift i_X6_distinctFactors_3 rfl (fun z => hz ((lg_cmp_eq _ _).mp z)) ?_
      refine ar_ld i_X6_distinctFactors_8 rfl rfl ?_
      refine ar_ld i_X6_distinctFactors_10 rfl rfl ?_
      refine ar_iff i_X6_distinctFactors_12 rfl (nI_ge (show dp < n by omega) (by omega)) ?_
      refine ar_ld i_X6_distinctFactors_15 rfl rfl ?_
      refine ar_push i_X6_distinctFactors_17 ?_
      refine ar_ift i_X6_distinctFactors_19 rfl (nI_lt (b := 6) (by omega) (by omega)) ?_
      refine ar_push i_X6_distinctFactors_24 ?_
      refine ar_st i_X6_distinctFactors_25 rfl rfl ?_
      refine ar_push i_X6_distinctFactors_27 ?_
      refine ar_st i_X6_distinctFactors_28 rfl rfl ?_
      suffices key : ∀ b c, c + b = k → aG (d + 1 + j) 122 (fun o S' => o = .inl (some (.int (nI (sumN (fun c => dF k n (fun c p => lb (acc c) p = true) j (fun s => (s < 64 ∧ lb starts s = true) ∧ lb (acc c) (s + (n - (j + 1))) = true)) k)))) ∧ S' = S) 30 [(0, .ref 47), (1, .int (nI k)), (2, .long starts), (4, .int (nI dp)), (5, .int (nI n)), (6, .int (nI (sumN (fun c => dF k n (fun c p => lb (acc c) p = true) j (fun s => (s < 64 ∧ lb starts s = true) ∧ lb (acc c) (s + (n - (j + 1))) = true)) c))), (7, .int (nI c))] [] S from key k 0 (by omega)
      intro b
      induction b with
      | zero =>
        intro c hc
        have e : c = k := hc
        refine ar_ld i_X6_distinctFactors_30 rfl rfl ?_
        refine ar_ld i_X6_distinctFactors_32 rfl rfl ?_
        refine ar_ift i_X6_distinctFactors_33 rfl (nI_le (by omega) (by omega)) ?_
        refine ar_ld i_X6_distinctFactors_74 rfl rfl ?_
        exact ar_ret i_X6_distinctFactors_76 rfl ⟨by rw [e], rfl⟩
      | succ b ihb =>
        intro c hc
        refine ar_ld i_X6_distinctFactors_30 rfl rfl ?_
        refine ar_ld i_X6_distinctFactors_32 rfl rfl ?_
        refine ar_iff i_X6_distinctFactors_33 rfl (nI_ge (show c < k by omega) (by omega)) ?_
        refine ar_ld i_X6_distinctFactors_36 rfl rfl ?_
        refine ar_ld i_X6_distinctFactors_38 rfl rfl ?_
        refine ar_len i_X6_distinctFactors_39 (by decide) (hA) ?_
        refine ar_iff i_X6_distinctFactors_40 rfl (nI_ge (a := c) (b := 3) (by omega) (by omega)) ?_
        refine ar_ld i_X6_distinctFactors_43 rfl rfl ?_
        refine ar_ld i_X6_distinctFactors_45 rfl rfl ?_
        refine ar_ld i_X6_distinctFactors_46 rfl rfl ?_
        refine ar_ld i_X6_distinctFactors_47 rfl rfl ?_
        refine ar_ld i_X6_distinctFactors_48 rfl rfl ?_
        refine ar_ld i_X6_distinctFactors_49 rfl rfl ?_
        refine av_ldl i_X6_distinctFactors_51 (hA) (by omega) (by omega) ?_
        refine ar_ld i_X6_distinctFactors_52 rfl rfl ?_
        refine ar_ar i_X6_distinctFactors_54 rfl ?_
        refine ar_ar i_X6_distinctFactors_55 rfl ?_
        refine ar_ld i_X6_distinctFactors_56 rfl rfl ?_
        refine ar_push i_X6_distinctFactors_58 ?_
        refine ar_ar i_X6_distinctFactors_59 rfl ?_
        rw [nI_1]
        refine ar_ld i_X6_distinctFactors_60 rfl rfl ?_
        have hst : (fun s => s < 64 ∧ lb (starts &&& ((acc c).toUInt64 >>> ((nI dp).toInt64.toUInt64 &&& Int64.toUInt64 63)).toInt64) s = true) = (fun s => (s < 64 ∧ lb starts s = true) ∧ lb (acc c) (s + (n - (j + 1))) = true) := by
          funext s
          rw [lb_and, lb_ushr _ (show dp < 64 by omega), Bool.and_eq_true, show dp + s = s + (n - (j + 1)) by omega]
          exact propext ⟨fun z => ⟨⟨z.1, z.2.1⟩, z.2.2⟩, fun z => ⟨z.1.1, z.1.2, z.2⟩⟩
        have hcall := ih (dp + 1) (starts &&& ((acc c).toUInt64 >>> ((nI dp).toInt64.toUInt64 &&& Int64.toUInt64 63)).toInt64) (by omega)
        rw [hst] at hcall
        refine ar_cr i_X6_distinctFactors_62 rfl trivial (Nat.le_of_ble_eq_true rfl) (hcall) ?_
        refine ar_ar i_X6_distinctFactors_65 rfl ?_
        rw [nI_add]
        refine ar_st i_X6_distinctFactors_66 rfl rfl ?_
        refine ar_inc i_X6_distinctFactors_68 rfl rfl ?_
        refine ar_go i_X6_distinctFactors_71 ?_
        have := ihb (c + 1) (by omega)
        rw [← nI_1 c] at this
        exact this
/-- the number of full words of n letters that fit a factor -/
noncomputable def cpx (k n sz : Nat) (f : Nat → Int32) : Nat := cntN (fun num => ∃ i, i + n ≤ sz ∧ ∀ t, t < n → ¬ wdf (nI (num / k ^ (n - 1 - t) % k)) (f (i + t))) (k ^ n)
theorem cpx_big {k n sz : Nat} {f : Nat → Int32} (h : sz < n) : cpx k n sz f = 0 := cntN_no _ fun num _ ⟨i, hi, _⟩ => by omega
theorem cpx_dF {k n sz : Nat} {f : Nat → Int32} {acc : Nat → Int64} {starts : Int64} (hk : 0 < k) (hk3 : k ≤ 3) (hn : n ≤ sz) (hsz : sz ≤ 40) (hacc : ∀ c, c < 3 → acc c = wplc f (nI c) sz) (hst : ∀ i, i < 64 → lb starts i = decide (i < sz - n + 1)) : dF k n (fun c p => lb (acc c) p = true) n (fun s => s < 64 ∧ lb starts s = true) = cpx k n sz f := by
  rw [dF_cnt hk n _ (Nat.le_refl n)]
  refine cntN_cg _ fun num _ => ?_
  refine ⟨fun ⟨s, ⟨h1, h2⟩, z⟩ => ?_, fun ⟨i, hi, z⟩ => ⟨i, ⟨by omega, ?_⟩, fun t h1 h2 => ?_⟩⟩
  · rw [hst s h1] at h2
    have h2 := of_decide_eq_true h2
    refine ⟨s, by omega, fun t ht => ?_⟩
    have h3 := z t (by omega) ht
    have hd := Nat.mod_lt (num / k ^ (n - 1 - t)) hk
    rw [hacc _ (by omega), wplc_lb f _ sz (by omega) _ (by omega)] at h3
    exact fun u => h3.2 (wdf_symm u)
  · rw [hst i (by omega)]
    exact decide_eq_true (by omega)
  · have hd := Nat.mod_lt (num / k ^ (n - 1 - t)) hk
    show lb (acc (num / k ^ (n - 1 - t) % k)) (i + t) = true
    rw [hacc _ (by omega), wplc_lb f _ sz (by omega) _ (by omega)]
    exact ⟨by omega, fun u => z t h2 (wdf_symm u)⟩
theorem vp_updL_eq {f : Nat → Int64} {j : Nat} {x : Int64} : vp_updL f j x j = x := updL_eq
theorem vp_updL_ne {f : Nat → Int64} {j i : Nat} {x : Int64} (h : i ≠ j) : vp_updL f j x i = f i := updL_ne h
theorem x_complexity_r (d : Nat) {S : aq_S} {k : Nat} {p q hs : Int32} (h : hT S k hs) (hp : p < 0 ∨ nI 4 ≤ p) : aX (d + 3) 93 [.ref 1, .int p, .int q] S (fun o S' => o = .inr "java/lang/IllegalArgumentException" ∧ S' = aq_thrown S) := by
  refine ar_run (Nat.le_of_ble_eq_true rfl) (fun o S1 h => aq_le_of (aq_le_thr S) h) ?_
  refine ar_ld i_X6_complexity_0 rfl rfl ?_
  refine ar_ld i_X6_complexity_1 rfl rfl ?_
  exact av_cx i_X6_complexity_2 rfl ⟨_, _, _, rfl, (h.1)⟩ (Nat.le_of_ble_eq_true rfl) (x_wordIn_no d h hp) (fun S1 h => ⟨rfl, h⟩)
theorem x_complexity_n (d : Nat) {S : aq_S} {k r : Nat} {q hs : Int32} (h : hT S k hs) (hr : r < 4) (hq : q < 0 ∨ nI 7 ≤ q) : aX (d + 3) 93 [.ref 1, .int (nI r), .int q] S (fun o S' => o = .inr "java/lang/IllegalArgumentException" ∧ S' = aq_thrown S) := by
  refine ar_run (Nat.le_of_ble_eq_true rfl) (fun o S1 h => aq_le_of (aq_le_thr S) h) ?_
  refine ar_ld i_X6_complexity_0 rfl rfl ?_
  refine ar_ld i_X6_complexity_1 rfl rfl ?_
  refine ar_cr i_X6_complexity_2 rfl ⟨_, _, _, rfl, (h.1)⟩ (Nat.le_of_ble_eq_true rfl) (x_wordIn d h hr) ?_
  refine ar_st i_X6_complexity_5 rfl rfl ?_
  refine ar_ld i_X6_complexity_6 rfl rfl ?_
  refine ar_if i_X6_complexity_7 rfl (fun c7 => ?_) (fun c7 => ?_)
  · exact ar_thr i_X6_complexity_16 (Nat.le_of_ble_eq_true rfl) ⟨rfl, rfl⟩
  · refine ar_ld i_X6_complexity_10 rfl rfl ?_
    refine ar_push i_X6_complexity_11 ?_
    refine ar_iff i_X6_complexity_13 rfl (fun z => absurd (Int32.le_trans (hq.resolve_left c7) z) (by decide +kernel)) ?_
    exact ar_thr i_X6_complexity_16 (Nat.le_of_ble_eq_true rfl) ⟨rfl, rfl⟩
theorem x_complexity (d : Nat) {S : aq_S} {k r n : Nat} {hs : Int32} {N : Nat → Nat} {G : Nat → Nat → Int32} {acc0 : Nat → Int64} (h : hT S k hs) (hw : hWs S 2 N G) (hA : la S 47 3 acc0) (hk0 : 0 < k) (hk : k ≤ 3) (hr : r < 4) (hn : n ≤ 6) : aX (d + 9) 93 [.ref 1, .int (nI r), .int (nI n)] S (fun o S' => o = .inl (some (.int (nI (cpx k n (N r) (G r))))) ∧ (∃ acc, la S' 47 3 acc) ∧ aq_fr S S' (fun q => q = 47)) := by
  have hwr := hw r hr
  have hN := hwr.le
  refine ar_run (Nat.le_of_ble_eq_true rfl) (fun o S1 h => h.2.2.le) ?_
  refine ar_ld i_X6_complexity_0 rfl rfl ?_
  refine ar_ld i_X6_complexity_1 rfl rfl ?_
  refine ar_cr i_X6_complexity_2 rfl ⟨_, _, _, rfl, (h.1)⟩ (Nat.le_of_ble_eq_true rfl) (x_wordIn (d + 6) h hr) ?_
  refine ar_st i_X6_complexity_5 rfl rfl ?_
  refine ar_ld i_X6_complexity_6 rfl rfl ?_
  refine ar_iff i_X6_complexity_7 rfl (nI_pos (by omega)) ?_
  refine ar_ld i_X6_complexity_10 rfl rfl ?_
  refine ar_push i_X6_complexity_11 ?_
  refine ar_ift i_X6_complexity_13 rfl (nI_le (b := 6) hn (by omega)) ?_
  refine ar_ld i_X6_complexity_26 rfl rfl ?_
  refine ar_ld i_X6_complexity_27 rfl rfl ?_
  refine ar_cr i_X6_complexity_28 rfl ⟨_, _, _, rfl, hwr.obj⟩ (Nat.le_of_ble_eq_true rfl) (w_size (d + 7) hwr) ?_
  by_cases hlt : N r < n
  · refine ar_iff i_X6_complexity_31 rfl (nI_ge hlt (by omega)) ?_
    refine ar_push i_X6_complexity_34 ?_
    exact ar_ret i_X6_complexity_35 rfl ⟨by rw [cpx_big hlt]; rfl, ⟨acc0, hA⟩, aq_fr.rf⟩
  · refine ar_ift i_X6_complexity_31 rfl (nI_le (by omega) (by omega)) ?_
    refine ar_push i_X6_complexity_36 ?_
    refine ar_st i_X6_complexity_37 rfl rfl ?_
    suffices key : ∀ j i (S1 : aq_S) (acc : Nat → Int64), i + j = 3 → hT S1 k hs → isW S1 (6 + 2 * r) (N r) (G r) → la S1 47 3 acc → (∀ c, c < i → acc c = wplc (G r) (nI c) (N r)) → aq_fr S S1 (fun q => q = 47) → aG (d + 8) 93 (fun o S' => o = .inl (some (.int (nI (cpx k n (N r) (G r))))) ∧ (∃ acc, la S' 47 3 acc) ∧ aq_fr S S' (fun q => q = 47)) 39 [(0, .ref 1), (1, .int (nI r)), (2, .int (nI n)), (3, .ref (6 + 2 * r)), (4, .int (nI i))] [] S1 from key 3 0 S acc0 (by omega) h hwr hA (fun c hc => absurd hc (Nat.not_lt_zero c)) aq_fr.rf
    intro j
    induction j with
    | zero =>
      intro i S1 acc hi hT1 hw1 hA1 hag hfr
      refine ar_ld i_X6_complexity_39 rfl rfl ?_
      refine ar_ld i_X6_complexity_41 rfl rfl ?_
      refine ar_gf i_X6_complexity_42 (hT1.1) rfl ?_
      refine ar_len i_X6_complexity_45 (by decide) (hA1) ?_
      refine ar_ift i_X6_complexity_46 rfl (nI_le (a := 3) (by omega) (by omega)) ?_
      refine ar_push i_X6_complexity_68 ?_
      refine ar_ld i_X6_complexity_69 rfl rfl ?_
      refine ar_cr i_X6_complexity_70 rfl ⟨_, _, _, rfl, hw1.obj⟩ (Nat.le_of_ble_eq_true rfl) (w_size (d + 7) hw1) ?_
      refine ar_ld i_X6_complexity_73 rfl rfl ?_
      refine ar_ar i_X6_complexity_74 rfl ?_
      rw [pk_sub (show n ≤ N r by omega)]
      refine ar_push i_X6_complexity_75 ?_
      refine ar_ar i_X6_complexity_76 rfl ?_
      rw [nI_1]
      refine ar_ar i_X6_complexity_77 rfl ?_
      refine ar_push i_X6_complexity_78 ?_
      refine ar_ar i_X6_complexity_79 rfl ?_
      refine ar_st i_X6_complexity_80 rfl rfl ?_
      refine ar_ld i_X6_complexity_82 rfl rfl ?_
      refine ar_gf i_X6_complexity_83 (hT1.1) rfl ?_
      refine ar_ld i_X6_complexity_86 rfl rfl ?_
      refine ar_gf i_X6_complexity_87 (hT1.1) rfl ?_
      refine ar_gf i_X6_complexity_90 (hT1.2.1) rfl ?_
      refine ar_ld i_X6_complexity_93 rfl rfl ?_
      refine ar_push i_X6_complexity_95 ?_
      refine ar_ld i_X6_complexity_96 rfl rfl ?_
      have hdf := x_distinct (d + 7 - n) hA1 hk hn n 0 ((1 : Int64) <<< ((nI (N r - n + 1)).toInt64 &&& 63) - 1) (by omega)
      rw [show d + 7 - n + 1 + n = d + 8 by omega, cpx_dF hk0 hk (show n ≤ N r by omega) hN (fun c hc => hag c (by omega)) (fun i hi => lb_low (N r - n + 1) (by omega) i hi)] at hdf
      refine ar_cr i_X6_complexity_97 rfl trivial (Nat.le_of_ble_eq_true rfl) (hdf) ?_
      exact ar_ret i_X6_complexity_100 rfl ⟨rfl, ⟨acc, hA1⟩, hfr⟩
    | succ j ih =>
      intro i S1 acc hi hT1 hw1 hA1 hag hfr
      refine ar_ld i_X6_complexity_39 rfl rfl ?_
      refine ar_ld i_X6_complexity_41 rfl rfl ?_
      refine ar_gf i_X6_complexity_42 (hT1.1) rfl ?_
      refine ar_len i_X6_complexity_45 (by decide) (hA1) ?_
      refine ar_iff i_X6_complexity_46 rfl (nI_ge (b := 3) (by omega) (by omega)) ?_
      refine ar_ld i_X6_complexity_49 rfl rfl ?_
      refine ar_gf i_X6_complexity_50 (hT1.1) rfl ?_
      refine ar_ld i_X6_complexity_53 rfl rfl ?_
      refine ar_ld i_X6_complexity_55 rfl rfl ?_
      refine ar_ld i_X6_complexity_56 rfl rfl ?_
      refine ar_cr i_X6_complexity_58 rfl ⟨_, _, _, rfl, hw1.obj⟩ (Nat.le_of_ble_eq_true rfl) (w_placesFor (d + 6) hw1 (nI i)) ?_
      refine av_stl i_X6_complexity_61 (by omega) (hA1) (by omega) (by omega) (fun S2 g2 k2 => ?_)
      refine ar_inc i_X6_complexity_62 rfl rfl ?_
      refine ar_go i_X6_complexity_65 ?_
      have := ih (i + 1) S2 _ (by omega) (hT1.fr k2 (by omega)) (hw1.fr k2 (by omega) (by omega)) g2 (fun c hc => by
        by_cases e : c = i
        · rw [e, vp_updL_eq]
        · rw [vp_updL_ne e]; exact hag c (by omega)) (hfr.tr k2)
      rw [← nI_1 i] at this
      exact this
theorem m_power (d : Nat) {S : aq_S} {kk e : Nat} {th il err rd tl pc lo cur hs sv : Int32} (h : mO S th (nI kk) il err rd tl pc lo cur hs sv) (he : e ≤ 40) : aX (d + 1) 174 [.ref 52, .int (nI e)] S (fun o S' => o = .inl (some (.int (nI (kk ^ e)))) ∧ S' = S) := by
  refine ar_run (Nat.le_of_ble_eq_true rfl) (fun o S1 h => aq_le_of (aq_le_refl S) h) ?_
  refine ar_push i_X7_power_0 ?_
  refine ar_st i_X7_power_1 rfl rfl ?_
  refine ar_push i_X7_power_2 ?_
  refine ar_st i_X7_power_3 rfl rfl ?_
  suffices key : ∀ j i, i + j = e → aG d 174 (fun o S' => o = .inl (some (.int (nI (kk ^ e)))) ∧ S' = S) 4 [(0, .ref 52), (1, .int (nI e)), (2, .int (nI (kk ^ i))), (3, .int (nI i))] [] S from key e 0 (by omega)
  intro j
  induction j with
  | zero =>
    intro i hi
    refine ar_ld i_X7_power_4 rfl rfl ?_
    refine ar_ld i_X7_power_5 rfl rfl ?_
    refine ar_ift i_X7_power_6 rfl (nI_le (by omega) (by omega)) ?_
    refine ar_ld i_X7_power_22 rfl rfl ?_
    exact ar_ret i_X7_power_23 rfl ⟨by rw [show i = e from hi], rfl⟩
  | succ j ih =>
    intro i hi
    refine ar_ld i_X7_power_4 rfl rfl ?_
    refine ar_ld i_X7_power_5 rfl rfl ?_
    refine ar_iff i_X7_power_6 rfl (nI_ge (by omega) (by omega)) ?_
    refine ar_ld i_X7_power_9 rfl rfl ?_
    refine ar_ld i_X7_power_10 rfl rfl ?_
    refine ar_gf i_X7_power_11 (h) rfl ?_
    refine ar_ar i_X7_power_14 rfl ?_
    rw [pk_mul, ← Nat.pow_succ]
    refine ar_st i_X7_power_15 rfl rfl ?_
    refine ar_inc i_X7_power_16 rfl rfl ?_
    refine ar_go i_X7_power_19 ?_
    have := ih (i + 1) (by omega)
    rw [← nI_1 i] at this
    exact this
theorem m_spells (d : Nat) {S : aq_S} {kk n num : Nat} {fp : Nat → Int32} {th il err rd tl pc lo cur hs sv : Int32} (h : mO S th (nI kk) il err rd tl pc lo cur hs sv) (hp : ia S 55 40 fp) (hk0 : 0 < kk) (hk : kk ≤ 3) (hn : n ≤ 40) (hnum : num < 2 ^ 31) : aX (d + 1) 175 [.ref 52, .int (nI num), .int (nI n)] S (fun o S' => o = .inl none ∧ (∃ F, ia S' 55 40 F ∧ (∀ i, i < n → F i = nI (num / kk ^ (n - 1 - i) % kk)) ∧ ∀ i, n ≤ i → F i = fp i) ∧ aq_fr S S' (fun q => q = 55)) := by
  refine ar_run (Nat.le_of_ble_eq_true rfl) (fun o S1 h => h.2.2.le) ?_
  suffices key : ∀ i (S1 : aq_S) (F : Nat → Int32), i ≤ n → ia S1 55 40 F → (∀ x, i ≤ x → x < n → F x = nI (num / kk ^ (n - 1 - x) % kk)) → (∀ x, n ≤ x → F x = fp x) → aq_fr S S1 (fun q => q = 55) → aG d 175 (fun o S' => o = .inl none ∧ (∃ F, ia S' 55 40 F ∧ (∀ i, i < n → F i = nI (num / kk ^ (n - 1 - i) % kk)) ∧ ∀ i, n ≤ i → F i = fp i) ∧ aq_fr S S' (fun q => q = 55)) 7 [(0, .ref 52), (1, .int (nI num)), (2, .int (nI n)), (3, .int (nI (num / kk ^ (n - i)))), (4, .int (nI i - 1))] [] S1 by
    have := key n S fp (Nat.le_refl _) hp (fun x h1 h2 => by omega) (fun _ _ => rfl) aq_fr.rf
    rw [Nat.sub_self, Nat.pow_zero, Nat.div_one] at this
    refine ar_ld i_X7_spells_0 rfl rfl ?_
    refine ar_st i_X7_spells_1 rfl rfl ?_
    refine ar_ld i_X7_spells_2 rfl rfl ?_
    refine ar_push i_X7_spells_3 ?_
    refine ar_ar i_X7_spells_4 rfl ?_
    refine ar_st i_X7_spells_5 rfl rfl ?_
    exact this
  intro i
  induction i with
  | zero =>
    intro S1 F hi hF hag hot hfr
    refine ar_ld i_X7_spells_7 rfl rfl ?_
    refine ar_ift i_X7_spells_9 rfl (by decide +kernel) ?_
    exact ar_retv i_X7_spells_38 ⟨rfl, ⟨F, hF, fun x hx => hag x (by omega) hx, hot⟩, hfr⟩
  | succ i ih =>
    intro S1 F hi hF hag hot hfr
    have o1 := h.fr hfr (by omega)
    have hd1 : num / kk ^ (n - (i + 1)) < 2 ^ 31 := Nat.lt_of_le_of_lt (Nat.div_le_self _ _) hnum
    rw [nI_pred]
    refine ar_ld i_X7_spells_7 rfl rfl ?_
    refine ar_iff i_X7_spells_9 rfl (nI_pos (by omega)) ?_
    refine ar_ld i_X7_spells_12 rfl rfl ?_
    refine ar_gf i_X7_spells_13 (o1) rfl ?_
    refine ar_ld i_X7_spells_16 rfl rfl ?_
    refine ar_ld i_X7_spells_18 rfl rfl ?_
    refine ar_ld i_X7_spells_19 rfl rfl ?_
    refine ar_gf i_X7_spells_20 (o1) rfl ?_
    refine ar_arc i_X7_spells_23 rfl (nI_ne0 (by omega) (by omega)) ?_
    rw [pk_rem hd1 hk0 (by omega)]
    refine av_sti i_X7_spells_24 (by omega) (hF) (by omega) (by omega) (fun S2 g2 k2 => ?_)
    have o2 := o1.fr k2 (by omega)
    refine ar_ld i_X7_spells_25 rfl rfl ?_
    refine ar_ld i_X7_spells_26 rfl rfl ?_
    refine ar_gf i_X7_spells_27 (o2) rfl ?_
    refine ar_arc i_X7_spells_30 rfl (nI_ne0 (by omega) (by omega)) ?_
    rw [pk_div hd1 hk0 (by omega), Nat.div_div_eq_div_mul, ← Nat.pow_succ, show (n - (i + 1)).succ = n - i by omega]
    refine ar_st i_X7_spells_31 rfl rfl ?_
    refine ar_inc i_X7_spells_32 rfl rfl ?_
    refine ar_go i_X7_spells_35 ?_
    have := ih S2 _ (by omega) g2 (fun x hx hxn => by
      by_cases e : x = i
      · rw [e, upd_eq, show n - 1 - i = n - (i + 1) by omega]
      · rw [upd_ne e]; exact hag x (by omega) hxn) (fun x hx => by rw [upd_ne (by omega)]; exact hot x hx) (hfr.tr k2)
    rw [Int32.sub_eq_add_neg] at this
    exact this
theorem m_complexity_r (d : Nat) {S : aq_S} {p q : Int32} {th k il err rd tl pc lo cur hs sv : Int32} (h : mO S th k il err rd tl pc lo cur hs sv) (hp : p < 0 ∨ nI 4 ≤ p) : aX (d + 2) 177 [.ref 52, .int p, .int q] S (fun o S' => o = .inl (some (.int 0)) ∧ mO S' (1) k il err rd tl pc lo cur hs sv ∧ aq_fr S S' (fun q => q = 52)) := by
  refine ar_run (Nat.le_of_ble_eq_true rfl) (fun o S1 h => h.2.2.le) ?_
  refine ar_ld i_X7_complexity_0 rfl rfl ?_
  refine ar_cr i_X7_complexity_1 rfl trivial (Nat.le_of_ble_eq_true rfl) (m_isReg_no d hp) ?_
  refine ar_ift i_X7_complexity_4 rfl (rfl) ?_
  refine ar_ld i_X7_complexity_19 rfl rfl ?_
  refine ar_push i_X7_complexity_20 ?_
  refine av_cr i_X7_complexity_21 rfl ⟨_, _, _, rfl, (h)⟩ (Nat.le_of_ble_eq_true rfl) (m_fails d h 1) (fun S1 q1 => ?_)
  exact ar_ret i_X7_complexity_24 rfl ⟨rfl, q1⟩
theorem m_complexity_n (d : Nat) {S : aq_S} {r : Nat} {q : Int32} {th k il err rd tl pc lo cur hs sv : Int32} (h : mO S th k il err rd tl pc lo cur hs sv) (hr : r < 4) (hq : q < 0 ∨ nI 7 ≤ q) : aX (d + 2) 177 [.ref 52, .int (nI r), .int q] S (fun o S' => o = .inl (some (.int 0)) ∧ mO S' (1) k il err rd tl pc lo cur hs sv ∧ aq_fr S S' (fun q => q = 52)) := by
  refine ar_run (Nat.le_of_ble_eq_true rfl) (fun o S1 h => h.2.2.le) ?_
  refine ar_ld i_X7_complexity_0 rfl rfl ?_
  refine ar_cr i_X7_complexity_1 rfl trivial (Nat.le_of_ble_eq_true rfl) (m_isReg d hr) ?_
  refine ar_iff i_X7_complexity_4 rfl (by decide) ?_
  refine ar_ld i_X7_complexity_7 rfl rfl ?_
  refine ar_ar i_X7_complexity_8 rfl ?_
  refine ar_push i_X7_complexity_9 ?_
  refine ar_push i_X7_complexity_10 ?_
  refine ar_cr i_X7_complexity_13 rfl trivial (Nat.le_of_ble_eq_true rfl) (m_isBetween d) ?_
  have e : ¬ ((0 : Int64) ≤ q.toInt64 ∧ q.toInt64 ≤ 6) := fun z => by
    have z1 := (i2l_le (b := 0) (a := 0) (by omega) q).mp z.1
    have z2 := (i2l_ge (a := 6) (by omega) q).mp z.2
    rcases hq with hq | hq
    · exact absurd hq (Int32.not_lt.mpr z1)
    · exact absurd (Int32.le_trans hq z2) (by decide +kernel)
  refine ar_iff i_X7_complexity_16 rfl (fun z => z (bI_f e)) ?_
  refine ar_ld i_X7_complexity_19 rfl rfl ?_
  refine ar_push i_X7_complexity_20 ?_
  refine av_cr i_X7_complexity_21 rfl ⟨_, _, _, rfl, (h)⟩ (Nat.le_of_ble_eq_true rfl) (m_fails d h 1) (fun S1 q1 => ?_)
  exact ar_ret i_X7_complexity_24 rfl ⟨rfl, q1⟩
theorem m_complexity (d : Nat) {S : aq_S} {r n kk : Nat} {th il err rd tl pc lo cur hs sv : Int32} {N : Nat → Nat} {G : Nat → Nat → Int32} (h : mO S th (nI kk) il err rd tl pc lo cur hs sv) (hw : mW S N G) (hp : mP S) (hk0 : 0 < kk) (hk : kk ≤ 3) (hr : r < 4) (hn : n ≤ 6) : aX (d + 3) 177 [.ref 52, .int (nI r), .int (nI n)] S (fun o S' => o = .inl (some (.int (nI (cpx kk n (N r) (G r))))) ∧ (mO S' 0 (nI kk) il err rd tl pc lo cur hs sv ∧ mP S') ∧ aq_fr S S' (fun q => q = 52 ∨ q = 55)) := by
  obtain ⟨fp, w5⟩ := hp
  obtain ⟨fl, fw, w1, w2, w3, w4⟩ := hw
  have hN := (w3 r hr).2
  have hM : kk ^ n ≤ 3 ^ 6 := Nat.le_trans (Nat.pow_le_pow_left hk _) (Nat.pow_le_pow_right (by decide) hn)
  refine ar_run (Nat.le_of_ble_eq_true rfl) (fun o S1 h => h.2.2.le) ?_
  refine ar_ld i_X7_complexity_0 rfl rfl ?_
  refine ar_cr i_X7_complexity_1 rfl trivial (Nat.le_of_ble_eq_true rfl) (m_isReg (d + 1) hr) ?_
  refine ar_iff i_X7_complexity_4 rfl (by decide) ?_
  refine ar_ld i_X7_complexity_7 rfl rfl ?_
  refine ar_ar i_X7_complexity_8 rfl ?_
  refine ar_push i_X7_complexity_9 ?_
  refine ar_push i_X7_complexity_10 ?_
  refine ar_cr i_X7_complexity_13 rfl trivial (Nat.le_of_ble_eq_true rfl) (m_isBetween (d + 1)) ?_
  refine ar_ift i_X7_complexity_16 rfl (bI_nz.mpr ((l_btw (a := 0) (b := 6) (by omega) (by omega) (by omega)).mpr ⟨Nat.zero_le _, hn⟩)) ?_
  refine ar_ld i_X7_complexity_25 rfl rfl ?_
  refine ar_push i_X7_complexity_26 ?_
  refine av_pf i_X7_complexity_27 (h) (Nat.le_of_ble_eq_true rfl) (rfl) rfl (fun S1 g1 k1 => ?_)
  have o1 : mO S1 0 (nI kk) il err rd tl pc lo cur hs sv := g1
  refine ar_push i_X7_complexity_30 ?_
  refine ar_st i_X7_complexity_31 rfl rfl ?_
  refine ar_push i_X7_complexity_32 ?_
  refine ar_st i_X7_complexity_33 rfl rfl ?_
  suffices key : ∀ j num (S1 : aq_S) (F : Nat → Int32) (L5 : List (Nat × Value)), num + j = kk ^ n → (L5 = [] ∨ ∃ u v, L5 = [(5, .int u), (6, .int v)]) → mO S1 0 (nI kk) il err rd tl pc lo cur hs sv → ia S1 53 4 fl → ia S1 54 160 fw → ia S1 55 40 F → aq_fr S S1 (fun q => q = 52 ∨ q = 55) → aG (d + 2) 177 (fun o S' => o = .inl (some (.int (nI (cpx kk n (N r) (G r))))) ∧ (mO S' 0 (nI kk) il err rd tl pc lo cur hs sv ∧ mP S') ∧ aq_fr S S' (fun q => q = 52 ∨ q = 55)) 35 ((0, .ref 52) :: (1, .int (nI r)) :: (2, .int (nI n)) :: (3, .int (nI (cntN (fun num => ∃ i, i + n ≤ N r ∧ ∀ t, t < n → ¬ wdf (nI (num / kk ^ (n - 1 - t) % kk)) (G r (i + t))) num))) :: (4, .int (nI num)) :: L5) [] S1 from key _ 0 S1 fp [] (Nat.zero_add _) (Or.inl rfl) o1 (w1.fr k1 (by omega)) (w2.fr k1 (by omega)) (w5.fr k1 (by omega)) (k1.mono (fun q z => Or.inl z))
  clear k1 g1 o1 S1
  intro j
  induction j with
  | zero =>
    intro num S1 F L5 hj hL o1 u1 u2 u5 hfr
    have e : num = kk ^ n := hj
    refine ar_ld i_X7_complexity_35 rfl rfl ?_
    refine ar_ld i_X7_complexity_37 rfl rfl ?_
    refine ar_ld i_X7_complexity_38 rfl rfl ?_
    refine ar_cr i_X7_complexity_39 rfl ⟨_, _, _, rfl, o1⟩ (Nat.le_of_ble_eq_true rfl) (m_power (d + 1) o1 (show n ≤ 40 by omega)) ?_
    refine ar_ift i_X7_complexity_42 rfl (nI_le (by omega) (by omega)) ?_
    refine ar_ld i_X7_complexity_119 rfl rfl ?_
    exact ar_ret i_X7_complexity_120 rfl ⟨by rw [e]; rfl, ⟨o1, F, u5⟩, hfr⟩
  | succ j ih =>
    intro num S1 F L5 hj hL o1 u1 u2 u5 hfr
    have hlt : num < kk ^ n := by omega
    refine ar_ld i_X7_complexity_35 rfl rfl ?_
    refine ar_ld i_X7_complexity_37 rfl rfl ?_
    refine ar_ld i_X7_complexity_38 rfl rfl ?_
    refine ar_cr i_X7_complexity_39 rfl ⟨_, _, _, rfl, o1⟩ (Nat.le_of_ble_eq_true rfl) (m_power (d + 1) o1 (show n ≤ 40 by omega)) ?_
    refine ar_iff i_X7_complexity_42 rfl (nI_ge hlt (by omega)) ?_
    refine ar_ld i_X7_complexity_45 rfl rfl ?_
    refine ar_ld i_X7_complexity_46 rfl rfl ?_
    refine ar_ld i_X7_complexity_48 rfl rfl ?_
    refine av_cv i_X7_complexity_49 rfl ⟨_, _, _, rfl, o1⟩ (Nat.le_of_ble_eq_true rfl) (m_spells (d + 1) o1 u5 hk0 hk (show n ≤ 40 by omega) (show num < 2 ^ 31 by omega)) (fun S2 q2 => ?_)
    obtain ⟨⟨F2, q5, q6, -⟩, q7⟩ := q2
    have o2 := o1.fr q7 (by omega)
    have v1 := u1.fr q7 (by omega)
    have v2 := u2.fr q7 (by omega)
    have hfr2 := hfr.tr (q7.mono (P' := fun q => q = 52 ∨ q = 55) (fun q z => Or.inr z))
    have at100 : ∀ P : Prop, (P ↔ ∃ i, i + n ≤ N r ∧ ∀ t, t < n → ¬ wdf (nI (num / kk ^ (n - 1 - t) % kk)) (G r (i + t))) → ∀ v, aG (d + 2) 177 (fun o S' => o = .inl (some (.int (nI (cpx kk n (N r) (G r))))) ∧ (mO S' 0 (nI kk) il err rd tl pc lo cur hs sv ∧ mP S') ∧ aq_fr S S' (fun q => q = 52 ∨ q = 55)) 100 [(0, .ref 52), (1, .int (nI r)), (2, .int (nI n)), (3, .int (nI (cntN (fun num => ∃ i, i + n ≤ N r ∧ ∀ t, t < n → ¬ wdf (nI (num / kk ^ (n - 1 - t) % kk)) (G r (i + t))) num))), (4, .int (nI num)), (5, .int (bI P)), (6, .int v)] [] S2 := by
      intro P hP v
      have := ih (num + 1) S2 F2 [(5, .int (bI P)), (6, .int v)] (by omega) (Or.inr ⟨_, _, rfl⟩) o2 v1 v2 q5 hfr2
      rw [← nI_1 num] at this
      by_cases hp : P
      · refine ar_ld i_X7_complexity_100 rfl rfl ?_
        refine ar_ld i_X7_complexity_101 rfl rfl ?_
        refine ar_iff i_X7_complexity_103 rfl (fun z => bI_nz.mpr hp z) ?_
        refine ar_push i_X7_complexity_106 ?_
        refine ar_go i_X7_complexity_107 ?_
        refine ar_ar i_X7_complexity_111 rfl ?_
        rw [nI_1]
        refine ar_st i_X7_complexity_112 rfl rfl ?_
        refine ar_inc i_X7_complexity_113 rfl rfl ?_
        refine ar_go i_X7_complexity_116 ?_
        rw [cntN_y (p := fun num => ∃ i, i + n ≤ N r ∧ ∀ t, t < n → ¬ wdf (nI (num / kk ^ (n - 1 - t) % kk)) (G r (i + t))) (hP.mp hp)] at this
        exact this
      · refine ar_ld i_X7_complexity_100 rfl rfl ?_
        refine ar_ld i_X7_complexity_101 rfl rfl ?_
        refine ar_ift i_X7_complexity_103 rfl (bI_f hp) ?_
        refine ar_push i_X7_complexity_110 ?_
        refine ar_ar i_X7_complexity_111 rfl ?_
        rw [Int32.add_zero]
        refine ar_st i_X7_complexity_112 rfl rfl ?_
        refine ar_inc i_X7_complexity_113 rfl rfl ?_
        refine ar_go i_X7_complexity_116 ?_
        rw [cntN_n (p := fun num => ∃ i, i + n ≤ N r ∧ ∀ t, t < n → ¬ wdf (nI (num / kk ^ (n - 1 - t) % kk)) (G r (i + t))) (fun z => hp (hP.mpr z))] at this
        exact this
    have loop : ∀ b i, N r + 1 ≤ i + b → i ≤ 41 → (∀ x, x < i → x + n ≤ N r → ¬ ∀ t, t < n → ¬ wdf (nI (num / kk ^ (n - 1 - t) % kk)) (G r (x + t))) → aG (d + 2) 177 (fun o S' => o = .inl (some (.int (nI (cpx kk n (N r) (G r))))) ∧ (mO S' 0 (nI kk) il err rd tl pc lo cur hs sv ∧ mP S') ∧ aq_fr S S' (fun q => q = 52 ∨ q = 55)) 58 [(0, .ref 52), (1, .int (nI r)), (2, .int (nI n)), (3, .int (nI (cntN (fun num => ∃ i, i + n ≤ N r ∧ ∀ t, t < n → ¬ wdf (nI (num / kk ^ (n - 1 - t) % kk)) (G r (i + t))) num))), (4, .int (nI num)), (5, .int 0), (6, .int (nI i))] [] S2 := by
      have fin : ∀ i, N r < i + n → i ≤ 41 → (∀ x, x < i → x + n ≤ N r → ¬ ∀ t, t < n → ¬ wdf (nI (num / kk ^ (n - 1 - t) % kk)) (G r (x + t))) → aG (d + 2) 177 (fun o S' => o = .inl (some (.int (nI (cpx kk n (N r) (G r))))) ∧ (mO S' 0 (nI kk) il err rd tl pc lo cur hs sv ∧ mP S') ∧ aq_fr S S' (fun q => q = 52 ∨ q = 55)) 58 [(0, .ref 52), (1, .int (nI r)), (2, .int (nI n)), (3, .int (nI (cntN (fun num => ∃ i, i + n ≤ N r ∧ ∀ t, t < n → ¬ wdf (nI (num / kk ^ (n - 1 - t) % kk)) (G r (i + t))) num))), (4, .int (nI num)), (5, .int 0), (6, .int (nI i))] [] S2 := by
        intro i hi h41 hag
        refine ar_ld i_X7_complexity_58 rfl rfl ?_
        refine ar_ld i_X7_complexity_60 rfl rfl ?_
        refine ar_ar i_X7_complexity_61 rfl ?_
        rw [nI_add]
        refine ar_ld i_X7_complexity_62 rfl rfl ?_
        refine ar_gf i_X7_complexity_63 (o2) rfl ?_
        refine ar_ld i_X7_complexity_66 rfl rfl ?_
        refine av_ldi i_X7_complexity_67 (v1) (by omega) (by omega) ?_
        rw [(w3 r hr).1]
        refine ar_ift i_X7_complexity_68 rfl (nI_lt hi (by omega)) ?_
        have := at100 False ⟨fun z => z.elim, fun ⟨x, hx, z⟩ => hag x (by omega) hx z⟩ (nI i)
        rw [bI_f (fun z : False => z)] at this
        exact this
      intro b
      induction b with
      | zero =>
        intro i hb h41 hag
        exact fin i (by omega) h41 hag
      | succ b ihb =>
        intro i hb h41 hag
        by_cases hi : N r < i + n
        · exact fin i hi h41 hag
        · refine ar_ld i_X7_complexity_58 rfl rfl ?_
          refine ar_ld i_X7_complexity_60 rfl rfl ?_
          refine ar_ar i_X7_complexity_61 rfl ?_
          rw [nI_add]
          refine ar_ld i_X7_complexity_62 rfl rfl ?_
          refine ar_gf i_X7_complexity_63 (o2) rfl ?_
          refine ar_ld i_X7_complexity_66 rfl rfl ?_
          refine av_ldi i_X7_complexity_67 (v1) (by omega) (by omega) ?_
          rw [(w3 r hr).1]
          refine ar_iff i_X7_complexity_68 rfl (nI_nlt (show i + n ≤ N r by omega) (by omega)) ?_
          refine ar_ld i_X7_complexity_71 rfl rfl ?_
          refine ar_iff i_X7_complexity_73 rfl (fun z => z rfl) ?_
          refine ar_ld i_X7_complexity_76 rfl rfl ?_
          refine ar_ld i_X7_complexity_77 rfl rfl ?_
          refine ar_gf i_X7_complexity_78 (o2) rfl ?_
          refine ar_push i_X7_complexity_81 ?_
          rw [show (40 : Int32) = nI 40 from rfl]
          refine ar_ld i_X7_complexity_83 rfl rfl ?_
          refine ar_ar i_X7_complexity_84 rfl ?_
          rw [pk_mul]
          refine ar_ld i_X7_complexity_85 rfl rfl ?_
          refine ar_ar i_X7_complexity_87 rfl ?_
          rw [nI_add]
          refine ar_ld i_X7_complexity_88 rfl rfl ?_
          refine ar_cr i_X7_complexity_89 rfl ⟨_, _, _, rfl, o2⟩ (Nat.le_of_ble_eq_true rfl) (m_isFactor d o2 q5 v2 (from' := 40 * r + i) (n := n) (by omega) (by omega) (by omega)) ?_
          have hff : (∀ t, t < n → ¬ wdf (F2 t) (fw (40 * r + i + t))) ↔ (∀ t, t < n → ¬ wdf (nI (num / kk ^ (n - 1 - t) % kk)) (G r (i + t))) := by
            refine forall_congr' fun t => ?_
            refine ⟨fun z ht => ?_, fun z ht => ?_⟩
            · have := z ht
              rw [q6 t ht, Nat.add_assoc, w4 r hr (i + t) (by omega)] at this
              exact this
            · rw [q6 t ht, Nat.add_assoc, w4 r hr (i + t) (by omega)]
              exact z ht
          rw [bI_cg hff]
          refine ar_st i_X7_complexity_92 rfl rfl ?_
          refine ar_inc i_X7_complexity_94 rfl rfl ?_
          refine ar_go i_X7_complexity_97 ?_
          by_cases hf : ∀ t, t < n → ¬ wdf (nI (num / kk ^ (n - 1 - t) % kk)) (G r (i + t))
          · rw [bI_t hf, nI_1 i]
            have h100 := at100 True ⟨fun _ => ⟨i, by omega, hf⟩, fun _ => trivial⟩ (nI (i + 1))
            rw [bI_t trivial] at h100
            refine ar_ld i_X7_complexity_58 rfl rfl ?_
            refine ar_ld i_X7_complexity_60 rfl rfl ?_
            refine ar_ar i_X7_complexity_61 rfl ?_
            rw [nI_add]
            refine ar_ld i_X7_complexity_62 rfl rfl ?_
            refine ar_gf i_X7_complexity_63 (o2) rfl ?_
            refine ar_ld i_X7_complexity_66 rfl rfl ?_
            refine av_ldi i_X7_complexity_67 (v1) (by omega) (by omega) ?_
            rw [(w3 r hr).1]
            by_cases hi2 : N r < i + 1 + n
            · refine ar_ift i_X7_complexity_68 rfl (nI_lt hi2 (by omega)) ?_
              exact h100
            · refine ar_iff i_X7_complexity_68 rfl (nI_nlt (show i + 1 + n ≤ N r by omega) (by omega)) ?_
              refine ar_ld i_X7_complexity_71 rfl rfl ?_
              refine ar_ift i_X7_complexity_73 rfl (by decide) ?_
              exact h100
          · rw [bI_f hf, nI_1 i]
            exact ihb (i + 1) (by omega) (by omega) (fun x hx hxn => by
              by_cases e : x = i
              · rw [e]; exact hf
              · exact hag x (by omega) hxn)
    have start := loop (N r + 1) 0 (by omega) (by omega) (fun x hx => absurd hx (Nat.not_lt_zero x))
    rcases hL with e | ⟨u, v, e⟩
    · subst e
      refine ar_push i_X7_complexity_52 ?_
      refine ar_st i_X7_complexity_53 rfl rfl ?_
      refine ar_push i_X7_complexity_55 ?_
      refine ar_st i_X7_complexity_56 rfl rfl ?_
      exact start
    · subst e
      refine ar_push i_X7_complexity_52 ?_
      refine ar_st i_X7_complexity_53 rfl rfl ?_
      refine ar_push i_X7_complexity_55 ?_
      refine ar_st i_X7_complexity_56 rfl rfl ?_
      exact start
end
