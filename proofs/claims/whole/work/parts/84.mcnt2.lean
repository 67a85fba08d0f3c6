/-! ===== the reference: short words, countAvoiding ===== -/
section
theorem cntN_pt {P : Nat → Prop} {v : Nat} : ∀ M, v < M → cntN (fun m => P m ∧ m = v) M = pif (P v) 1 0
  | 0, h => absurd h (Nat.not_lt_zero v)
  | M + 1, h => by
    show cntN (fun m => P m ∧ m = v) M + pif (P M ∧ M = v) 1 0 = _
    by_cases e : v = M
    · subst e
      rw [cntN_no v (fun i hi z => by omega), Nat.zero_add]
      exact pif_cg ⟨fun z => z.1, fun z => ⟨z, rfl⟩⟩
    · rw [cntN_pt M (by omega), pif_f (P := P M ∧ M = v) (fun z => e z.2.symm), Nat.add_zero]
/-- the ways to the nodes: the words of n letters that end there -/
noncomputable def wR (lo : Int32) (k c : Nat) (pn : Nat → Nat) (pg : Nat → Nat → Int32) (n v : Nat) : Nat := cntN (fun m => avP lo k c pn pg n m ∧ m % k ^ 4 = v) (k ^ n)
theorem wR_4 {lo : Int32} {k c v : Nat} {pn : Nat → Nat} {pg : Nat → Nat → Int32} (hv : v < k ^ 4) : wR lo k c pn pg 4 v = pif (avP lo k c pn pg 4 v) 1 0 := by
  unfold wR
  rw [cntN_cg (q := fun m => avP lo k c pn pg 4 m ∧ m = v) _ (fun m hm => by rw [Nat.mod_eq_of_lt hm])]
  exact cntN_pt _ hv
theorem tgR_iff {lo : Int32} {k c : Nat} {pn : Nat → Nat} {pg : Nat → Nat → Int32} (h : pOk c pn pg) {n m a t : Nat} (hn : 4 ≤ n) (ha : a < k) : (avP lo k c pn pg (n + 1) (m * k + a) ∧ (m * k + a) % k ^ 4 = t) ↔ (avP lo k c pn pg n m ∧ tgR lo k c pn pg (m % k ^ 4) a = some t) := by
  have hk : 0 < k := by omega
  have e1 : (m % k ^ 4 * k + a) % k ^ 4 = (m * k + a) % k ^ 4 := by
    rw [← modmul ha (n := 4), Nat.mod_mod_of_dvd _ (show k ^ 4 ∣ k ^ (4 + 1) from ⟨k, Nat.pow_succ k 4⟩)]
  have e2 := avP_step (lo := lo) h (n := n) (m := m) ha
  have e3 := avP_step (lo := lo) h (n := 4) (m := m % k ^ 4) ha
  rw [show min n 4 = 4 by omega] at e2
  rw [show min 4 4 = 4 from rfl, Nat.mod_mod] at e3
  rw [e2]
  unfold tgR
  by_cases hal : alP lo k c pn pg 4 (m % k ^ 4) a
  · refine ⟨fun z => ⟨z.1.1, ?_⟩, fun z => ?_⟩
    · rw [pif_t (e3.mpr ⟨avP_tail hk hn z.1.1, hal⟩), e1, z.2]
    · rw [pif_t (e3.mpr ⟨avP_tail hk hn z.1, hal⟩), e1] at z
      exact ⟨⟨z.1, hal⟩, Option.some.inj z.2⟩
  · refine ⟨fun z => absurd z.1.2 hal, fun z => ?_⟩
    rw [pif_f (fun y => hal (e3.mp y).2)] at z
    cases z.2
theorem wR_step {lo : Int32} {k c : Nat} {pn : Nat → Nat} {pg : Nat → Nat → Int32} (h : pOk c pn pg) (hk : 0 < k) {n : Nat} (hn : 4 ≤ n) {W : Nat → Nat} (hW : ∀ v, v < k ^ 4 → W v = wR lo k c pn pg n v) (t : Nat) : gW lo k c pn pg W t = wR lo k c pn pg (n + 1) t :=
  (dp_step (P := fun m => avP lo k c pn pg n m) (f := fun m => m % k ^ 4) hW (fun m _ _ => Nat.mod_lt _ (Nat.pow_pos hk)) (fun m a _ ha => tgR_iff h hn ha)).symm
theorem wR_tot {lo : Int32} {k c : Nat} {pn : Nat → Nat} {pg : Nat → Nat → Int32} (hk : 0 < k) (n : Nat) : sumN (wR lo k c pn pg n) (k ^ 4) = acnt lo k c pn pg n := cnt_total _ (fun m => m % k ^ 4) _ _ (fun m _ _ => Nat.mod_lt _ (Nat.pow_pos hk))
theorem m_shortOnes (d : Nat) {S : aq_S} {kk c n : Nat} {fp : Nat → Int32} {pn : Nat → Nat} {pg : Nat → Nat → Int32} {th il err rd tl lo cur hs sv : Int32} (h : mO S th (nI kk) il err rd tl (nI c) lo cur hs sv) (hp : mPt S c pn pg) (hpk : pOk c pn pg) (w5 : ia S 55 40 fp) (hk0 : 0 < kk) (hk : kk ≤ 3) (hn : n ≤ 4) : aX (d + 3) 188 [.ref 52, .int (nI n)] S (fun o S' => o = .inl (some (.int (nI (acnt lo kk c pn pg n)))) ∧ (∃ F, ia S' 55 40 F) ∧ aq_fr S S' (fun q => q = 55)) := by
  have hM : kk ^ n ≤ 81 := Nat.le_trans (Nat.pow_le_pow_right hk0 hn) (pw4 kk (by omega))
  refine ar_run (Nat.le_of_ble_eq_true rfl) (fun o S1 h => h.2.2.le) ?_
  refine ar_push i_X7_shortOnes_0 ?_
  refine ar_st i_X7_shortOnes_1 rfl rfl ?_
  refine ar_push i_X7_shortOnes_2 ?_
  refine ar_st i_X7_shortOnes_3 rfl rfl ?_
  suffices key : ∀ j m (S1 : aq_S) (F : Nat → Int32), m + j = kk ^ n → mO S1 th (nI kk) il err rd tl (nI c) lo cur hs sv → mPt S1 c pn pg → ia S1 55 40 F → aq_fr S S1 (fun q => q = 55) → aG (d + 2) 188 (fun o S' => o = .inl (some (.int (nI (acnt lo kk c pn pg n)))) ∧ (∃ F, ia S' 55 40 F) ∧ aq_fr S S' (fun q => q = 55)) 4 [(0, .ref 52), (1, .int (nI n)), (2, .int (nI (cntN (fun m => avP lo kk c pn pg n m) m))), (3, .int (nI m))] [] S1 from key _ 0 S fp (Nat.zero_add _) h hp w5 aq_fr.rf
  intro j
  induction j with
  | zero =>
    intro m S1 F hm o1 p1 u5 hfr
    have em : m = kk ^ n := hm
    subst em
    refine ar_ld i_X7_shortOnes_4 rfl rfl ?_
    refine ar_ld i_X7_shortOnes_5 rfl rfl ?_
    refine ar_ld i_X7_shortOnes_6 rfl rfl ?_
    refine ar_cr i_X7_shortOnes_7 rfl ⟨_, _, _, rfl, o1⟩ (Nat.le_of_ble_eq_true rfl) (m_power (d + 1) o1 (show n ≤ 40 by omega)) ?_
    refine ar_ift i_X7_shortOnes_10 rfl (nI_le (Nat.le_refl _) (by omega)) ?_
    refine ar_ld i_X7_shortOnes_46 rfl rfl ?_
    exact ar_ret i_X7_shortOnes_47 rfl ⟨rfl, ⟨F, u5⟩, hfr⟩
  | succ j ih =>
    intro m S1 F hm o1 p1 u5 hfr
    refine ar_ld i_X7_shortOnes_4 rfl rfl ?_
    refine ar_ld i_X7_shortOnes_5 rfl rfl ?_
    refine ar_ld i_X7_shortOnes_6 rfl rfl ?_
    refine ar_cr i_X7_shortOnes_7 rfl ⟨_, _, _, rfl, o1⟩ (Nat.le_of_ble_eq_true rfl) (m_power (d + 1) o1 (show n ≤ 40 by omega)) ?_
    refine ar_iff i_X7_shortOnes_10 rfl (nI_ge (show m < kk ^ n by omega) (by omega)) ?_
    refine ar_ld i_X7_shortOnes_13 rfl rfl ?_
    refine ar_ld i_X7_shortOnes_14 rfl rfl ?_
    refine ar_ld i_X7_shortOnes_15 rfl rfl ?_
    refine av_cv i_X7_shortOnes_16 rfl ⟨_, _, _, rfl, o1⟩ (Nat.le_of_ble_eq_true rfl) (m_spells (d + 1) o1 u5 hk0 hk (show n ≤ 40 by omega) (show m < 2 ^ 31 by omega)) (fun S2 q2 => ?_)
    obtain ⟨⟨F2, q5, q6, -⟩, k2⟩ := q2
    have o2 := o1.fr k2 (by omega)
    have p2 := p1.fr k2 (by omega) (by omega)
    refine ar_ld i_X7_shortOnes_19 rfl rfl ?_
    refine ar_ld i_X7_shortOnes_20 rfl rfl ?_
    refine ar_ld i_X7_shortOnes_21 rfl rfl ?_
    refine ar_gf i_X7_shortOnes_22 (o2) rfl ?_
    refine ar_push i_X7_shortOnes_25 ?_
    refine ar_ld i_X7_shortOnes_26 rfl rfl ?_
    refine ar_cr i_X7_shortOnes_27 rfl ⟨_, _, _, rfl, o2⟩ (Nat.le_of_ble_eq_true rfl) (m_doesAvoid d o2 p2 hpk q5 (from' := 0) (n := n) (f := wlet kk n m) (by omega) (by omega) (fun i hi => by rw [Nat.zero_add]; exact q6 i hi)) ?_
    have := ih (m + 1) S2 F2 (by omega) o2 p2 q5 (hfr.tr k2)
    by_cases hav : avP lo kk c pn pg n m
    · refine ar_iff i_X7_shortOnes_30 rfl (fun z => bI_nz.mpr hav z) ?_
      refine ar_push i_X7_shortOnes_33 ?_
      refine ar_go i_X7_shortOnes_34 ?_
      refine ar_ar i_X7_shortOnes_38 rfl ?_
      rw [nI_1]
      refine ar_st i_X7_shortOnes_39 rfl rfl ?_
      refine ar_inc i_X7_shortOnes_40 rfl rfl ?_
      refine ar_go i_X7_shortOnes_43 ?_
      rw [nI_1]
      rw [cntN_y (p := fun m => avP lo kk c pn pg n m) hav] at this
      exact this
    · refine ar_ift i_X7_shortOnes_30 rfl (bI_f hav) ?_
      refine ar_push i_X7_shortOnes_37 ?_
      refine ar_ar i_X7_shortOnes_38 rfl ?_
      rw [Int32.add_zero]
      refine ar_st i_X7_shortOnes_39 rfl rfl ?_
      refine ar_inc i_X7_shortOnes_40 rfl rfl ?_
      refine ar_go i_X7_shortOnes_43 ?_
      rw [nI_1]
      rw [cntN_n (p := fun m => avP lo kk c pn pg n m) hav] at this
      exact this
theorem m_begins (d : Nat) {S : aq_S} {kk c : Nat} {fp : Nat → Int32} {pn : Nat → Nat} {pg : Nat → Nat → Int32} {th il err rd tl lo cur hs sv : Int32} (h : mO S th (nI kk) il err rd tl (nI c) lo cur hs sv) (hp : mPt S c pn pg) (hpk : pOk c pn pg) (w5 : ia S 55 40 fp) {n0 e0 : Nat → Int32} {w0 : Nat → Int64} (r1 : ba S 60 81 n0) (r2 : ba S 61 243 e0) (r3 : la S 62 81 w0) (hk0 : 0 < kk) (hk : kk ≤ 3) : aX (d + 4) 189 [.ref 52] S (fun o S' => o = .inl none ∧ ((∃ fn, ba S' 60 81 fn) ∧ (∃ fe, ba S' 61 243 fe ∧ ∀ v, v < kk ^ 4 → ∀ a, a < kk → fe (3 * v + a) = bI (avP lo kk c pn pg 5 (v * kk + a))) ∧ (∃ F, ia S' 55 40 F) ∧ ∃ w, la S' 62 81 w ∧ ∀ v, v < kk ^ 4 → w v = lN (wR lo kk c pn pg 4 v)) ∧ aq_fr S S' (fun q => q = 55 ∨ q = 60 ∨ q = 61 ∨ q = 62)) := by
  have h4 := pw4 kk (by omega)
  refine ar_run (Nat.le_of_ble_eq_true rfl) (fun o S1 h => h.2.2.le) ?_
  refine ar_ld i_X7_begins_0 rfl rfl ?_
  refine av_cv i_X7_begins_1 rfl ⟨_, _, _, rfl, h⟩ (Nat.le_of_ble_eq_true rfl) (m_findGraph d h hp hpk w5 r1 r2 hk0 hk) (fun S1 q1 => ?_)
  obtain ⟨⟨⟨fn, f1, f2⟩, ⟨fe, f3, f4⟩, F, f5⟩, k1⟩ := q1
  refine ar_push i_X7_begins_4 ?_
  refine ar_st i_X7_begins_5 rfl rfl ?_
  suffices key : ∀ j v (S1 : aq_S) (w : Nat → Int64), v + j = kk ^ 4 → mO S1 th (nI kk) il err rd tl (nI c) lo cur hs sv → ba S1 60 81 fn → ba S1 61 243 fe → ia S1 55 40 F → la S1 62 81 w → (∀ x, x < v → w x = lN (wR lo kk c pn pg 4 x)) → aq_fr S S1 (fun q => q = 55 ∨ q = 60 ∨ q = 61 ∨ q = 62) → aG (d + 3) 189 (fun o S' => o = .inl none ∧ ((∃ fn, ba S' 60 81 fn) ∧ (∃ fe, ba S' 61 243 fe ∧ ∀ v, v < kk ^ 4 → ∀ a, a < kk → fe (3 * v + a) = bI (avP lo kk c pn pg 5 (v * kk + a))) ∧ (∃ F, ia S' 55 40 F) ∧ ∃ w, la S' 62 81 w ∧ ∀ v, v < kk ^ 4 → w v = lN (wR lo kk c pn pg 4 v)) ∧ aq_fr S S' (fun q => q = 55 ∨ q = 60 ∨ q = 61 ∨ q = 62)) 6 [(0, .ref 52), (1, .int (nI v))] [] S1 from key _ 0 S1 w0 (Nat.zero_add _) (h.fr k1 (by omega)) f1 f3 f5 (r3.fr k1 (by omega)) (fun x hx => absurd hx (Nat.not_lt_zero x)) (k1.mono (fun q z => by omega))
  clear f1 f3 f5 k1 S1
  intro j
  induction j with
  | zero =>
    intro v S1 w hv o1 f1 f3 f5 r3 hag hfr
    have ev : v = kk ^ 4 := hv
    subst ev
    refine ar_ld i_X7_begins_6 rfl rfl ?_
    refine ar_ld i_X7_begins_7 rfl rfl ?_
    refine ar_cr i_X7_begins_8 rfl ⟨_, _, _, rfl, o1⟩ (Nat.le_of_ble_eq_true rfl) (m_nodes (d + 1) o1) ?_
    refine ar_ift i_X7_begins_11 rfl (nI_le (Nat.le_refl _) (by omega)) ?_
    exact ar_retv i_X7_begins_40 ⟨rfl, ⟨⟨fn, f1⟩, ⟨fe, f3, f4⟩, ⟨F, f5⟩, w, r3, hag⟩, hfr⟩
  | succ j ih =>
    intro v S1 w hv o1 f1 f3 f5 r3 hag hfr
    have hvk : v < kk ^ 4 := by omega
    have fin : ∀ x, x = lN (wR lo kk c pn pg 4 v) → aG (d + 3) 189 (fun o S' => o = .inl none ∧ ((∃ fn, ba S' 60 81 fn) ∧ (∃ fe, ba S' 61 243 fe ∧ ∀ v, v < kk ^ 4 → ∀ a, a < kk → fe (3 * v + a) = bI (avP lo kk c pn pg 5 (v * kk + a))) ∧ (∃ F, ia S' 55 40 F) ∧ ∃ w, la S' 62 81 w ∧ ∀ v, v < kk ^ 4 → w v = lN (wR lo kk c pn pg 4 v)) ∧ aq_fr S S' (fun q => q = 55 ∨ q = 60 ∨ q = 61 ∨ q = 62)) 33 [(0, .ref 52), (1, .int (nI v))] [.long x, .int (nI v), .ref 62] S1 := by
      intro x hx
      refine av_stl i_X7_begins_33 (by omega) (r3) (by omega) (by omega) (fun S2 g2 k2 => ?_)
      refine ar_inc i_X7_begins_34 rfl rfl ?_
      refine ar_go i_X7_begins_37 ?_
      rw [nI_1]
      exact ih (v + 1) S2 _ (by omega) (o1.fr k2 (by omega)) (f1.fr k2 (by omega)) (f3.fr k2 (by omega)) (f5.fr k2 (by omega)) g2 (fun y hy => by
        by_cases e : y = v
        · rw [e, vp_updL_eq]; exact hx
        · rw [vp_updL_ne e]; exact hag y (by omega)) (hfr.tr (k2.mono (fun q z => by omega)))
    refine ar_ld i_X7_begins_6 rfl rfl ?_
    refine ar_ld i_X7_begins_7 rfl rfl ?_
    refine ar_cr i_X7_begins_8 rfl ⟨_, _, _, rfl, o1⟩ (Nat.le_of_ble_eq_true rfl) (m_nodes (d + 1) o1) ?_
    refine ar_iff i_X7_begins_11 rfl (nI_ge hvk (by omega)) ?_
    refine ar_ld i_X7_begins_14 rfl rfl ?_
    refine ar_gf i_X7_begins_15 (o1) rfl ?_
    refine ar_ld i_X7_begins_18 rfl rfl ?_
    refine ar_ld i_X7_begins_19 rfl rfl ?_
    refine ar_gf i_X7_begins_20 (o1) rfl ?_
    refine ar_ld i_X7_begins_23 rfl rfl ?_
    refine av_ldi i_X7_begins_24 (f1) (by omega) (by omega) ?_
    rw [f2 v hvk]
    by_cases hav : avP lo kk c pn pg 4 v
    · refine ar_iff i_X7_begins_25 rfl (fun z => bI_nz.mpr hav z) ?_
      refine ar_push i_X7_begins_28 ?_
      refine ar_go i_X7_begins_29 ?_
      exact fin 1 (by rw [wR_4 hvk, pif_t hav]; rfl)
    · refine ar_ift i_X7_begins_25 rfl (bI_f hav) ?_
      refine ar_push i_X7_begins_32 ?_
      exact fin 0 (by rw [wR_4 hvk, pif_f hav]; rfl)
theorem acnt_le {lo : Int32} {k c n : Nat} {pn : Nat → Nat} {pg : Nat → Nat → Int32} : acnt lo k c pn pg n ≤ k ^ n := cntN_le _ _
theorem m_countAvoiding_n (d : Nat) {S : aq_S} {n : Int32} {th k il err rd tl pc lo cur hs sv : Int32} (h : mO S th k il err rd tl pc lo cur hs sv) (hn : n < 0 ∨ nI 31 ≤ n) : aX (d + 2) 194 [.ref 52, .int n] S (fun o S' => o = .inl (some (.long 0)) ∧ mO S' (1) k il err rd tl pc lo cur hs sv ∧ aq_fr S S' (fun q => q = 52)) := by
  refine ar_run (Nat.le_of_ble_eq_true rfl) (fun o S1 h => h.2.2.le) ?_
  have e : ¬ ((0 : Int64) ≤ n.toInt64 ∧ n.toInt64 ≤ 30) := fun z => by
    have z1 := (i2l_le (b := 0) (a := 0) (by omega) n).mp z.1
    have z2 := (i2l_ge (a := 30) (by omega) n).mp z.2
    rcases hn with hn | hn
    · exact absurd hn (Int32.not_lt.mpr z1)
    · exact absurd (Int32.le_trans hn z2) (by decide +kernel)
  refine ar_ld i_X7_countAvoiding_0 rfl rfl ?_
  refine ar_ar i_X7_countAvoiding_1 rfl ?_
  refine ar_push i_X7_countAvoiding_2 ?_
  refine ar_push i_X7_countAvoiding_3 ?_
  refine ar_cr i_X7_countAvoiding_6 rfl trivial (Nat.le_of_ble_eq_true rfl) (m_isBetween d) ?_
  refine ar_iff i_X7_countAvoiding_9 rfl (fun z => z (bI_f e)) ?_
  refine ar_ld i_X7_countAvoiding_12 rfl rfl ?_
  refine ar_push i_X7_countAvoiding_13 ?_
  refine av_cr i_X7_countAvoiding_14 rfl ⟨_, _, _, rfl, (h)⟩ (Nat.le_of_ble_eq_true rfl) (m_fails d h 1) (fun S1 q1 => ?_)
  refine ar_ar i_X7_countAvoiding_17 rfl ?_
  exact ar_ret i_X7_countAvoiding_18 rfl ⟨rfl, q1⟩
theorem m_countAvoiding (d : Nat) {S : aq_S} {kk c n : Nat} {pn : Nat → Nat} {pg : Nat → Nat → Int32} {th il err rd tl lo cur hs sv : Int32} (h : mO S th (nI kk) il err rd tl (nI c) lo cur hs sv) (hp : mPt S c pn pg) (hpk : pOk c pn pg) (w5 : mP S) (hG : mGr S) (hk0 : 0 < kk) (hk : kk ≤ 3) (hn : n ≤ 30) : aX (d + 5) 194 [.ref 52, .int (nI n)] S (fun o S' => o = .inl (some (.long (lN (acnt lo kk c pn pg n)))) ∧ (mO S' 0 (nI kk) il err rd tl (nI c) lo cur hs sv ∧ mP S' ∧ mGr S') ∧ aq_fr S S' (fun q => q = 52 ∨ q = 55 ∨ (60 ≤ q ∧ q ≤ 63))) := by
  obtain ⟨fp, u5⟩ := w5
  have h4 := pw4 kk (by omega)
  have hG0 := hG
  obtain ⟨⟨n0, r1⟩, ⟨e0, r2⟩, ⟨w0, r3⟩, ⟨nw, r4⟩, ⟨d0, r5⟩, ⟨c0, r6⟩, b0, r7⟩ := hG
  refine ar_run (Nat.le_of_ble_eq_true rfl) (fun o S1 h => h.2.2.le) ?_
  refine ar_ld i_X7_countAvoiding_0 rfl rfl ?_
  refine ar_ar i_X7_countAvoiding_1 rfl ?_
  refine ar_push i_X7_countAvoiding_2 ?_
  refine ar_push i_X7_countAvoiding_3 ?_
  refine ar_cr i_X7_countAvoiding_6 rfl trivial (Nat.le_of_ble_eq_true rfl) (m_isBetween (d + 3)) ?_
  refine ar_ift i_X7_countAvoiding_9 rfl (bI_nz.mpr ((l_btw (a := 0) (b := 30) (by omega) (by omega) (by omega)).mpr ⟨Nat.zero_le _, hn⟩)) ?_
  refine ar_ld i_X7_countAvoiding_19 rfl rfl ?_
  refine ar_push i_X7_countAvoiding_20 ?_
  refine av_pf i_X7_countAvoiding_21 (h) (Nat.le_of_ble_eq_true rfl) (rfl) rfl (fun S1 g1 k1 => ?_)
  have o1 : mO S1 0 (nI kk) il err rd tl (nI c) lo cur hs sv := g1
  have p1 := hp.fr k1 (by omega) (by omega)
  have v5 := u5.fr k1 (by omega)
  refine ar_ld i_X7_countAvoiding_24 rfl rfl ?_
  refine ar_push i_X7_countAvoiding_25 ?_
  by_cases hn4 : n ≤ 4
  · refine ar_iff i_X7_countAvoiding_26 rfl (nI_nlt (a := 4) hn4 (by omega)) ?_
    refine ar_ld i_X7_countAvoiding_29 rfl rfl ?_
    refine ar_ld i_X7_countAvoiding_30 rfl rfl ?_
    refine av_cr i_X7_countAvoiding_31 rfl ⟨_, _, _, rfl, o1⟩ (Nat.le_of_ble_eq_true rfl) (m_shortOnes (d + 1) o1 p1 hpk v5 hk0 hk hn4) (fun S2 q2 => ?_)
    obtain ⟨⟨F, f5⟩, k2⟩ := q2
    have hle : acnt lo kk c pn pg n ≤ 81 := Nat.le_trans acnt_le (Nat.le_trans (Nat.pow_le_pow_right hk0 hn4) h4)
    refine ar_ar i_X7_countAvoiding_34 rfl ?_
    rw [nI_l (by omega)]
    exact ar_ret i_X7_countAvoiding_35 rfl ⟨rfl, ⟨o1.fr k2 (by omega), ⟨F, f5⟩, ⟨n0, (r1.fr k1 (by omega)).fr k2 (by omega)⟩, ⟨e0, (r2.fr k1 (by omega)).fr k2 (by omega)⟩, ⟨w0, (r3.fr k1 (by omega)).fr k2 (by omega)⟩, ⟨nw, (r4.fr k1 (by omega)).fr k2 (by omega)⟩, ⟨d0, (r5.fr k1 (by omega)).fr k2 (by omega)⟩, ⟨c0, (r6.fr k1 (by omega)).fr k2 (by omega)⟩, b0, (r7.fr k1 (by omega)).fr k2 (by omega)⟩, (k1.mono (fun q z => by omega)).tr (k2.mono (fun q z => by omega))⟩
  · refine ar_ift i_X7_countAvoiding_26 rfl (nI_lt (a := 4) (by omega) (by omega)) ?_
    refine ar_ld i_X7_countAvoiding_36 rfl rfl ?_
    refine av_cv i_X7_countAvoiding_37 rfl ⟨_, _, _, rfl, o1⟩ (Nat.le_of_ble_eq_true rfl) (m_begins d o1 p1 hpk v5 (r1.fr k1 (by omega)) (r2.fr k1 (by omega)) (r3.fr k1 (by omega)) hk0 hk) (fun S2 q2 => ?_)
    obtain ⟨⟨⟨fn, f1⟩, ⟨fe, f2, f3⟩, ⟨F, f4⟩, w, f5, f6⟩, k2⟩ := q2
    refine ar_push i_X7_countAvoiding_40 ?_
    refine ar_st i_X7_countAvoiding_41 rfl rfl ?_
    refine ar_push i_X7_countAvoiding_42 ?_
    refine ar_st i_X7_countAvoiding_43 rfl rfl ?_
    have hfr2 : aq_fr S S2 (fun q => q = 52 ∨ q = 55 ∨ (60 ≤ q ∧ q ≤ 63)) := (k1.mono (fun q z => by omega)).tr (k2.mono (fun q z => by omega))
    suffices key : ∀ j i (S2 : aq_S) (w nw : Nat → Int64) (x : Int64), i + j = n → 4 ≤ i → (i = 4 ∨ x = lN (acnt lo kk c pn pg i)) → mO S2 0 (nI kk) il err rd tl (nI c) lo cur hs sv → ba S2 60 81 fn → ba S2 61 243 fe → ia S2 55 40 F → la S2 62 81 w → la S2 63 81 nw → (∀ v, v < kk ^ 4 → w v = lN (wR lo kk c pn pg i v)) → aq_fr S S2 (fun q => q = 52 ∨ q = 55 ∨ (60 ≤ q ∧ q ≤ 63)) → aG (d + 4) 194 (fun o S' => o = .inl (some (.long (lN (acnt lo kk c pn pg n)))) ∧ (mO S' 0 (nI kk) il err rd tl (nI c) lo cur hs sv ∧ mP S' ∧ mGr S') ∧ aq_fr S S' (fun q => q = 52 ∨ q = 55 ∨ (60 ≤ q ∧ q ≤ 63))) 45 [(0, .ref 52), (1, .int (nI n)), (2, .long x), (4, .int (nI i))] [] S2 from key (n - 4) 4 S2 w nw 0 (by omega) (Nat.le_refl 4) (Or.inl rfl) (o1.fr k2 (by omega)) f1 f2 f4 f5 ((r4.fr k1 (by omega)).fr k2 (by omega)) f6 hfr2
    intro j
    induction j with
    | zero =>
      intro i S2 w nw x hi hi4 hx o2 f1 f2 f4 f5 r4 f6 hfr2
      have ei : i = n := hi
      subst ei
      refine ar_ld i_X7_countAvoiding_45 rfl rfl ?_
      refine ar_ld i_X7_countAvoiding_47 rfl rfl ?_
      refine ar_ift i_X7_countAvoiding_48 rfl (nI_le (Nat.le_refl _) (by omega)) ?_
      refine ar_ld i_X7_countAvoiding_62 rfl rfl ?_
      exact ar_ret i_X7_countAvoiding_63 rfl ⟨by rw [hx.resolve_left (by omega)], ⟨o2, ⟨F, f4⟩, ⟨fn, f1⟩, ⟨fe, f2⟩, ⟨w, f5⟩, ⟨nw, r4⟩, ⟨d0, r5.fr hfr2 (by omega)⟩, ⟨c0, r6.fr hfr2 (by omega)⟩, b0, r7.fr hfr2 (by omega)⟩, hfr2⟩
    | succ j ih =>
      intro i S2 w nw x hi hi4 hx o2 f1 f2 f4 f5 r4 f6 hfr2
      refine ar_ld i_X7_countAvoiding_45 rfl rfl ?_
      refine ar_ld i_X7_countAvoiding_47 rfl rfl ?_
      refine ar_iff i_X7_countAvoiding_48 rfl (nI_ge (show i < n by omega) (by omega)) ?_
      refine ar_ld i_X7_countAvoiding_51 rfl rfl ?_
      refine av_cr i_X7_countAvoiding_52 rfl ⟨_, _, _, rfl, o2⟩ (Nat.le_of_ble_eq_true rfl) (m_goesOn d o2 f2 f3 f5 r4 f6 hk0 hk) (fun S3 q3 => ?_)
      obtain ⟨⟨⟨w', g1, g2⟩, nw', g3⟩, k3⟩ := q3
      refine ar_st i_X7_countAvoiding_55 rfl rfl ?_
      refine ar_inc i_X7_countAvoiding_56 rfl rfl ?_
      refine ar_go i_X7_countAvoiding_59 ?_
      rw [nI_1]
      have hstep := fun t => wR_step (lo := lo) hpk hk0 (n := i) hi4 (W := wR lo kk c pn pg i) (fun v _ => rfl) t
      exact ih (i + 1) S3 w' nw' _ (by omega) (by omega) (Or.inr (by rw [sumN_cg (g := wR lo kk c pn pg (i + 1)) _ (fun t _ => hstep t), wR_tot hk0])) (o2.fr k3 (by omega)) (f1.fr k3 (by omega)) (f2.fr k3 (by omega)) (f4.fr k3 (by omega)) g1 g3 (fun v hv => by rw [g2 v hv, hstep v]) (hfr2.tr (k3.mono (fun q z => by omega)))
end
