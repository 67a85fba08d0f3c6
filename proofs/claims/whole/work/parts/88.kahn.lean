/-! ===== the longest walk: what holds while states come up ===== -/
section
theorem cntN_lt_ex {p q : Nat → Prop} (n : Nat) (h : cntN p n < cntN q n) : ∃ s, s < n ∧ q s ∧ ¬ p s := by
  rw [← sum_one, ← sum_one] at h
  obtain ⟨s, hs, z⟩ := sumN_lt_ex n h
  have z : pif (p s) 1 0 < pif (q s) 1 0 := z
  by_cases hp : p s
  · rw [pif_t hp] at z
    have := pif_le (P := q s) 1
    omega
  · by_cases hq : q s
    · exact ⟨s, hs, hq, hp⟩
    · rw [pif_f hq] at z; exact absurd z (Nat.not_lt_zero _)
theorem cntN_ex_lt {p q : Nat → Prop} (n : Nat) (h : ∀ i, i < n → p i → q i) (h2 : ∃ s, s < n ∧ q s ∧ ¬ p s) : cntN p n < cntN q n := by
  rw [← sum_one, ← sum_one]
  obtain ⟨s, hs, z1, z2⟩ := h2
  refine sumN_mono_lt n (fun i hi => ?_) ⟨s, hs, ?_⟩
  · exact pif_mono (h i hi) 1
  · show pif (p s) 1 0 < pif (q s) 1 0
    rw [pif_t z1, pif_f z2]
    exact Nat.zero_lt_one
def kaI (k sz : Nat) (tg : Nat → Nat → Option Nat) (Q : Nat → Nat) (r h a : Nat) (D : Nat → Nat) (f g : Nat → Int32) : Prop := 0 < r ∧ Q 0 = 0 ∧ qI sz Q r ∧ (∀ i, i < r → rch k sz tg (Q i)) ∧ (∀ t, t < sz → f t = nI (tot k sz tg t - pB k tg Q h a t)) ∧ (∀ t, t < sz → rch k sz tg t → ((∃ i, i < r ∧ Q i = t) ↔ pB k tg Q h a t = tot k sz tg t)) ∧ (∀ i, i < r → g (Q i) = nI (D i) ∧ 0 < wkN k sz tg (D i) (Q i) ∧ D i ≤ i) ∧ (∀ i j, i ≤ j → j < r → D i ≤ D j) ∧ (h < r → ∀ j, j < r → D j ≤ D h + 1) ∧ ∀ i x j, (i < h ∨ (i = h ∧ x < a)) → i < r → x < k → j < r → tg (Q i) x = some (Q j) → D i + 1 ≤ D j
theorem pB_tot {k sz r h t : Nat} {tg : Nat → Nat → Option Nat} {Q : Nat → Nat} (hq : qI sz Q r) (hr : ∀ i, i < r → rch k sz tg (Q i)) (hh : h ≤ r) : pB k tg Q h 0 t ≤ tot k sz tg t := by
  have e : pB k tg Q h 0 t = sumN (fun i => eN k tg (Q i) t) h := rfl
  rw [e, sum_q (g := fun s => eN k tg s t) h ⟨fun i hi => hq.1 i (by omega), fun i j hi hj => hq.2 i j (by omega) (by omega)⟩]
  exact sumN_mono sz fun s _ => pif_mono (fun ⟨i, hi, e⟩ => by rw [← e]; exact hr i (by omega)) _
theorem kaI_none {k sz r h a : Nat} {tg : Nat → Nat → Option Nat} {Q D : Nat → Nat} {f g : Nat → Int32} (i : kaI k sz tg Q r h a D f g) (e : tg (Q h) a = none) : kaI k sz tg Q r h (a + 1) D f g := by
  have hn : ∀ t, ¬ tg (Q h) a = some t := fun t z => by rw [e] at z; cases z
  obtain ⟨i1, i2, i3, i4, i5, i6, i7, i8, i9, i10⟩ := i
  refine ⟨i1, i2, i3, i4, fun t ht => by rw [pB_n (hn t)]; exact i5 t ht, fun t ht hr => by rw [pB_n (hn t)]; exact i6 t ht hr, i7, i8, i9, fun i x j hix hi hx hj ex => ?_⟩
  by_cases exa : i = h ∧ x = a
  · rw [exa.1, exa.2] at ex
    exact absurd ex (hn _)
  · exact i10 i x j (by omega) hi hx hj ex
theorem kaI_adv {k sz r h : Nat} {tg : Nat → Nat → Option Nat} {Q D : Nat → Nat} {f g : Nat → Int32} (i : kaI k sz tg Q r h k D f g) (hh : h < r) : kaI k sz tg Q r (h + 1) 0 D f g := by
  obtain ⟨i1, i2, i3, i4, i5, i6, i7, i8, i9, i10⟩ := i
  refine ⟨i1, i2, i3, i4, i5, i6, i7, i8, fun h1 j hj => ?_, fun i x j hix hi hx hj ex => i10 i x j (by omega) hi hx hj ex⟩
  have h1 := i9 hh j hj
  have h2 := i8 h (h + 1) (by omega) (by omega)
  omega
theorem kaI_lt {k sz r h a t0 : Nat} {tg : Nat → Nat → Option Nat} {Q D : Nat → Nat} {f g : Nat → Int32} (i : kaI k sz tg Q r h a D f g) (hh : h < r) (ha : a < k) (e : tg (Q h) a = some t0) : pB k tg Q h a t0 + 1 ≤ tot k sz tg t0 := by
  obtain ⟨i1, i2, i3, i4, i5, i6, i7, i8, i9, i10⟩ := i
  rw [← pB_y e]
  exact Nat.le_trans (pB_mono (by omega)) (pB_tot i3 i4 (by omega))
theorem kaI_old {k sz r h a t0 : Nat} {tg : Nat → Nat → Option Nat} {Q D : Nat → Nat} {f g : Nat → Int32} (i : kaI k sz tg Q r h a D f g) (hh : h < r) (ha : a < k) (e : tg (Q h) a = some t0) (ht0 : t0 < sz) (hp : ¬ pB k tg Q h a t0 + 1 = tot k sz tg t0) : kaI k sz tg Q r h (a + 1) D (upd f t0 (f t0 - 1)) g := by
  have hlt := kaI_lt i hh ha e
  obtain ⟨i1, i2, i3, i4, i5, i6, i7, i8, i9, i10⟩ := i
  have hr0 := rch_step (i3.1 h hh) (i4 h hh) ha e
  have hne : ∀ t, t ≠ t0 → ¬ tg (Q h) a = some t := fun t et z => et (Option.some.inj (e.symm.trans z)).symm
  refine ⟨i1, i2, i3, i4, fun t ht => ?_, fun t ht hr => ?_, i7, i8, i9, fun i x j hix hi hx hj ex => ?_⟩
  · by_cases et : t = t0
    · rw [et, upd_eq, pB_y e, i5 t0 ht0, nI_m1 (by omega)]
      rfl
    · rw [upd_ne et, pB_n (hne t et)]
      exact i5 t ht
  · by_cases et : t = t0
    · rw [et, pB_y e, i6 t0 ht0 hr0]
      omega
    · rw [pB_n (hne t et)]
      exact i6 t ht hr
  · by_cases exa : i = h ∧ x = a
    · rw [exa.1, exa.2, e] at ex
      have := (i6 t0 ht0 hr0).mp ⟨j, hj, (Option.some.inj ex).symm⟩
      omega
    · exact i10 i x j (by omega) hi hx hj ex
theorem kaI_new {k sz r h a t0 : Nat} {tg : Nat → Nat → Option Nat} {Q D : Nat → Nat} {f g : Nat → Int32} (i : kaI k sz tg Q r h a D f g) (hh : h < r) (ha : a < k) (e : tg (Q h) a = some t0) (ht0 : t0 < sz) (hp : pB k tg Q h a t0 + 1 = tot k sz tg t0) : r < sz ∧ kaI k sz tg (ups Q r t0) (r + 1) h (a + 1) (ups D r (D h + 1)) (upd f t0 (f t0 - 1)) (upd g t0 (nI (D h + 1))) := by
  obtain ⟨i1, i2, i3, i4, i5, i6, i7, i8, i9, i10⟩ := i
  have hr0 := rch_step (i3.1 h hh) (i4 h hh) ha e
  have hnew : ¬ ∃ i, i < r ∧ Q i = t0 := fun z => by
    have := (i6 t0 ht0 hr0).mp z
    omega
  have hq := qI_ups i3 ht0 hnew
  have e' : tg (ups Q r t0 h) a = some t0 := by rw [ups_ne (by omega)]; exact e
  have hne : ∀ t, t ≠ t0 → ¬ tg (ups Q r t0 h) a = some t := fun t et z => et (Option.some.inj (e'.symm.trans z)).symm
  have hDh : ups D r (D h + 1) h = D h := ups_ne (by omega)
  refine ⟨by have := qI_le hq; omega, by omega, by rw [ups_ne (by omega)]; exact i2, hq, fun i hi => ?_, fun t ht => ?_, fun t ht hr => ?_, fun i hi => ?_, fun i j hij hj => ?_, fun _ j hj => ?_, fun i x j hix hi hx hj ex => ?_⟩
  · by_cases er : i = r
    · rw [er, ups_eq]
      exact hr0
    · rw [ups_ne er]
      exact i4 i (by omega)
  · by_cases et : t = t0
    · rw [et, upd_eq, pB_y e', pB_ups hh, i5 t0 ht0, nI_m1 (by omega)]
      rfl
    · rw [upd_ne et, pB_n (hne t et), pB_ups hh]
      exact i5 t ht
  · rw [ups_in]
    by_cases et : t = t0
    · rw [et, pB_y e', pB_ups hh]
      exact ⟨fun _ => hp, fun _ => Or.inr rfl⟩
    · rw [pB_n (hne t et), pB_ups hh, ← i6 t ht hr]
      exact ⟨fun z => z.resolve_right et, Or.inl⟩
  · by_cases er : i = r
    · rw [er, ups_eq, ups_eq, upd_eq]
      have := (i7 h hh).2.2
      exact ⟨rfl, wk_step.mpr ⟨Q h, i3.1 h hh, eN_pos.mpr ⟨a, ha, e⟩, (i7 h hh).2.1⟩, by omega⟩
    · rw [ups_ne er, ups_ne er, upd_ne (fun z => hnew ⟨i, by omega, z⟩)]
      exact i7 i (by omega)
  · by_cases ej : j = r
    · rw [ej, ups_eq]
      by_cases ei : i = r
      · rw [ei, ups_eq]; exact Nat.le_refl _
      · rw [ups_ne ei]; exact i9 hh i (by omega)
    · rw [ups_ne ej, ups_ne (by omega)]
      exact i8 i j hij (by omega)
  · rw [hDh]
    by_cases ej : j = r
    · rw [ej, ups_eq]; exact Nat.le_refl _
    · rw [ups_ne ej]; exact i9 hh j (by omega)
  · have hir : i < r := by omega
    rw [ups_ne (show ¬ i = r by omega)] at ex ⊢
    by_cases ej : j = r
    · rw [ej, ups_eq]
      have := i8 i h (by omega) hh
      omega
    · rw [ups_ne ej] at ex ⊢
      by_cases exa : i = h ∧ x = a
      · rw [exa.1, exa.2, e] at ex
        exact absurd ⟨j, by omega, (Option.some.inj ex).symm⟩ hnew
      · exact i10 i x j (by omega) hir hx (by omega) ex
/-- how long walks from 0 get -/
def lonW (k sz : Nat) (tg : Nat → Nat → Option Nat) (L : Nat) : Prop := (∃ t, 0 < wkN k sz tg L t) ∧ ∀ t, wkN k sz tg (L + 1) t = 0
def infW (k sz : Nat) (tg : Nat → Nat → Option Nat) : Prop := ∀ n, ∃ m t, n ≤ m ∧ 0 < wkN k sz tg m t
theorem kaI_inf {k sz r : Nat} {tg : Nat → Nat → Option Nat} {Q D : Nat → Nat} {f g : Nat → Int32} (i : kaI k sz tg Q r r 0 D f g) (hlt : r < cntN (fun s => rch k sz tg s) sz) : infW k sz tg := by
  obtain ⟨i1, i2, i3, i4, i5, i6, i7, i8, i9, i10⟩ := i
  have key : ∀ n t, t < sz → rch k sz tg t → (¬ ∃ i, i < r ∧ Q i = t) → ∃ m, n ≤ m ∧ 0 < wkN k sz tg m t := by
    intro n
    induction n with
    | zero => intro t _ hr _; obtain ⟨m, hm⟩ := hr; exact ⟨m, Nat.zero_le m, hm⟩
    | succ n ih =>
      intro t ht hr hn
      have h1 : pB k tg Q r 0 t < tot k sz tg t := by
        have h2 := pB_tot (t := t) i3 i4 (Nat.le_refl r)
        have h3 : ¬ pB k tg Q r 0 t = tot k sz tg t := fun z => hn ((i6 t ht hr).mpr z)
        omega
      have e : pB k tg Q r 0 t = sumN (fun i => eN k tg (Q i) t) r := rfl
      rw [e, sum_q (g := fun s => eN k tg s t) r i3] at h1
      obtain ⟨s, hs, z⟩ := sumN_lt_ex sz h1
      have z : pif (∃ i, i < r ∧ Q i = s) (eN k tg s t) 0 < pif (rch k sz tg s) (eN k tg s t) 0 := z
      by_cases hrs : rch k sz tg s
      · rw [pif_t hrs] at z
        by_cases hin : ∃ i, i < r ∧ Q i = s
        · rw [pif_t hin] at z
          exact absurd z (Nat.lt_irrefl _)
        · rw [pif_f hin] at z
          obtain ⟨m, hm, hw⟩ := ih s hs hrs hin
          exact ⟨m + 1, by omega, wk_step.mpr ⟨s, hs, z, hw⟩⟩
      · rw [pif_f hrs] at z
        exact absurd z (Nat.not_lt_zero _)
  obtain ⟨s, hs, h1, h2⟩ := cntN_lt_ex (p := fun s => ∃ i, i < r ∧ Q i = s) sz (Nat.lt_of_le_of_lt (Nat.le_of_eq (qI_cnt i3).symm) hlt)
  intro n
  obtain ⟨m, hm, hw⟩ := key n s hs h1 h2
  exact ⟨m, s, hm, hw⟩
theorem kaI_fin {k sz r : Nat} {tg : Nat → Nat → Option Nat} {Q D : Nat → Nat} {f g : Nat → Int32} (hsz : ∀ s a t, tg s a = some t → t < sz) (i : kaI k sz tg Q r r 0 D f g) (hge : ¬ r < cntN (fun s => rch k sz tg s) sz) : lonW k sz tg (D (r - 1)) ∧ D (r - 1) < sz := by
  obtain ⟨i1, i2, i3, i4, i5, i6, i7, i8, i9, i10⟩ := i
  have hr := qI_le i3
  have hin : ∀ s, s < sz → rch k sz tg s → ∃ i, i < r ∧ Q i = s := fun s hs hrs => Classical.byContradiction fun z => hge (by
    have := cntN_ex_lt (p := fun s => ∃ i, i < r ∧ Q i = s) (q := fun s => rch k sz tg s) sz (fun s _ ⟨i, hi, e⟩ => by rw [← e]; exact i4 i hi) ⟨s, hs, hrs, z⟩
    rw [← qI_cnt i3] at this
    exact this)
  have key : ∀ n t, 0 < wkN k sz tg n t → ∃ j, j < r ∧ Q j = t ∧ n ≤ D j := by
    intro n
    induction n with
    | zero => intro t h; exact ⟨0, i1, by rw [wk_00 h]; exact i2, Nat.zero_le _⟩
    | succ n ih =>
      intro t h
      obtain ⟨s, hs, z1, z2⟩ := wk_step.mp h
      obtain ⟨i, hi, ei, hn⟩ := ih s z2
      obtain ⟨a, ha, ea⟩ := eN_pos.mp z1
      obtain ⟨j, hj, ej⟩ := hin t (hsz s a t ea) ⟨n + 1, h⟩
      have := i10 i a j (Or.inl hi) hi ha hj (by rw [ei, ej]; exact ea)
      exact ⟨j, hj, ej, by omega⟩
  have h7 := i7 (r - 1) (by omega)
  refine ⟨⟨⟨_, h7.2.1⟩, fun t => Nat.eq_zero_of_not_pos fun z => ?_⟩, by have := h7.2.2; omega⟩
  obtain ⟨j, hj, -, hn⟩ := key _ t z
  have := i8 j (r - 1) (by omega) (by omega)
  omega
/-- both sides: the longest words -/
theorem lonW_lon {lo : Int32} {k c L : Nat} {pn : Nat → Nat} {pg : Nat → Nat → Int32} (hp : pOk c pn pg) (hk : 0 < k) (hk3 : k ≤ 3) (h : lonW k (off k 5) (tgL k (alP lo k c pn pg)) L) : lon lo k c pn pg = L ∧ L < 85 := by
  obtain ⟨⟨t, ht⟩, h2⟩ := h
  have h5 := off_5 k (by omega)
  rw [wkN_tgL] at ht
  refine lon_fin hp hk hk3 ?_ ?_
  · rw [← wkN_tot hp hk hk3 L]
    refine (sumN_pos 121).mpr ⟨t, ?_, ht⟩
    cases L with
    | zero => have := wk_00 ht; omega
    | succ L =>
      obtain ⟨s, hs, z1, -⟩ := wk_step.mp ht
      obtain ⟨a, ha, ea⟩ := eN_pos.mp z1
      have := tgG_lt hk s a t ha ea
      omega
  · rw [← wkN_tot hp hk hk3 (L + 1), sumN_cg (g := fun _ => 0) 121 (fun t _ => by rw [← wkN_tgL]; exact h2 t), sumN_const, Nat.mul_zero]
theorem infW_lon {lo : Int32} {k c : Nat} {pn : Nat → Nat} {pg : Nat → Nat → Int32} (hp : pOk c pn pg) (hk : 0 < k) (hk3 : k ≤ 3) (h : infW k (off k 5) (tgL k (alP lo k c pn pg))) : lon lo k c pn pg = 85 := by
  have h5 := off_5 k (by omega)
  refine lon_inf fun n => ?_
  obtain ⟨m, t, hm, ht⟩ := h n
  rw [wkN_tgL] at ht
  refine acnt_mono hk hm ?_
  rw [← wkN_tot hp hk hk3 m]
  refine (sumN_pos 121).mpr ⟨t, ?_, ht⟩
  cases m with
  | zero => have := wk_00 ht; omega
  | succ m =>
    obtain ⟨s, hs, z1, -⟩ := wk_step.mp ht
    obtain ⟨a, ha, ea⟩ := eN_pos.mp z1
    have := tgG_lt hk s a t ha ea
    omega
end
