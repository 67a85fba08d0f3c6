/-! ===== the class: the smallest shortest way back ===== -/
section
theorem lex_tr {a b c d e f : Nat} (h : lex a b c d) (h2 : lex c d e f) : lex a b e f := by unfold lex at *; omega
/-- what holds while ways back are looked for -/
def lbI (k sz : Nat) (tg : Nat → Nat → Option Nat) (st : Nat) (Q D N P : Nat → Nat) (r h a : Nat) : Prop := (0 < r ∧ Q 0 = st ∧ D 0 = 0 ∧ N 0 = 0) ∧ qI sz Q r ∧ (∀ i, i < r → N i < k ^ D i ∧ gw k tg (D i) (N i) st = some (Q i) ∧ D i ≤ i) ∧ (∀ i j, i < j → j < r → lex (D i) (N i) (D j) (N j)) ∧ (h < r → ∀ j, j < r → lex (D j) (N j) (D h + 1) (N h * k + a)) ∧ (∀ i x t, (i < h ∨ (i = h ∧ x < a)) → i < r → x < k → tg (Q i) x = some t → t ≠ st ∧ ∃ j, j < r ∧ Q j = t ∧ ¬ lex (D i + 1) (N i * k + x) (D j) (N j)) ∧ ∀ i, 0 < i → i < r → P i < i ∧ D i = D (P i) + 1 ∧ N i / k = N (P i) ∧ tg (Q (P i)) (N i % k) = some (Q i)
theorem lb_none {k sz st r h a : Nat} {tg : Nat → Nat → Option Nat} {Q D N P : Nat → Nat} (i : lbI k sz tg st Q D N P r h a) (e : tg (Q h) a = none) : lbI k sz tg st Q D N P r h (a + 1) := by
  obtain ⟨i1, i2, i3, i4, i5, i6, i7⟩ := i
  refine ⟨i1, i2, i3, i4, fun hh j hj => ?_, fun i x t hix hi hx et => ?_, i7⟩
  · have := i5 hh j hj
    unfold lex at this ⊢
    omega
  · by_cases ex : i = h ∧ x = a
    · rw [ex.1, ex.2, e] at et
      cases et
    · exact i6 i x t (by omega) hi hx et
theorem lb_old {k sz st r h a t0 : Nat} {tg : Nat → Nat → Option Nat} {Q D N P : Nat → Nat} (i : lbI k sz tg st Q D N P r h a) (hh : h < r) (e : tg (Q h) a = some t0) (hst : t0 ≠ st) (hin : ∃ j, j < r ∧ Q j = t0) : lbI k sz tg st Q D N P r h (a + 1) := by
  obtain ⟨i1, i2, i3, i4, i5, i6, i7⟩ := i
  refine ⟨i1, i2, i3, i4, fun hh j hj => ?_, fun i x t hix hi hx et => ?_, i7⟩
  · have := i5 hh j hj
    unfold lex at this ⊢
    omega
  · by_cases ex : i = h ∧ x = a
    · rw [ex.1, ex.2, e] at et
      rw [← Option.some.inj et, ex.1, ex.2]
      obtain ⟨j, hj, ej⟩ := hin
      have := i5 hh j hj
      exact ⟨hst, j, hj, ej, by unfold lex at this ⊢; omega⟩
    · exact i6 i x t (by omega) hi hx et
theorem lb_new {k sz st r h a t0 : Nat} {tg : Nat → Nat → Option Nat} {Q D N P : Nat → Nat} (i : lbI k sz tg st Q D N P r h a) (hh : h < r) (ha : a < k) (e : tg (Q h) a = some t0) (ht0 : t0 < sz) (hst : t0 ≠ st) (hnew : ¬ ∃ j, j < r ∧ Q j = t0) : r < sz ∧ lbI k sz tg st (ups Q r t0) (ups D r (D h + 1)) (ups N r (N h * k + a)) (ups P r h) (r + 1) h (a + 1) := by
  obtain ⟨i1, i2, i3, i4, i5, i6, i7⟩ := i
  have hq := qI_ups i2 ht0 hnew
  have i3h := i3 h hh
  have n0 : ¬ 0 = r := by omega
  have nh : ¬ h = r := by omega
  refine ⟨by have := qI_le hq; omega, ⟨by omega, by rw [ups_ne n0]; exact i1.2.1, by rw [ups_ne n0]; exact i1.2.2.1, by rw [ups_ne n0]; exact i1.2.2.2⟩, hq, fun i hi => ?_, fun i j hij hj => ?_, fun _ j hj => ?_, fun i x t hix hi hx et => ?_, fun i h0 hi => ?_⟩
  · by_cases er : i = r
    · rw [er, ups_eq, ups_eq, ups_eq]
      exact ⟨child_lt i3h.1 ha, gw_step ha i3h.2.1 e, by omega⟩
    · rw [ups_ne er, ups_ne er, ups_ne er]
      exact i3 i (by omega)
  · rw [ups_ne (show ¬ i = r by omega), ups_ne (show ¬ i = r by omega)]
    by_cases ej : j = r
    · rw [ej, ups_eq, ups_eq]
      exact i5 hh i (by omega)
    · rw [ups_ne ej, ups_ne ej]
      exact i4 i j hij (by omega)
  · rw [ups_ne nh, ups_ne nh]
    by_cases ej : j = r
    · rw [ej, ups_eq, ups_eq]
      unfold lex
      omega
    · rw [ups_ne ej, ups_ne ej]
      have := i5 hh j (by omega)
      unfold lex at this ⊢
      omega
  · have hir : ¬ i = r := by omega
    rw [ups_ne hir] at et
    rw [ups_ne hir, ups_ne hir]
    by_cases ex : i = h ∧ x = a
    · rw [ex.1, ex.2, e] at et
      rw [← Option.some.inj et, ex.1, ex.2]
      exact ⟨hst, r, by omega, ups_eq, by rw [ups_eq, ups_eq]; exact lex_irr⟩
    · obtain ⟨h1, j, hj, ej, z⟩ := i6 i x t (by omega) (by omega) hx et
      have hjr : ¬ j = r := by omega
      exact ⟨h1, j, by omega, by rw [ups_ne hjr]; exact ej, by rw [ups_ne hjr, ups_ne hjr]; exact z⟩
  · by_cases er : i = r
    · rw [er, ups_eq, ups_eq, ups_eq, ups_eq, ups_ne nh, ups_ne nh, ups_ne nh, (mka ha).1, (mka ha).2]
      exact ⟨hh, rfl, rfl, e⟩
    · obtain ⟨h1, h2, h3, h4⟩ := i7 i h0 (by omega)
      have hp : ¬ P i = r := by omega
      rw [ups_ne er, ups_ne er, ups_ne er, ups_ne er, ups_ne hp, ups_ne hp, ups_ne hp]
      exact ⟨h1, h2, h3, h4⟩
theorem lb_adv {k sz st r h : Nat} {tg : Nat → Nat → Option Nat} {Q D N P : Nat → Nat} (i : lbI k sz tg st Q D N P r h k) (hh : h < r) : lbI k sz tg st Q D N P r (h + 1) 0 := by
  obtain ⟨i1, i2, i3, i4, i5, i6, i7⟩ := i
  refine ⟨i1, i2, i3, i4, fun h1 j hj => ?_, fun i x t hix hi hx et => i6 i x t (by omega) hi hx et, i7⟩
  have a1 := i5 hh j hj
  have a2 := i4 h (h + 1) (by omega) h1
  have a3 : N h < N (h + 1) → N h * k + k ≤ N (h + 1) * k := fun z => by
    have : (N h + 1) * k ≤ N (h + 1) * k := Nat.mul_le_mul_right k z
    rw [Nat.add_mul, Nat.one_mul] at this
    exact this
  unfold lex at a1 a2 ⊢
  generalize N h * k = y1 at *
  generalize N (h + 1) * k = y2 at *
  omega
theorem lb_K {k sz st r h a : Nat} {tg : Nat → Nat → Option Nat} {Q D N P : Nat → Nat} (hk : 0 < k) (i : lbI k sz tg st Q D N P r h a) (hh : h < r) : ∀ n m t, m < k ^ n → gw k tg n m st = some t → ¬ lex (D h) (N h) n m → ∃ j, j ≤ h ∧ Q j = t ∧ ¬ lex n m (D j) (N j) := by
  obtain ⟨i1, i2, i3, i4, i5, i6, i7⟩ := i
  intro n
  induction n with
  | zero =>
    intro m t hm e _
    have e : st = t := Option.some.inj e
    refine ⟨0, Nat.zero_le h, i1.2.1.trans e, ?_⟩
    rw [i1.2.2.1, i1.2.2.2]
    unfold lex
    omega
  | succ n ih =>
    intro m t hm e hl
    obtain ⟨x, z1, z2⟩ := gw_inv e
    have hm2 : m / k < k ^ n := (Nat.div_lt_iff_lt_mul hk).mpr (by rw [← Nat.pow_succ]; exact hm)
    obtain ⟨i, hi, ei, hl2⟩ := ih (m / k) x hm2 z1 (by unfold lex at hl ⊢; omega)
    have hDh : n < D h := by unfold lex at hl; omega
    have hDi : D i ≤ n := by unfold lex at hl2; omega
    have hih : i < h := Nat.lt_of_le_of_ne hi (fun z => by rw [z] at hDi; omega)
    obtain ⟨-, j, hj, ej, hl3⟩ := i6 i (m % k) t (Or.inl hih) (by omega) (Nat.mod_lt m hk) (by rw [ei]; exact z2)
    have hmul : m = m / k * k + m % k := by
      have := Nat.div_add_mod m k
      rw [Nat.mul_comm] at this
      exact this.symm
    have a3 : N i ≤ m / k → N i * k ≤ m / k * k := fun z => Nat.mul_le_mul_right k z
    have hl4 : ¬ lex (n + 1) m (D j) (N j) := by
      unfold lex at hl2 hl3 ⊢
      generalize N i * k = y1 at *
      generalize m / k * k = y2 at *
      omega
    refine ⟨j, Nat.le_of_not_lt fun z => ?_, ej, hl4⟩
    have := i4 h j z hj
    unfold lex at this hl hl4
    omega
theorem lb_found {k sz st r h a : Nat} {tg : Nat → Nat → Option Nat} {Q D N P : Nat → Nat} (hk : 0 < k) (i : lbI k sz tg st Q D N P r h a) (hh : h < r) (ha : a < k) (e : tg (Q h) a = some st) : clo k tg (D h + 1) (N h * k + a) st ∧ ∀ n m, clo k tg n m st → ¬ lex n m (D h + 1) (N h * k + a) := by
  have hK := lb_K hk i hh
  obtain ⟨i1, i2, i3, i4, i5, i6, i7⟩ := i
  have i3h := i3 h hh
  refine ⟨⟨by omega, child_lt i3h.1 ha, gw_step ha i3h.2.1 e⟩, fun n m ⟨h0, hm, hc⟩ hl => ?_⟩
  cases n with
  | zero => exact absurd h0 (Nat.lt_irrefl 0)
  | succ n =>
    obtain ⟨x, z1, z2⟩ := gw_inv hc
    have hm2 : m / k < k ^ n := (Nat.div_lt_iff_lt_mul hk).mpr (by rw [← Nat.pow_succ]; exact hm)
    have hmul : m = m / k * k + m % k := by
      have := Nat.div_add_mod m k
      rw [Nat.mul_comm] at this
      exact this.symm
    have hmk := Nat.mod_lt m hk
    have a3 : N h < m / k → N h * k + k ≤ m / k * k := fun z => by
      have : (N h + 1) * k ≤ m / k * k := Nat.mul_le_mul_right k z
      rw [Nat.add_mul, Nat.one_mul] at this
      exact this
    obtain ⟨j, hj, ej, hl2⟩ := hK n (m / k) x hm2 z1 (by
      unfold lex at hl ⊢
      generalize N h * k = y1 at *
      generalize m / k * k = y2 at *
      omega)
    by_cases hjh : j = h
    · rw [hjh] at hl2 ej
      have hx : m % k < a ∧ n = D h ∧ m / k = N h := by
        have h1 : n = D h ∧ N h ≤ m / k := by unfold lex at hl hl2; omega
        have h2 : ¬ N h < m / k := fun z => by
          have := a3 z
          unfold lex at hl
          omega
        have h3 : m / k = N h := by omega
        rw [h3] at hmul
        unfold lex at hl
        omega
      exact (i6 h (m % k) st (Or.inr ⟨rfl, hx.1⟩) hh hmk (by rw [ej]; exact z2)).1 rfl
    · exact (i6 j (m % k) st (Or.inl (by omega)) (by omega) hmk (by rw [ej]; exact z2)).1 rfl
theorem lb_lim {k sz st r h a : Nat} {tg : Nat → Nat → Option Nat} {Q D N P : Nat → Nat} (hk : 0 < k) (i : lbI k sz tg st Q D N P r h a) (hh : h < r) : ∀ n m, clo k tg n m st → D h < n := by
  have hK := lb_K hk i hh
  obtain ⟨i1, i2, i3, i4, i5, i6, i7⟩ := i
  intro n m ⟨h0, hm, hc⟩
  refine Nat.lt_of_not_le fun hle => ?_
  cases n with
  | zero => exact absurd h0 (Nat.lt_irrefl 0)
  | succ n =>
    obtain ⟨x, z1, z2⟩ := gw_inv hc
    have hm2 : m / k < k ^ n := (Nat.div_lt_iff_lt_mul hk).mpr (by rw [← Nat.pow_succ]; exact hm)
    obtain ⟨j, hj, ej, hl2⟩ := hK n (m / k) x hm2 z1 (by unfold lex; omega)
    have hDj : D j ≤ n := by unfold lex at hl2; omega
    have hjh : j < h := Nat.lt_of_le_of_ne hj (fun z => by rw [z] at hDj; omega)
    exact (i6 j (m % k) st (Or.inl hjh) (by omega) (Nat.mod_lt m hk) (by rw [ej]; exact z2)).1 rfl
theorem lb_end {k sz st r : Nat} {tg : Nat → Nat → Option Nat} {Q D N P : Nat → Nat} (hk : 0 < k) (i : lbI k sz tg st Q D N P r r 0) : ∀ n m, ¬ clo k tg n m st := by
  obtain ⟨i1, i2, i3, i4, i5, i6, i7⟩ := i
  have key : ∀ n m t, gw k tg n m st = some t → ∃ j, j < r ∧ Q j = t := by
    intro n
    induction n with
    | zero => intro m t e; exact ⟨0, i1.1, i1.2.1.trans (Option.some.inj e)⟩
    | succ n ih =>
      intro m t e
      obtain ⟨x, z1, z2⟩ := gw_inv e
      obtain ⟨i, hi, ei⟩ := ih (m / k) x z1
      obtain ⟨-, j, hj, ej, -⟩ := i6 i (m % k) t (Or.inl hi) hi (Nat.mod_lt m hk) (by rw [ei]; exact z2)
      exact ⟨j, hj, ej⟩
  intro n m ⟨h0, hm, hc⟩
  cases n with
  | zero => exact absurd h0 (Nat.lt_irrefl 0)
  | succ n =>
    obtain ⟨x, z1, z2⟩ := gw_inv hc
    obtain ⟨i, hi, ei⟩ := key n _ x z1
    exact (i6 i (m % k) st (Or.inl hi) hi (Nat.mod_lt m hk) (by rw [ei]; exact z2)).1 rfl
theorem tgL_last {k s a t : Nat} {al : Nat → Nat → Nat → Prop} (h : tgL k al s a = some t) : (t - 1) % k = a := by
  unfold tgL at h
  by_cases ha : a < k
  · have hk : 0 < k := by omega
    rw [if_pos ha] at h
    unfold tgG at h
    by_cases e : ∃ n u, n ≤ 4 ∧ u < k ^ n ∧ s = off k n + u ∧ al n u a
    · rw [pif_t e] at h
      have h := Option.some.inj h
      by_cases h4 : off k 4 ≤ s
      · rw [if_pos h4] at h
        have e4 : off k 4 = off k 3 * k + 1 := rfl
        have hX : ∀ X, off k 4 + X - 1 = off k 3 * k + X := fun X => by omega
        rw [← h, hX, Nat.mul_comm (off k 3), Nat.mul_add_mod, Nat.mod_mod_of_dvd _ (show k ∣ k ^ 4 from ⟨k ^ 3, by rw [Nat.pow_succ, Nat.mul_comm]⟩), Nat.mul_comm, Nat.mul_add_mod, Nat.mod_eq_of_lt ha]
      · rw [if_neg h4] at h
        rw [← h, Nat.add_sub_cancel, Nat.mul_comm, Nat.mul_add_mod, Nat.mod_eq_of_lt ha]
    · rw [pif_f e] at h
      cases h
  · rw [if_neg ha] at h
    cases h
end
