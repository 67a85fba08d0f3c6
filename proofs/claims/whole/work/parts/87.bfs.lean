/-! ===== walks from the empty word: queues ===== -/
section
theorem sumN_ins {p : Nat → Prop} {g : Nat → Nat} {s0 : Nat} (hp : ¬ p s0) : ∀ n, s0 < n → sumN (fun s => pif (p s ∨ s = s0) (g s) 0) n = sumN (fun s => pif (p s) (g s) 0) n + g s0
  | 0, h => absurd h (Nat.not_lt_zero _)
  | n + 1, h => by
    show sumN (fun s => pif (p s ∨ s = s0) (g s) 0) n + pif (p n ∨ n = s0) (g n) 0 = sumN (fun s => pif (p s) (g s) 0) n + pif (p n) (g n) 0 + g s0
    by_cases e : n = s0
    · subst e
      rw [pif_t (Or.inr rfl), pif_f hp, sumN_cg (g := fun s => pif (p s) (g s) 0) n (fun i hi => pif_cg ⟨fun z => z.resolve_right (by omega), Or.inl⟩)]
      omega
    · rw [sumN_ins hp n (by omega), pif_cg (Q := p n) ⟨fun z => z.resolve_right e, Or.inl⟩]
      omega
theorem sumN_mono {f g : Nat → Nat} : ∀ n, (∀ i, i < n → f i ≤ g i) → sumN f n ≤ sumN g n
  | 0, _ => Nat.le_refl 0
  | n + 1, h => Nat.add_le_add (sumN_mono n (fun i hi => h i (by omega))) (h n (by omega))
theorem sumN_lt_ex {f g : Nat → Nat} (n : Nat) (h : sumN f n < sumN g n) : ∃ i, i < n ∧ f i < g i := Classical.byContradiction fun z => by
  have := sumN_mono (f := g) (g := f) n (fun i hi => Nat.le_of_not_lt fun u => z ⟨i, hi, u⟩)
  omega
theorem sumN_mono_lt {f g : Nat → Nat} : ∀ n, (∀ i, i < n → f i ≤ g i) → (∃ i, i < n ∧ f i < g i) → sumN f n < sumN g n
  | 0, _, ⟨i, hi, _⟩ => absurd hi (Nat.not_lt_zero i)
  | n + 1, h, ⟨i, hi, hlt⟩ => by
    have h1 := sumN_mono n (fun i hi => h i (by omega))
    have h2 := h n (by omega)
    show sumN f n + f n < sumN g n + g n
    by_cases e : i = n
    · subst e; omega
    · have := sumN_mono_lt n (fun i hi => h i (by omega)) ⟨i, by omega, hlt⟩
      omega
/-- unlike things below sz -/
def qI (sz : Nat) (Q : Nat → Nat) (r : Nat) : Prop := (∀ i, i < r → Q i < sz) ∧ ∀ i j, i < r → j < r → Q i = Q j → i = j
theorem sum_q {sz : Nat} {Q : Nat → Nat} {g : Nat → Nat} : ∀ r, qI sz Q r → sumN (fun i => g (Q i)) r = sumN (fun s => pif (∃ i, i < r ∧ Q i = s) (g s) 0) sz
  | 0, _ => by
    rw [sumN_cg (g := fun _ => 0) sz (fun s _ => pif_f (fun ⟨i, hi, _⟩ => absurd hi (Nat.not_lt_zero i))), sumN_const, Nat.mul_zero]
    rfl
  | r + 1, h => by
    show sumN (fun i => g (Q i)) r + g (Q r) = _
    rw [sum_q r ⟨fun i hi => h.1 i (by omega), fun i j hi hj => h.2 i j (by omega) (by omega)⟩, ← sumN_ins (p := fun s => ∃ i, i < r ∧ Q i = s) (fun ⟨i, hi, e⟩ => absurd (h.2 i r (by omega) (by omega) e) (by omega)) sz (h.1 r (by omega))]
    refine sumN_cg sz fun s _ => pif_cg ⟨fun z => ?_, fun ⟨i, hi, e⟩ => ?_⟩
    · rcases z with ⟨i, hi, e⟩ | e
      · exact ⟨i, by omega, e⟩
      · exact ⟨r, by omega, e.symm⟩
    · by_cases er : i = r
      · exact Or.inr (by rw [← e, er])
      · exact Or.inl ⟨i, by omega, e⟩
theorem pif_le {P : Prop} (x : Nat) : pif P x 0 ≤ x := by
  by_cases h : P
  · rw [pif_t h]; exact Nat.le_refl x
  · rw [pif_f h]; exact Nat.zero_le x
theorem pif_mono {P P' : Prop} (h : P → P') (x : Nat) : pif P x 0 ≤ pif P' x 0 := by
  by_cases e : P
  · rw [pif_t e, pif_t (h e)]; exact Nat.le_refl x
  · rw [pif_f e]; exact Nat.zero_le _
theorem qI_cnt {sz r : Nat} {Q : Nat → Nat} (h : qI sz Q r) : r = cntN (fun s => ∃ i, i < r ∧ Q i = s) sz := by
  have := sum_q (g := fun _ => 1) r h
  rw [sumN_const, Nat.mul_one, sum_one] at this
  exact this
theorem qI_le {sz r : Nat} {Q : Nat → Nat} (h : qI sz Q r) : r ≤ sz := by
  have h1 := qI_cnt h
  have h2 := cntN_le (fun s => ∃ i, i < r ∧ Q i = s) sz
  omega
def ups (Q : Nat → Nat) (r x : Nat) : Nat → Nat := fun i => if i = r then x else Q i
theorem ups_eq {Q : Nat → Nat} {r x : Nat} : ups Q r x r = x := if_pos rfl
theorem ups_ne {Q : Nat → Nat} {r x i : Nat} (h : ¬ i = r) : ups Q r x i = Q i := if_neg h
theorem qI_ups {sz r t : Nat} {Q : Nat → Nat} (h : qI sz Q r) (ht : t < sz) (hn : ¬ ∃ i, i < r ∧ Q i = t) : qI sz (ups Q r t) (r + 1) := by
  refine ⟨fun i hi => ?_, fun i j hi hj e => ?_⟩
  · by_cases e : i = r
    · rw [e, ups_eq]; exact ht
    · rw [ups_ne e]; exact h.1 i (by omega)
  · by_cases ei : i = r
    · by_cases ej : j = r
      · omega
      · rw [ei, ups_eq, ups_ne ej] at e
        exact absurd ⟨j, by omega, e.symm⟩ hn
    · by_cases ej : j = r
      · rw [ej, ups_eq, ups_ne ei] at e
        exact absurd ⟨i, by omega, e⟩ hn
      · rw [ups_ne ei, ups_ne ej] at e
        exact h.2 i j (by omega) (by omega) e
theorem ups_in {r t : Nat} {Q : Nat → Nat} (s : Nat) : (∃ i, i < r + 1 ∧ ups Q r t i = s) ↔ (∃ i, i < r ∧ Q i = s) ∨ s = t := by
  refine ⟨fun ⟨i, hi, e⟩ => ?_, fun z => ?_⟩
  · by_cases er : i = r
    · rw [er, ups_eq] at e; exact Or.inr e.symm
    · rw [ups_ne er] at e; exact Or.inl ⟨i, by omega, e⟩
  · rcases z with ⟨i, hi, e⟩ | e
    · exact ⟨i, by omega, by rw [ups_ne (by omega)]; exact e⟩
    · exact ⟨r, by omega, by rw [ups_eq]; exact e.symm⟩
/-- how many letters lead from s to t -/
noncomputable def eN (k : Nat) (tg : Nat → Nat → Option Nat) (s t : Nat) : Nat := cntN (fun a => tg s a = some t) k
/-- the steps to t that are gone through -/
noncomputable def pB (k : Nat) (tg : Nat → Nat → Option Nat) (Q : Nat → Nat) (h a t : Nat) : Nat := sumN (fun i => eN k tg (Q i) t) h + cntN (fun x => tg (Q h) x = some t) a
theorem pB_adv {k : Nat} {tg : Nat → Nat → Option Nat} {Q : Nat → Nat} {h t : Nat} : pB k tg Q h k t = pB k tg Q (h + 1) 0 t := rfl
theorem pB_y {k : Nat} {tg : Nat → Nat → Option Nat} {Q : Nat → Nat} {h a t : Nat} (e : tg (Q h) a = some t) : pB k tg Q h (a + 1) t = pB k tg Q h a t + 1 := by
  unfold pB
  rw [cntN_y (p := fun x => tg (Q h) x = some t) e]
  omega
theorem pB_n {k : Nat} {tg : Nat → Nat → Option Nat} {Q : Nat → Nat} {h a t : Nat} (e : ¬ tg (Q h) a = some t) : pB k tg Q h (a + 1) t = pB k tg Q h a t := by
  unfold pB
  rw [cntN_n (p := fun x => tg (Q h) x = some t) e]
theorem pB_ups {k : Nat} {tg : Nat → Nat → Option Nat} {Q : Nat → Nat} {h a t r x : Nat} (hr : h < r) : pB k tg (ups Q r x) h a t = pB k tg Q h a t := by
  unfold pB
  rw [sumN_cg (g := fun i => eN k tg (Q i) t) h (fun i hi => by rw [ups_ne (by omega)]), ups_ne (by omega)]
theorem pB_pos {k : Nat} {tg : Nat → Nat → Option Nat} {Q : Nat → Nat} {h a t : Nat} : 0 < pB k tg Q h a t ↔ (∃ i, i < h ∧ 0 < eN k tg (Q i) t) ∨ ∃ x, x < a ∧ tg (Q h) x = some t := by
  unfold pB
  have e : (0 < sumN (fun i => eN k tg (Q i) t) h + cntN (fun x => tg (Q h) x = some t) a) ↔ (0 < sumN (fun i => eN k tg (Q i) t) h) ∨ 0 < cntN (fun x => tg (Q h) x = some t) a := by omega
  rw [e, sumN_pos, cntN_posi]
theorem pB_le {k : Nat} {tg : Nat → Nat → Option Nat} {Q : Nat → Nat} {h a t : Nat} : pB k tg Q h a t ≤ h * k + a := Nat.add_le_add (sumN_le h fun i _ => cntN_le _ k) (cntN_le _ a)
theorem pB_mono {k : Nat} {tg : Nat → Nat → Option Nat} {Q : Nat → Nat} {h a t : Nat} (ha : a ≤ k) : pB k tg Q h a t ≤ pB k tg Q (h + 1) 0 t := by
  rw [← pB_adv]
  unfold pB
  have e : k = a + (k - a) := by omega
  have := cntN_add (fun x => tg (Q h) x = some t) a (k - a)
  rw [← e] at this
  omega
/-- reached from the state 0 -/
def rch (k sz : Nat) (tg : Nat → Nat → Option Nat) (s : Nat) : Prop := ∃ n, 0 < wkN k sz tg n s
theorem wk_0 {k sz : Nat} {tg : Nat → Nat → Option Nat} : 0 < wkN k sz tg 0 0 := Nat.zero_lt_one
theorem wk_00 {k sz t : Nat} {tg : Nat → Nat → Option Nat} (h : 0 < wkN k sz tg 0 t) : t = 0 := by
  refine Classical.byContradiction fun z => ?_
  have e : wkN k sz tg 0 t = 0 := if_neg z
  omega
theorem wk_step {k sz n t : Nat} {tg : Nat → Nat → Option Nat} : 0 < wkN k sz tg (n + 1) t ↔ ∃ s, s < sz ∧ 0 < eN k tg s t ∧ 0 < wkN k sz tg n s := by
  show 0 < sumN (fun s => cntN (fun a => tg s a = some t) k * wkN k sz tg n s) sz ↔ _
  rw [sumN_pos]
  exact ⟨fun ⟨s, hs, z⟩ => ⟨s, hs, (mulp.mp z).1, (mulp.mp z).2⟩, fun ⟨s, hs, z1, z2⟩ => ⟨s, hs, mulp.mpr ⟨z1, z2⟩⟩⟩
theorem eN_pos {k s t : Nat} {tg : Nat → Nat → Option Nat} : 0 < eN k tg s t ↔ ∃ a, a < k ∧ tg s a = some t := cntN_posi
theorem rch_0 {k sz : Nat} {tg : Nat → Nat → Option Nat} : rch k sz tg 0 := ⟨0, wk_0⟩
theorem rch_step {k sz s a t : Nat} {tg : Nat → Nat → Option Nat} (hs : s < sz) (h : rch k sz tg s) (ha : a < k) (e : tg s a = some t) : rch k sz tg t := by
  obtain ⟨n, hn⟩ := h
  exact ⟨n + 1, wk_step.mpr ⟨s, hs, eN_pos.mpr ⟨a, ha, e⟩, hn⟩⟩
theorem rch_inv {k sz t : Nat} {tg : Nat → Nat → Option Nat} (h : rch k sz tg t) : t = 0 ∨ ∃ s, s < sz ∧ rch k sz tg s ∧ 0 < eN k tg s t := by
  obtain ⟨n, hn⟩ := h
  cases n with
  | zero => exact Or.inl (wk_00 hn)
  | succ n =>
    obtain ⟨s, hs, h1, h2⟩ := wk_step.mp hn
    exact Or.inr ⟨s, hs, ⟨n, h2⟩, h1⟩
/-- all the steps to t from what is reached -/
noncomputable def tot (k sz : Nat) (tg : Nat → Nat → Option Nat) (t : Nat) : Nat := sumN (fun s => pif (rch k sz tg s) (eN k tg s t) 0) sz
theorem tot_le {k sz t : Nat} {tg : Nat → Nat → Option Nat} : tot k sz tg t ≤ sz * k := sumN_le sz fun s _ => Nat.le_trans (pif_le _) (cntN_le _ k)
/-- what holds while arrivals are counted -/
def caI (k sz : Nat) (tg : Nat → Nat → Option Nat) (Q : Nat → Nat) (r h a : Nat) (f : Nat → Int32) : Prop := 0 < r ∧ Q 0 = 0 ∧ qI sz Q r ∧ (∀ i, i < r → rch k sz tg (Q i)) ∧ (∀ t, t < sz → f t = nI (pB k tg Q h a t)) ∧ ∀ t, t < sz → ((∃ i, i < r ∧ Q i = t) ↔ t = 0 ∨ 0 < pB k tg Q h a t)
theorem caI_adv {k sz r h : Nat} {tg : Nat → Nat → Option Nat} {Q : Nat → Nat} {f : Nat → Int32} (i : caI k sz tg Q r h k f) : caI k sz tg Q r (h + 1) 0 f := i
theorem caI_none {k sz r h a : Nat} {tg : Nat → Nat → Option Nat} {Q : Nat → Nat} {f : Nat → Int32} (i : caI k sz tg Q r h a f) (e : tg (Q h) a = none) : caI k sz tg Q r h (a + 1) f := by
  have hn : ∀ t, ¬ tg (Q h) a = some t := fun t z => by rw [e] at z; cases z
  obtain ⟨i1, i2, i3, i4, i5, i6⟩ := i
  exact ⟨i1, i2, i3, i4, fun t ht => by rw [pB_n (hn t)]; exact i5 t ht, fun t ht => by rw [pB_n (hn t)]; exact i6 t ht⟩
theorem caI_old {k sz r h a t0 : Nat} {tg : Nat → Nat → Option Nat} {Q : Nat → Nat} {f : Nat → Int32} (i : caI k sz tg Q r h a f) (e : tg (Q h) a = some t0) (ht0 : t0 < sz) (hp : 0 < pB k tg Q h a t0) : caI k sz tg Q r h (a + 1) (upd f t0 (f t0 + 1)) := by
  obtain ⟨i1, i2, i3, i4, i5, i6⟩ := i
  refine ⟨i1, i2, i3, i4, fun t ht => ?_, fun t ht => ?_⟩
  · by_cases et : t = t0
    · rw [et, upd_eq, pB_y e, i5 t0 ht0, nI_1]
    · rw [upd_ne et, pB_n (fun z => et (Option.some.inj (e.symm.trans z)).symm)]
      exact i5 t ht
  · by_cases et : t = t0
    · rw [et, pB_y e]
      have := (i6 t0 ht0).mpr (Or.inr hp)
      exact ⟨fun _ => Or.inr (by omega), fun _ => this⟩
    · rw [pB_n (fun z => et (Option.some.inj (e.symm.trans z)).symm)]
      exact i6 t ht
theorem caI_new {k sz r h a t0 : Nat} {tg : Nat → Nat → Option Nat} {Q : Nat → Nat} {f : Nat → Int32} (i : caI k sz tg Q r h a f) (hh : h < r) (ha : a < k) (e : tg (Q h) a = some t0) (h0 : 0 < t0) (ht0 : t0 < sz) (hp : pB k tg Q h a t0 = 0) : r < sz ∧ caI k sz tg (ups Q r t0) (r + 1) h (a + 1) (upd f t0 (f t0 + 1)) := by
  obtain ⟨i1, i2, i3, i4, i5, i6⟩ := i
  have hnew : ¬ ∃ i, i < r ∧ Q i = t0 := fun z => by
    have := (i6 t0 ht0).mp z
    omega
  have hq := qI_ups i3 ht0 hnew
  have e' : tg (ups Q r t0 h) a = some t0 := by rw [ups_ne (by omega)]; exact e
  refine ⟨by have := qI_le hq; omega, by omega, by rw [ups_ne (by omega)]; exact i2, hq, fun i hi => ?_, fun t ht => ?_, fun t ht => ?_⟩
  · by_cases er : i = r
    · rw [er, ups_eq]
      exact rch_step (i3.1 h hh) (i4 h hh) ha e
    · rw [ups_ne er]
      exact i4 i (by omega)
  · by_cases et : t = t0
    · rw [et, upd_eq, pB_y e', pB_ups hh, i5 t0 ht0, nI_1]
    · rw [upd_ne et, pB_n (fun z => et (Option.some.inj (e'.symm.trans z)).symm), pB_ups hh]
      exact i5 t ht
  · rw [ups_in]
    by_cases et : t = t0
    · rw [et, pB_y e']
      exact ⟨fun _ => Or.inr (by omega), fun _ => Or.inr rfl⟩
    · rw [pB_n (fun z => et (Option.some.inj (e'.symm.trans z)).symm), pB_ups hh, i6 t ht]
      exact ⟨fun z => z.resolve_right et, Or.inl⟩
theorem caI_end {k sz r : Nat} {tg : Nat → Nat → Option Nat} {Q : Nat → Nat} {f : Nat → Int32} (hsz : ∀ s a t, tg s a = some t → t < sz) (h0 : 0 < sz) (i : caI k sz tg Q r r 0 f) : r = cntN (fun s => rch k sz tg s) sz ∧ ∀ t, t < sz → f t = nI (tot k sz tg t) := by
  obtain ⟨i1, i2, i3, i4, i5, i6⟩ := i
  have all : ∀ n t, 0 < wkN k sz tg n t → t < sz ∧ ∃ i, i < r ∧ Q i = t := by
    intro n
    induction n with
    | zero => intro t h; exact ⟨by rw [wk_00 h]; exact h0, 0, i1, by rw [wk_00 h]; exact i2⟩
    | succ n ih =>
      intro t h
      obtain ⟨s, hs, z1, z2⟩ := wk_step.mp h
      obtain ⟨-, j, hj, ej⟩ := ih s z2
      obtain ⟨a, ha, ea⟩ := eN_pos.mp z1
      have ht := hsz s a t ea
      exact ⟨ht, (i6 t ht).mpr (Or.inr (pB_pos.mpr (Or.inl ⟨j, hj, by rw [ej]; exact z1⟩)))⟩
  have hiff : ∀ s, (∃ i, i < r ∧ Q i = s) ↔ rch k sz tg s := fun s => ⟨fun ⟨i, hi, e⟩ => by rw [← e]; exact i4 i hi, fun ⟨n, hn⟩ => (all n s hn).2⟩
  refine ⟨(qI_cnt i3).trans (cntN_cg sz fun s _ => hiff s), fun t ht => ?_⟩
  rw [i5 t ht]
  have e : pB k tg Q r 0 t = sumN (fun i => eN k tg (Q i) t) r := rfl
  rw [e, sum_q (g := fun s => eN k tg s t) r i3]
  exact congrArg nI (sumN_cg sz fun s _ => pif_cg (hiff s))
end
