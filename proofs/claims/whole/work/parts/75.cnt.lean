/-! ===== counting: completions by their holes ===== -/
section
theorem pif_cg {A : Type} {P Q : Prop} {a b : A} (h : P ↔ Q) : pif P a b = pif Q a b := by
  by_cases z : P
  · rw [pif_t z, pif_t (h.mp z)]
  · rw [pif_f z, pif_f (fun u => z (h.mpr u))]
/-- how many of the first have the property -/
noncomputable def cntN (p : Nat → Prop) : Nat → Nat
  | 0 => 0
  | n + 1 => cntN p n + pif (p n) 1 0
theorem cntN_y {p : Nat → Prop} {n : Nat} (h : p n) : cntN p (n + 1) = cntN p n + 1 := by
  show cntN p n + pif (p n) 1 0 = _
  rw [pif_t h]
theorem cntN_n {p : Nat → Prop} {n : Nat} (h : ¬ p n) : cntN p (n + 1) = cntN p n := by
  show cntN p n + pif (p n) 1 0 = _
  rw [pif_f h]
  rfl
theorem cntN_le (p : Nat → Prop) : ∀ n, cntN p n ≤ n
  | 0 => Nat.le_refl 0
  | n + 1 => by
    have := cntN_le p n
    by_cases h : p n
    · rw [cntN_y h]; omega
    · rw [cntN_n h]; omega
theorem cntN_cg {p q : Nat → Prop} : ∀ n, (∀ i, i < n → (p i ↔ q i)) → cntN p n = cntN q n
  | 0, _ => rfl
  | n + 1, h => by
    show cntN p n + pif (p n) 1 0 = cntN q n + pif (q n) 1 0
    rw [cntN_cg n (fun i hi => h i (by omega)), pif_cg (h n (by omega))]
theorem cntN_add (p : Nat → Prop) (a : Nat) : ∀ b, cntN p (a + b) = cntN p a + cntN (fun i => p (a + i)) b
  | 0 => rfl
  | b + 1 => by
    show cntN p (a + b) + pif (p (a + b)) 1 0 = cntN p a + (cntN (fun i => p (a + i)) b + pif (p (a + b)) 1 0)
    rw [cntN_add p a b]
    omega
theorem cntN_no {p : Nat → Prop} : ∀ n, (∀ i, i < n → ¬ p i) → cntN p n = 0
  | 0, _ => rfl
  | n + 1, h => by rw [cntN_n (h n (by omega)), cntN_no n (fun i hi => h i (by omega))]
theorem cntN_ex {p q : Nat → Prop} {s : Nat} (hp : p s) (hq : ¬ q s) : ∀ n, s < n → (∀ i, i < n → i ≠ s → (p i ↔ q i)) → cntN p n = cntN q n + 1
  | 0, h, _ => absurd h (Nat.not_lt_zero s)
  | n + 1, h, e => by
    by_cases hs : s = n
    · subst hs
      rw [cntN_y hp, cntN_n hq, cntN_cg s (fun i hi => e i (by omega) (by omega))]
    · show cntN p n + pif (p n) 1 0 = cntN q n + pif (q n) 1 0 + 1
      rw [cntN_ex hp hq n (by omega) (fun i hi hn => e i (by omega) hn), pif_cg (e n (by omega) (fun z => hs z.symm))]
      omega
theorem cntN_pos {p : Nat → Prop} : ∀ n, 0 < cntN p n → ∃ i, i < n ∧ p i
  | 0, h => absurd h (Nat.lt_irrefl 0)
  | n + 1, h => by
    by_cases hp : p n
    · exact ⟨n, by omega, hp⟩
    · rw [cntN_n hp] at h
      obtain ⟨i, hi, hpi⟩ := cntN_pos n h
      exact ⟨i, by omega, hpi⟩
def sumN (f : Nat → Nat) : Nat → Nat
  | 0 => 0
  | n + 1 => sumN f n + f n
theorem sumN_cg {f g : Nat → Nat} : ∀ n, (∀ i, i < n → f i = g i) → sumN f n = sumN g n
  | 0, _ => rfl
  | n + 1, h => by
    show sumN f n + f n = sumN g n + g n
    rw [sumN_cg n (fun i hi => h i (by omega)), h n (by omega)]
theorem sumN_const (c : Nat) : ∀ n, sumN (fun _ => c) n = n * c
  | 0 => (Nat.zero_mul c).symm
  | n + 1 => by
    show sumN (fun _ => c) n + c = _
    rw [sumN_const c n, Nat.add_mul, Nat.one_mul]
theorem sumN_one {c s : Nat} {f : Nat → Nat} (hs : f s = c) : ∀ n, s < n → (∀ i, i < n → i ≠ s → f i = 0) → sumN f n = c
  | 0, h, _ => absurd h (Nat.not_lt_zero s)
  | n + 1, h, e => by
    show sumN f n + f n = c
    by_cases hn : s = n
    · subst hn
      rw [hs, sumN_cg (g := fun _ => 0) s (fun i hi => e i (by omega) (by omega)), sumN_const]
      omega
    · rw [sumN_one hs n (by omega) (fun i hi hni => e i (by omega) hni), e n (by omega) (fun z => hn z.symm)]
      rfl
theorem cntN_mul (p : Nat → Prop) (M : Nat) : ∀ k, cntN p (k * M) = sumN (fun a => cntN (fun r => p (a * M + r)) M) k
  | 0 => by rw [Nat.zero_mul]; rfl
  | k + 1 => by
    rw [Nat.add_mul, Nat.one_mul, cntN_add, cntN_mul p M k]
    rfl
/-- the first hole -/
theorem first_hole {f : Nat → Int32} : ∀ n, 0 < wholes f n → ∃ j, j < n ∧ f j = -1 ∧ wholes f j = 0
  | 0, h => absurd h (Nat.lt_irrefl 0)
  | n + 1, h => by
    by_cases h0 : 0 < wholes f n
    · obtain ⟨j, hj, a, b⟩ := first_hole n h0
      exact ⟨j, by omega, a, b⟩
    · by_cases hf : f n = -1
      · exact ⟨n, by omega, hf, by omega⟩
      · rw [wholes_n hf] at h
        exact absurd h h0
theorem wholes_upd {f : Nat → Int32} {j : Nat} {x : Int32} (hf : f j = -1) (hx : ¬ x = -1) : ∀ m, wholes (upd f j x) m + (if j < m then 1 else 0) = wholes f m
  | 0 => rfl
  | m + 1 => by
    have ih := wholes_upd hf hx m
    by_cases e : m = j
    · subst e
      rw [if_neg (Nat.lt_irrefl m)] at ih
      rw [if_pos (Nat.lt_succ_self m), wholes_n (show ¬ upd f m x m = -1 by rw [upd_eq]; exact hx), wholes_y hf]
      omega
    · have e2 : (if j < m + 1 then 1 else 0) = (if j < m then 1 else 0) := by
        by_cases h : j < m
        · rw [if_pos h, if_pos (by omega)]
        · rw [if_neg h, if_neg (by omega)]
      rw [e2]
      by_cases h : f m = -1
      · rw [wholes_y h, wholes_y (show upd f j x m = -1 by rw [upd_ne e]; exact h)]
        omega
      · rw [wholes_n h, wholes_n (show ¬ upd f j x m = -1 by rw [upd_ne e]; exact h)]
        exact ih
theorem div_top {k a e h r : Nat} (hk : 0 < k) (he : e < h) : (a * k ^ h + r) / k ^ e % k = r / k ^ e % k := by
  have hp : 0 < k ^ e := Nat.pow_pos hk
  obtain ⟨x, hx⟩ : ∃ x, h = e + 1 + x := ⟨h - e - 1, by omega⟩
  have e1 : a * k ^ h + r = r + k ^ e * (a * k ^ x * k) := by
    rw [hx, Nat.pow_add, Nat.pow_succ, Nat.add_comm]
    congr 1
    ac_rfl
  rw [e1, Nat.add_mul_div_left _ _ hp, Nat.add_mul_mod_self_right]
/-- a completion by its first hole -/
theorem wdig_top {k n h a r j i : Nat} {f : Nat → Int32} (hk : 0 < k) (hk3 : k ≤ 3) (ha : a < k) (hr : r < k ^ h) (hh : wholes f n = h + 1) (hj : j < n) (hf : f j = -1) (h0 : wholes f j = 0) (hi : i < n) : wdig k f n (a * k ^ h + r) i = wdig k (upd f j (nI a)) n r i := by
  have hx : ¬ nI a = -1 := nI_nm1 a (by omega)
  have hw : ∀ m, wholes (upd f j (nI a)) m + (if j < m then 1 else 0) = wholes f m := wholes_upd hf hx
  have hpk : 0 < k ^ h := Nat.pow_pos hk
  by_cases e : i = j
  · subst e
    have e1 : wdig k f n (a * k ^ h + r) i = nI ((a * k ^ h + r) / k ^ (wholes f n - wholes f (i + 1)) % k) := if_pos hf
    have e2 : wdig k (upd f i (nI a)) n r i = upd f i (nI a) i := if_neg (by rw [upd_eq]; exact hx)
    rw [e1, e2, upd_eq, wholes_y hf, hh, h0, show h + 1 - (0 + 1) = h by omega, Nat.add_comm, Nat.add_mul_div_right _ _ hpk, Nat.div_eq_of_lt hr, Nat.zero_add, Nat.mod_eq_of_lt ha]
  · by_cases hfi : f i = -1
    · have hij : j < i := by
        refine Classical.byContradiction fun z => ?_
        have h1 := wholes_mono f (show i + 1 ≤ j by omega)
        rw [wholes_y hfi] at h1
        omega
      have e1 : wdig k f n (a * k ^ h + r) i = nI ((a * k ^ h + r) / k ^ (wholes f n - wholes f (i + 1)) % k) := if_pos hfi
      have e2 : wdig k (upd f j (nI a)) n r i = nI (r / k ^ (wholes (upd f j (nI a)) n - wholes (upd f j (nI a)) (i + 1)) % k) := if_pos (by rw [upd_ne e]; exact hfi)
      have w1 := hw n
      have w2 := hw (i + 1)
      rw [if_pos hj] at w1
      rw [if_pos (by omega)] at w2
      have h2 : wholes f (j + 1) ≤ wholes f i := wholes_mono f hij
      rw [wholes_y hf, h0] at h2
      have h3 := wholes_y hfi
      have h4 := wholes_mono f (show i + 1 ≤ n by omega)
      rw [e1, e2, show wholes (upd f j (nI a)) n - wholes (upd f j (nI a)) (i + 1) = wholes f n - wholes f (i + 1) by omega, div_top hk (by omega)]
    · have e1 : wdig k f n (a * k ^ h + r) i = f i := if_neg hfi
      have e2 : wdig k (upd f j (nI a)) n r i = upd f j (nI a) i := if_neg (by rw [upd_ne e]; exact hfi)
      rw [e1, e2, upd_ne e]
/-- counting completions by the letter at the first hole -/
theorem cnt_fill {k n h j : Nat} {f : Nat → Int32} {Q : (Nat → Int32) → Prop} (hQ : ∀ g g' : Nat → Int32, (∀ i, i < n → g i = g' i) → (Q g ↔ Q g')) (hk : 0 < k) (hk3 : k ≤ 3) (hh : wholes f n = h + 1) (hj : j < n) (hf : f j = -1) (h0 : wholes f j = 0) : cntN (fun num => Q (wdig k f n num)) (k ^ (h + 1)) = sumN (fun a => cntN (fun r => Q (wdig k (upd f j (nI a)) n r)) (k ^ h)) k := by
  rw [Nat.pow_succ, Nat.mul_comm, cntN_mul]
  refine sumN_cg k fun a ha => ?_
  refine cntN_cg _ fun r hr => ?_
  exact hQ _ _ fun i hi => wdig_top hk hk3 ha hr hh hj hf h0 hi
theorem wdf_irr (x : Int32) : ¬ wdf x x := fun z => z.2.2 rfl
/-- a strong period by the classes of positions -/
theorem perS_iff {n d : Nat} {f : Nat → Int32} (hd : 0 < d) : perS n f d ↔ ∀ i j, i < n → j < n → i % d = j % d → ¬ wdf (f i) (f j) := by
  refine ⟨fun h => ?_, fun h k hk i hi => ?_⟩
  · have key : ∀ i j, i < j → j < n → i % d = j % d → ¬ wdf (f i) (f j) := by
      intro i j hij hj e
      have a1 := Nat.div_add_mod i d
      have a2 := Nat.div_add_mod j d
      have hlt : i / d < j / d := by
        refine Classical.byContradiction fun z => ?_
        have : d * (j / d) ≤ d * (i / d) := Nat.mul_le_mul_left d (by omega)
        omega
      have e2 : i + (j / d - i / d) * d = j := by
        have : (j / d - i / d) * d = d * (j / d) - d * (i / d) := by rw [Nat.sub_mul, Nat.mul_comm, Nat.mul_comm (i / d)]
        have : d * (i / d) ≤ d * (j / d) := Nat.mul_le_mul_left d (by omega)
        omega
      have := h (j / d - i / d) (by omega) i (by omega)
      rw [e2] at this
      exact this
    intro i j hi hj e
    rcases Nat.lt_trichotomy i j with z | z | z
    · exact key i j z hj e
    · rw [z]; exact wdf_irr _
    · exact fun u => key j i z hi e.symm (wdf_symm u)
  · exact h i (i + k * d) (by omega) hi (by rw [Nat.add_mul_mod_self_right])
theorem perS_cg {n d : Nat} (hd : 0 < d) (g g' : Nat → Int32) (h : ∀ i, i < n → g i = g' i) : perS n g d ↔ perS n g' d := by
  rw [perS_iff hd, perS_iff hd]
  exact ⟨fun z i j hi hj e => by rw [← h i hi, ← h j hj]; exact z i j hi hj e, fun z i j hi hj e => by rw [h i hi, h j hj]; exact z i j hi hj e⟩
/-- the number of classes of positions that hold no letter -/
noncomputable def chol (n d : Nat) (f : Nat → Int32) : Nat := cntN (fun s => ∀ i, i < n → i % d = s → f i = -1) d
def fY (k n : Nat) (f : Nat → Int32) : Prop := ∀ i, i < n → f i = -1 ∨ ∃ l, l < k ∧ f i = nI l
theorem fY_upd {k n j a : Nat} {f : Nat → Int32} (h : fY k n f) (ha : a < k) : fY k n (upd f j (nI a)) := fun i hi => by
  by_cases e : i = j
  · rw [e, upd_eq]; exact Or.inr ⟨a, ha, rfl⟩
  · rw [upd_ne e]; exact h i hi
/-- the completions with the period d -/
theorem per_cnt {k n d : Nat} (hk : 0 < k) (hk3 : k ≤ 3) (hd : 0 < d) (hdn : d ≤ n) : ∀ h f, wholes f n = h → fY k n f → cntN (fun num => perS n (wdig k f n num) d) (k ^ h) = pif (perS n f d) (k ^ chol n d f) 0
  | 0, f, hh, hY => by
    have hno : ∀ i, i < n → ¬ f i = -1 := fun i hi z => by
      have h1 := wholes_mono f (show i + 1 ≤ n by omega)
      rw [wholes_y z] at h1
      omega
    have e0 : chol n d f = 0 := cntN_no d (fun s hs z => hno s (by omega) (z s (by omega) (Nat.mod_eq_of_lt hs)))
    have e1 : perS n (wdig k f n 0) d ↔ perS n f d := perS_cg hd _ _ (fun i hi => if_neg (hno i hi))
    rw [e0, Nat.pow_zero]
    show 0 + pif (perS n (wdig k f n 0) d) 1 0 = _
    rw [pif_cg e1, Nat.zero_add]
  | h + 1, f, hh, hY => by
    obtain ⟨j, hj, hf, h0⟩ := first_hole (f := f) n (by omega)
    rw [cnt_fill (Q := fun g => perS n g d) (perS_cg hd) hk hk3 hh hj hf h0]
    have hx : ∀ a, a < k → ¬ nI a = -1 := fun a ha => nI_nm1 a (by omega)
    have IH : ∀ a, a < k → cntN (fun r => perS n (wdig k (upd f j (nI a)) n r) d) (k ^ h) = pif (perS n (upd f j (nI a)) d) (k ^ chol n d (upd f j (nI a))) 0 := fun a ha => by
      refine per_cnt hk hk3 hd hdn h (upd f j (nI a)) ?_ (fY_upd hY ha)
      have := wholes_upd hf (hx a ha) n
      rw [if_pos hj] at this
      omega
    rw [sumN_cg (g := fun a => pif (perS n (upd f j (nI a)) d) (k ^ chol n d (upd f j (nI a))) 0) k IH]
    have weak : ∀ a, perS n (upd f j (nI a)) d → perS n f d := fun a z => by
      rw [perS_iff hd] at z ⊢
      intro i i2 hi hi2 e
      by_cases e1 : i = j
      · rw [e1, hf]; exact fun u => u.1 rfl
      · by_cases e2 : i2 = j
        · rw [e2, hf]; exact fun u => u.2.1 rfl
        · have := z i i2 hi hi2 e
          rw [upd_ne e1, upd_ne e2] at this
          exact this
    by_cases hc : ∀ i, i < n → i % d = j % d → f i = -1
    · have e2 : ∀ a, a < k → chol n d f = chol n d (upd f j (nI a)) + 1 := fun a ha => by
        refine cntN_ex (s := j % d) hc (fun z => hx a ha ?_) d (Nat.mod_lt _ hd) (fun s hs hsj => ?_)
        · have := z j hj rfl
          rw [upd_eq] at this
          exact this
        · refine ⟨fun z i hi e => ?_, fun z i hi e => ?_⟩
          · rw [upd_ne (fun u => hsj (by rw [← e, u]))]; exact z i hi e
          · have := z i hi e
            rw [upd_ne (fun u => hsj (by rw [← e, u]))] at this
            exact this
      have e1 : ∀ a, a < k → (perS n (upd f j (nI a)) d ↔ perS n f d) := fun a ha => ⟨weak a, fun z => by
        rw [perS_iff hd] at z ⊢
        intro i i2 hi hi2 e
        by_cases e1 : i = j
        · by_cases e2 : i2 = j
          · rw [e1, e2]; exact wdf_irr _
          · rw [upd_ne e2, hc i2 hi2 (by rw [← e, e1])]
            exact fun u => u.2.1 rfl
        · by_cases e2 : i2 = j
          · rw [upd_ne e1, hc i hi (by rw [e, e2])]
            exact fun u => u.1 rfl
          · rw [upd_ne e1, upd_ne e2]
            exact z i i2 hi hi2 e⟩
      have e3 := e2 0 hk
      rw [sumN_cg (g := fun _ => pif (perS n f d) (k ^ (chol n d f - 1)) 0) k (fun a ha => by
        show pif (perS n (upd f j (nI a)) d) (k ^ chol n d (upd f j (nI a))) 0 = _
        rw [pif_cg (e1 a ha), e2 a ha, Nat.add_sub_cancel]), sumN_const]
      by_cases hp : perS n f d
      · rw [pif_t hp, pif_t hp, Nat.mul_comm, ← Nat.pow_succ, show (chol n d f - 1).succ = chol n d f by omega]
      · rw [pif_f hp, pif_f hp, Nat.mul_zero]
    · obtain ⟨i0, hi0, hm0, hf0⟩ : ∃ i, i < n ∧ i % d = j % d ∧ ¬ f i = -1 := Classical.byContradiction fun z => hc fun i hi e => Classical.byContradiction fun u => z ⟨i, hi, e, u⟩
      obtain ⟨b, hb, hfb⟩ := (hY i0 hi0).resolve_left hf0
      have hi0j : i0 ≠ j := fun e => hf0 (by rw [e]; exact hf)
      have e2 : ∀ a, a < k → chol n d (upd f j (nI a)) = chol n d f := fun a ha => by
        refine cntN_cg d fun s hs => ?_
        refine ⟨fun z i hi e => ?_, fun z i hi e => ?_⟩
        · by_cases u : i = j
          · exfalso
            have := z i0 hi0 (by rw [hm0, ← u, e])
            rw [upd_ne hi0j] at this
            exact hf0 this
          · have := z i hi e
            rw [upd_ne u] at this
            exact this
        · by_cases u : i = j
          · exact absurd (z i0 hi0 (by rw [hm0, ← u, e])) hf0
          · rw [upd_ne u]; exact z i hi e
      by_cases hp : perS n f d
      · have e1 : ∀ a, a < k → (perS n (upd f j (nI a)) d ↔ a = b) := fun a ha => by
          refine ⟨fun z => ?_, fun e => ?_⟩
          · rw [perS_iff hd] at z
            have := z i0 j hi0 hj hm0
            rw [upd_ne hi0j, upd_eq, hfb] at this
            refine Classical.byContradiction fun u => this ⟨hx b hb, hx a ha, fun v => u ?_⟩
            exact (nI_inj (by omega) (by omega) v).symm
          · subst e
            rw [perS_iff hd] at hp ⊢
            intro i i2 hi hi2 e
            by_cases u1 : i = j
            · by_cases u2 : i2 = j
              · rw [u1, u2]; exact wdf_irr _
              · rw [u1, upd_eq, upd_ne u2, ← hfb]
                exact hp i0 i2 hi0 hi2 (by rw [hm0, ← u1, e])
            · by_cases u2 : i2 = j
              · rw [u2, upd_eq, upd_ne u1, ← hfb]
                exact hp i i0 hi hi0 (by rw [hm0, ← u2, e])
              · rw [upd_ne u1, upd_ne u2]
                exact hp i i2 hi hi2 e
        rw [pif_t hp]
        refine sumN_one (s := b) ?_ k hb (fun a ha hne => ?_)
        · show pif (perS n (upd f j (nI b)) d) (k ^ chol n d (upd f j (nI b))) 0 = _
          rw [pif_t ((e1 b hb).mpr rfl), e2 b hb]
        · show pif (perS n (upd f j (nI a)) d) (k ^ chol n d (upd f j (nI a))) 0 = _
          rw [pif_f (fun z => hne ((e1 a ha).mp z))]
      · rw [pif_f hp, sumN_cg (g := fun _ => 0) k (fun a ha => by
          show pif (perS n (upd f j (nI a)) d) (k ^ chol n d (upd f j (nI a))) 0 = _
          rw [pif_f (fun z => hp (weak a z))]), sumN_const, Nat.mul_zero]
end
