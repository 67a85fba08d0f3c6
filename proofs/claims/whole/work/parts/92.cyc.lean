/-! ===== closed walks, by their numbers ===== -/
section
def lex (n m n' m' : Nat) : Prop := n < n' ∨ (n = n' ∧ m < m')
theorem lex_tot (n m n' m' : Nat) : lex n m n' m' ∨ (n = n' ∧ m = m') ∨ lex n' m' n m := by unfold lex; omega
theorem lex_irr {n m : Nat} (h : lex n m n m) : False := by unfold lex at h; omega
/-- the state behind a walk of n letters with the number m -/
def gw (k : Nat) (tg : Nat → Nat → Option Nat) : Nat → Nat → Nat → Option Nat
  | 0, _, v => some v
  | n + 1, m, v => (gw k tg n (m / k) v).bind (fun x => tg x (m % k))
theorem gw_inv {k n m v t : Nat} {tg : Nat → Nat → Option Nat} (h : gw k tg (n + 1) m v = some t) : ∃ x, gw k tg n (m / k) v = some x ∧ tg x (m % k) = some t := by
  have h : (gw k tg n (m / k) v).bind (fun x => tg x (m % k)) = some t := h
  cases e : gw k tg n (m / k) v with
  | none => rw [e] at h; cases h
  | some x => rw [e] at h; exact ⟨x, rfl, h⟩
theorem gw_mk {k n m v t x : Nat} {tg : Nat → Nat → Option Nat} (h : gw k tg n (m / k) v = some x) (h2 : tg x (m % k) = some t) : gw k tg (n + 1) m v = some t := by
  show (gw k tg n (m / k) v).bind (fun x => tg x (m % k)) = some t
  rw [h]
  exact h2
theorem mka {k m a : Nat} (ha : a < k) : (m * k + a) / k = m ∧ (m * k + a) % k = a := by
  have hk : 0 < k := by omega
  constructor
  · rw [Nat.mul_comm, Nat.mul_add_div hk, Nat.div_eq_of_lt ha, Nat.add_zero]
  · rw [Nat.mul_comm, Nat.mul_add_mod, Nat.mod_eq_of_lt ha]
theorem gw_step {k n m v t x a : Nat} {tg : Nat → Nat → Option Nat} (ha : a < k) (h : gw k tg n m v = some x) (h2 : tg x a = some t) : gw k tg (n + 1) (m * k + a) v = some t := gw_mk (x := x) (by rw [(mka ha).1]; exact h) (by rw [(mka ha).2]; exact h2)
theorem app_lt {k p q a b : Nat} (ha : a < k ^ p) (hb : b < k ^ q) : a * k ^ q + b < k ^ (p + q) := by
  rw [Nat.pow_add]
  have : (a + 1) * k ^ q ≤ k ^ p * k ^ q := Nat.mul_le_mul_right _ ha
  rw [Nat.add_mul, Nat.one_mul] at this
  omega
theorem app_div {k q a b : Nat} (hk : 0 < k) : (a * k ^ (q + 1) + b) / k = a * k ^ q + b / k ∧ (a * k ^ (q + 1) + b) % k = b % k := by
  have e : a * k ^ (q + 1) + b = k * (a * k ^ q) + b := by
    rw [Nat.pow_succ, ← Nat.mul_assoc, Nat.mul_comm _ k]
  rw [e]
  exact ⟨Nat.mul_add_div hk _ _, Nat.mul_add_mod _ _ _⟩
/-- a walk, and then another one -/
theorem gw_app {k p m1 v t : Nat} {tg : Nat → Nat → Option Nat} (hk : 0 < k) : ∀ q m2 t, m2 < k ^ q → (gw k tg (p + q) (m1 * k ^ q + m2) v = some t ↔ ∃ x, gw k tg p m1 v = some x ∧ gw k tg q m2 x = some t)
  | 0, m2, t, h => by
    have e : m2 = 0 := by rw [Nat.pow_zero] at h; omega
    rw [e, Nat.pow_zero, Nat.mul_one, Nat.add_zero]
    exact ⟨fun z => ⟨t, z, rfl⟩, fun ⟨x, z1, z2⟩ => by
      have e : x = t := Option.some.inj z2
      rw [← e]; exact z1⟩
  | q + 1, m2, t, h => by
    have h2 : m2 / k < k ^ q := (Nat.div_lt_iff_lt_mul hk).mpr (by rw [← Nat.pow_succ]; exact h)
    have ih := fun t => gw_app (p := p) (m1 := m1) (v := v) (t := v) (tg := tg) hk q (m2 / k) t h2
    obtain ⟨e1, e2⟩ := app_div (q := q) (a := m1) (b := m2) hk
    refine ⟨fun z => ?_, fun ⟨x, z1, z2⟩ => ?_⟩
    · obtain ⟨y, z1, z2⟩ := gw_inv (n := p + q) z
      rw [e1] at z1
      rw [e2] at z2
      obtain ⟨x, z3, z4⟩ := (ih y).mp z1
      exact ⟨x, z3, gw_mk z4 z2⟩
    · obtain ⟨y, z3, z4⟩ := gw_inv z2
      refine gw_mk (n := p + q) (x := y) ?_ ?_
      · rw [e1]; exact (ih y).mpr ⟨x, z1, z3⟩
      · rw [e2]; exact z4
theorem gw_1 {k a v t : Nat} {tg : Nat → Nat → Option Nat} (ha : a < k) : gw k tg 1 a v = some t ↔ tg v a = some t := by
  have e : a / k = 0 ∧ a % k = a := ⟨Nat.div_eq_of_lt ha, Nat.mod_eq_of_lt ha⟩
  refine ⟨fun z => ?_, fun z => gw_mk (n := 0) (x := v) rfl (by rw [e.2]; exact z)⟩
  obtain ⟨x, z1, z2⟩ := gw_inv z
  have e3 : v = x := Option.some.inj z1
  rw [e.2, ← e3] at z2
  exact z2
/-- the first letter of a walk -/
theorem gw_head {k n m v t : Nat} {tg : Nat → Nat → Option Nat} (hk : 0 < k) (hm : m < k ^ (n + 1)) (h : gw k tg (n + 1) m v = some t) : ∃ x, m / k ^ n < k ∧ tg v (m / k ^ n) = some x ∧ gw k tg n (m % k ^ n) x = some t := by
  have hp : 0 < k ^ n := Nat.pow_pos hk
  have e : m / k ^ n * k ^ n + m % k ^ n = m := by rw [Nat.mul_comm]; exact Nat.div_add_mod m (k ^ n)
  have ha : m / k ^ n < k := (Nat.div_lt_iff_lt_mul hp).mpr (by rw [Nat.pow_succ, Nat.mul_comm] at hm; exact hm)
  have h2 := gw_app (k := k) (p := 1) (m1 := m / k ^ n) (v := v) (t := v) (tg := tg) hk n (m % k ^ n) t (Nat.mod_lt _ hp)
  rw [e, Nat.add_comm 1 n] at h2
  obtain ⟨x, z1, z2⟩ := h2.mp h
  exact ⟨x, ha, (gw_1 ha).mp z1, z2⟩
theorem gw_cons {k n m a v x t : Nat} {tg : Nat → Nat → Option Nat} (ha : a < k) (hm : m < k ^ n) (h : tg v a = some x) (h2 : gw k tg n m x = some t) : gw k tg (n + 1) (a * k ^ n + m) v = some t := by
  have := (gw_app (k := k) (p := 1) (m1 := a) (v := v) (t := v) (tg := tg) (by omega) n m t hm).mpr ⟨x, (gw_1 ha).mpr h, h2⟩
  rw [Nat.add_comm 1 n] at this
  exact this
def clo (k : Nat) (tg : Nat → Nat → Option Nat) (n m v : Nat) : Prop := 0 < n ∧ m < k ^ n ∧ gw k tg n m v = some v
/-- the cycles -/
def cyc (lo : Int32) (k c : Nat) (pn : Nat → Nat) (pg : Nat → Nat → Int32) (n m : Nat) : Prop := ∃ v, v < k ^ 4 ∧ clo k (tgR lo k c pn pg) n m v
theorem gw_GR {lo : Int32} {k c : Nat} {pn : Nat → Nat} {pg : Nat → Nat → Int32} (h : pOk c pn pg) (hk : 0 < k) : ∀ q m v t, v < k ^ 4 → m < k ^ q → gw k (tgR lo k c pn pg) q m v = some t → t < k ^ 4 ∧ gw k (tgL k (alP lo k c pn pg)) q m (off k 4 + v) = some (off k 4 + t)
  | 0, m, v, t, hv, _, e => by
    have e : v = t := Option.some.inj e
    rw [← e]
    exact ⟨hv, rfl⟩
  | q + 1, m, v, t, hv, hm, e => by
    obtain ⟨x, z1, z2⟩ := gw_inv e
    obtain ⟨hx, ih⟩ := gw_GR h hk q (m / k) v x hv ((Nat.div_lt_iff_lt_mul hk).mpr (by rw [← Nat.pow_succ]; exact hm)) z1
    have ha := Nat.mod_lt m hk
    unfold tgR at z2
    by_cases hav : avP lo k c pn pg 5 (x * k + m % k)
    · rw [pif_t hav] at z2
      have z2 := Option.some.inj z2
      refine ⟨by rw [← z2]; exact Nat.mod_lt _ (Nat.pow_pos hk), gw_mk ih ?_⟩
      rw [tgL_in ha, tgG_at (Nat.le_refl 4) hx]
      have hal := ((avP_step h (n := 4) ha).mp hav).2
      rw [show min 4 4 = 4 from rfl, Nat.mod_eq_of_lt hx] at hal
      rw [pif_t hal]
      unfold nxS
      rw [if_neg (Nat.lt_irrefl 4), z2]
    · rw [pif_f hav] at z2
      cases z2
theorem tgL_4 {k v a t : Nat} {al : Nat → Nat → Nat → Prop} (hk : 0 < k) (hv : v < k ^ 4) (h : tgL k al (off k 4 + v) a = some t) : a < k ∧ al 4 v a ∧ t = off k 4 + (v * k + a) % k ^ 4 := by
  unfold tgL at h
  by_cases ha : a < k
  · rw [if_pos ha, tgG_at (Nat.le_refl 4) hv] at h
    by_cases hal : al 4 v a
    · rw [pif_t hal] at h
      have h := Option.some.inj h
      unfold nxS at h
      rw [if_neg (Nat.lt_irrefl 4)] at h
      exact ⟨ha, hal, h.symm⟩
    · rw [pif_f hal] at h
      cases h
  · rw [if_neg ha] at h
    cases h
theorem gw_A {lo : Int32} {k c : Nat} {pn : Nat → Nat} {pg : Nat → Nat → Int32} (h : pOk c pn pg) (hk : 0 < k) : ∀ q m v t, v < k ^ 4 → gw k (tgL k (alP lo k c pn pg)) q m (off k 4 + v) = some t → ∃ x, x < k ^ 4 ∧ t = off k 4 + x ∧ (q ≤ 4 → avP lo k c pn pg q (x % k ^ q))
  | 0, m, v, t, hv, e => by
    have e : off k 4 + v = t := Option.some.inj e
    exact ⟨v, hv, e.symm, fun _ => avP_0 h _⟩
  | q + 1, m, v, t, hv, e => by
    obtain ⟨y, z1, z2⟩ := gw_inv e
    obtain ⟨x, hx, ex, hav⟩ := gw_A h hk q (m / k) v y hv z1
    rw [ex] at z2
    obtain ⟨ha, hal, et⟩ := tgL_4 hk hx z2
    refine ⟨_, Nat.mod_lt _ (Nat.pow_pos hk), et, fun hq => ?_⟩
    rw [Nat.mod_mod_of_dvd _ (Nat.pow_dvd_pow k hq), modmul ha]
    refine (avP_step h ha).mpr ⟨hav (by omega), ?_⟩
    rw [show min q 4 = q by omega, Nat.mod_mod]
    exact alP_mono ha (by omega) hal
theorem gw_B {lo : Int32} {k c : Nat} {pn : Nat → Nat} {pg : Nat → Nat → Int32} (h : pOk c pn pg) (hk : 0 < k) : ∀ q m v t, v < k ^ 4 → avP lo k c pn pg 4 v → gw k (tgL k (alP lo k c pn pg)) q m (off k 4 + v) = some t → ∃ x, x < k ^ 4 ∧ t = off k 4 + x ∧ avP lo k c pn pg 4 x ∧ gw k (tgR lo k c pn pg) q m v = some x
  | 0, m, v, t, hv, hav, e => by
    have e : off k 4 + v = t := Option.some.inj e
    exact ⟨v, hv, e.symm, hav, rfl⟩
  | q + 1, m, v, t, hv, hav, e => by
    obtain ⟨y, z1, z2⟩ := gw_inv e
    obtain ⟨x, hx, ex, hax, hR⟩ := gw_B h hk q (m / k) v y hv hav z1
    rw [ex] at z2
    obtain ⟨ha, hal, et⟩ := tgL_4 hk hx z2
    have h5 : avP lo k c pn pg 5 (x * k + m % k) := (avP_step h (n := 4) ha).mpr ⟨hax, by rw [show min 4 4 = 4 from rfl, Nat.mod_eq_of_lt hx]; exact hal⟩
    exact ⟨_, Nat.mod_lt _ (Nat.pow_pos hk), et, avP_tail hk (by omega) h5, gw_mk hR (by unfold tgR; rw [pif_t h5])⟩
theorem tgL_up {k s a t : Nat} {al : Nat → Nat → Nat → Prop} (hk : 0 < k) (h : tgL k al s a = some t) : (s < off k 4 → s < t) ∧ (off k 4 ≤ s → off k 4 ≤ t) := by
  unfold tgL at h
  by_cases ha : a < k
  · rw [if_pos ha] at h
    unfold tgG at h
    by_cases e : ∃ n u, n ≤ 4 ∧ u < k ^ n ∧ s = off k n + u ∧ al n u a
    · rw [pif_t e] at h
      have h := Option.some.inj h
      by_cases h4 : off k 4 ≤ s
      · rw [if_pos h4] at h
        exact ⟨fun z => by omega, fun _ => by rw [← h]; exact Nat.le_add_right _ _⟩
      · rw [if_neg h4] at h
        have : s * 1 ≤ s * k := Nat.mul_le_mul_left s hk
        exact ⟨fun z => by omega, fun z => by omega⟩
    · rw [pif_f e] at h
      cases h
  · rw [if_neg ha] at h
    cases h
theorem gw_up {k s : Nat} {al : Nat → Nat → Nat → Prop} (hk : 0 < k) (hs : s < off k 4) : ∀ q m t, gw k (tgL k al) q m s = some t → s ≤ t ∧ (0 < q → s < t)
  | 0, m, t, e => ⟨Nat.le_of_eq (Option.some.inj e), fun z => absurd z (Nat.lt_irrefl 0)⟩
  | q + 1, m, t, e => by
    obtain ⟨x, z1, z2⟩ := gw_inv e
    have h1 := (gw_up hk hs q (m / k) x z1).1
    have h2 := tgL_up hk z2
    have : s < t := by
      by_cases hx : x < off k 4
      · have := h2.1 hx; omega
      · have := h2.2 (by omega); omega
    exact ⟨by omega, fun _ => this⟩
/-- the cycles of both graphs -/
theorem cyc_G {lo : Int32} {k c n m : Nat} {pn : Nat → Nat} {pg : Nat → Nat → Int32} (h : pOk c pn pg) (hk : 0 < k) : (∃ s, s < off k 5 ∧ clo k (tgL k (alP lo k c pn pg)) n m s) ↔ cyc lo k c pn pg n m := by
  have o5 : off k 5 = off k 4 + k ^ 4 := off_add k 4
  refine ⟨fun ⟨s, hs, hn, hm, e⟩ => ?_, fun ⟨v, hv, hn, hm, e⟩ => ?_⟩
  · have h4 : off k 4 ≤ s := Nat.le_of_not_lt fun z => by
      have := (gw_up hk z n m s e).2 hn
      omega
    have es : s = off k 4 + (s - off k 4) := by omega
    have hv : s - off k 4 < k ^ 4 := by omega
    generalize s - off k 4 = v at *
    subst es
    have e2 := (gw_app (p := n) (t := v) hk n m _ hm).mpr ⟨_, e, e⟩
    have hm2 := app_lt hm hm
    have e4 := (gw_app (p := n + n) (t := v) hk (n + n) _ _ hm2).mpr ⟨_, e2, e2⟩
    have e44 : (n + n) + (n + n) = (4 * n - 4) + 4 := by omega
    rw [e44] at e4
    have hd : ∀ M, M / k ^ 4 * k ^ 4 + M % k ^ 4 = M := fun M => by rw [Nat.mul_comm]; exact Nat.div_add_mod M (k ^ 4)
    rw [← hd ((m * k ^ n + m) * k ^ (n + n) + (m * k ^ n + m))] at e4
    obtain ⟨y, z1, z2⟩ := (gw_app (p := 4 * n - 4) (t := v) hk 4 _ _ (Nat.mod_lt _ (Nat.pow_pos hk))).mp e4
    obtain ⟨x, hx, ex, -⟩ := gw_A h hk _ _ _ _ hv z1
    rw [ex] at z2
    obtain ⟨x2, hx2, ex2, hav⟩ := gw_A h hk 4 _ _ _ hx z2
    have ev : x2 = v := by omega
    have hav := hav (Nat.le_refl 4)
    rw [ev, Nat.mod_eq_of_lt hv] at hav
    obtain ⟨w, hw, ew, -, hR⟩ := gw_B h hk n m v _ hv hav e
    have ew2 : w = v := by omega
    rw [ew2] at hR
    exact ⟨v, hv, hn, hm, hR⟩
  · exact ⟨off k 4 + v, by omega, hn, hm, (gw_GR h hk n m v v hv hm e).2⟩
/-- the shortest cycle, the smallest one of these -/
def cMin (lo : Int32) (k c : Nat) (pn : Nat → Nat) (pg : Nat → Nat → Int32) (n m : Nat) : Prop := n ≤ 40 ∧ cyc lo k c pn pg n m ∧ ∀ n' m', cyc lo k c pn pg n' m' → ¬ lex n' m' n m
def cNone (lo : Int32) (k c : Nat) (pn : Nat → Nat) (pg : Nat → Nat → Int32) : Prop := ∀ n m, n ≤ 40 → ¬ cyc lo k c pn pg n m
theorem cMin_uq {lo : Int32} {k c n m n' m' : Nat} {pn : Nat → Nat} {pg : Nat → Nat → Int32} (h : cMin lo k c pn pg n m) (h' : cMin lo k c pn pg n' m') : n = n' ∧ m = m' := by
  have h1 := h.2.2 _ _ h'.2.1
  have h2 := h'.2.2 _ _ h.2.1
  have := lex_tot n m n' m'
  rcases this with z | z | z
  · exact absurd z h2
  · exact z
  · exact absurd z h1
end
