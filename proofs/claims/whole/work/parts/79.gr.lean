/-! ===== words by their numbers; which letter may follow ===== -/
section
/-- the letters of the word of length n with that number -/
def wlet (k n m i : Nat) : Int32 := nI (m / k ^ (n - 1 - i) % k)
theorem wlet_in {k n m a i : Nat} (ha : a < k) (hi : i < n) : wlet k (n + 1) (m * k + a) i = wlet k n m i := by
  unfold wlet
  obtain ⟨x, hx⟩ : ∃ x, n + 1 - 1 - i = x + 1 := ⟨n - 1 - i, by omega⟩
  rw [hx, show n - 1 - i = x by omega, Nat.pow_succ, Nat.mul_comm (k ^ x) k, ← Nat.div_div_eq_div_mul, show (m * k + a) / k = m from by
    rw [Nat.add_comm, Nat.add_mul_div_right _ _ (by omega), Nat.div_eq_of_lt ha, Nat.zero_add]]
theorem wlet_last {k n m a : Nat} (ha : a < k) : wlet k (n + 1) (m * k + a) n = nI a := by
  unfold wlet
  rw [show n + 1 - 1 - n = 0 by omega, Nat.pow_zero, Nat.div_one, Nat.add_comm, Nat.add_mul_mod_self_right, Nat.mod_eq_of_lt ha]
/-- the last letters -/
theorem wlet_tail {k n m j i : Nat} (hk : 0 < k) (hj : j ≤ n) (hi : i < j) : wlet k j (m % k ^ j) i = wlet k n m (n - j + i) := by
  unfold wlet
  rw [show n - 1 - (n - j + i) = j - 1 - i by omega]
  congr 1
  obtain ⟨x, hx⟩ : ∃ x, j = (j - 1 - i) + 1 + x := ⟨i, by omega⟩
  generalize j - 1 - i = e at *
  subst hx
  have hp : 0 < k ^ e := Nat.pow_pos hk
  rw [Nat.pow_add, Nat.pow_succ]
  have e1 : m = m % (k ^ e * k * k ^ x) + k ^ e * (k * (k ^ x * (m / (k ^ e * k * k ^ x)))) := by
    have := Nat.mod_add_div m (k ^ e * k * k ^ x)
    have e2 : k ^ e * (k * (k ^ x * (m / (k ^ e * k * k ^ x)))) = k ^ e * k * k ^ x * (m / (k ^ e * k * k ^ x)) := by
      generalize m / (k ^ e * k * k ^ x) = q
      ac_rfl
    rw [e2]
    exact this.symm
  conv => rhs; rw [e1]
  rw [Nat.add_mul_div_left _ _ hp, Nat.add_mul_mod_self_left]
/-- a pattern, but one, ends with the n-th symbol -/
def pAtX (lo : Int32) (c : Nat) (pn : Nat → Nat) (pg : Nat → Nat → Int32) (f : Nat → Int32) (n : Nat) : Prop := ∃ i, i < c ∧ ¬ nI i = lo ∧ pn i ≤ n ∧ ∀ x, x < pn i → ¬ wdf (pg i x) (f (n - pn i + x))
theorem wavX_at {lo : Int32} {c : Nat} {pn : Nat → Nat} {pg : Nat → Nat → Int32} (h : pOk c pn pg) {n : Nat} {f : Nat → Int32} : wavX lo c pn pg n f ↔ ∀ m, m < n → ¬ pAtX lo c pn pg f (m + 1) := by
  refine ⟨fun z m hm ⟨i, hi, hl, hn, w⟩ => ?_, fun z i hi hl p hp => Classical.byContradiction fun w => ?_⟩
  · obtain ⟨x, hx, hd⟩ := z i hi hl (m + 1 - pn i) (by omega)
    exact w x hx (wdf_symm hd)
  · have h1 := h.2.1 i hi
    refine z (p + pn i - 1) (by omega) ⟨i, hi, hl, by omega, fun x hx u => w ⟨x, hx, ?_⟩⟩
    rw [show p + pn i - 1 + 1 - pn i + x = p + x by omega] at u
    exact wdf_symm u
theorem pAtX_cg {lo : Int32} {c : Nat} {pn : Nat → Nat} {pg : Nat → Nat → Int32} {n : Nat} {f g : Nat → Int32} (e : ∀ i, i < n → f i = g i) : pAtX lo c pn pg f n ↔ pAtX lo c pn pg g n := by
  refine ⟨fun ⟨i, hi, hl, hn, w⟩ => ⟨i, hi, hl, hn, fun x hx => ?_⟩, fun ⟨i, hi, hl, hn, w⟩ => ⟨i, hi, hl, hn, fun x hx => ?_⟩⟩
  · rw [← e _ (by omega)]; exact w x hx
  · rw [e _ (by omega)]; exact w x hx
/-- whether a letter may follow a word of n letters -/
def alP (lo : Int32) (k c : Nat) (pn : Nat → Nat) (pg : Nat → Nat → Int32) (n u a : Nat) : Prop := ¬ pAtX lo c pn pg (wlet k (n + 1) (u * k + a)) (n + 1)
/-- whether a word avoids the patterns -/
def avP (lo : Int32) (k c : Nat) (pn : Nat → Nat) (pg : Nat → Nat → Int32) (n m : Nat) : Prop := wavX lo c pn pg n (wlet k n m)
theorem modmul {k n m a : Nat} (ha : a < k) : (m * k + a) % k ^ (n + 1) = (m % k ^ n) * k + a := by
  have hk : 0 < k := by omega
  have e1 : m * k + a = (m % k ^ n) * k + a + k ^ (n + 1) * (m / k ^ n) := by
    have := Nat.mod_add_div m (k ^ n)
    conv => lhs; rw [← this]
    rw [Nat.add_mul, Nat.pow_succ]
    have : k ^ n * (m / k ^ n) * k = k ^ n * k * (m / k ^ n) := by ac_rfl
    omega
  rw [e1, Nat.add_mul_mod_self_left]
  have h1 : m % k ^ n < k ^ n := Nat.mod_lt _ (Nat.pow_pos hk)
  refine Nat.mod_eq_of_lt ?_
  have h2 : (m % k ^ n + 1) * k ≤ k ^ n * k := Nat.mul_le_mul_right k h1
  rw [Nat.add_mul, Nat.one_mul] at h2
  rw [Nat.pow_succ]
  omega
theorem alP_tail {lo : Int32} {k c : Nat} {pn : Nat → Nat} {pg : Nat → Nat → Int32} (h : pOk c pn pg) {n m a : Nat} (ha : a < k) : alP lo k c pn pg (min n 4) (m % k ^ min n 4) a ↔ ¬ pAtX lo c pn pg (wlet k (n + 1) (m * k + a)) (n + 1) := by
  have hk : 0 < k := by omega
  unfold alP
  refine not_congr ?_
  rw [← modmul ha]
  have et : ∀ i, i < min n 4 + 1 → wlet k (min n 4 + 1) ((m * k + a) % k ^ (min n 4 + 1)) i = wlet k (n + 1) (m * k + a) (n + 1 - (min n 4 + 1) + i) := fun i hi => wlet_tail hk (by omega) hi
  refine ⟨fun ⟨i, hi, hl, hn, w⟩ => ⟨i, hi, hl, by omega, fun x hx => ?_⟩, fun ⟨i, hi, hl, hn, w⟩ => ?_⟩
  · have := w x hx
    rw [et _ (by omega), show n + 1 - (min n 4 + 1) + (min n 4 + 1 - pn i + x) = n + 1 - pn i + x by omega] at this
    exact this
  · have h5 := h.2.1 i hi
    refine ⟨i, hi, hl, by omega, fun x hx => ?_⟩
    rw [et _ (by omega), show n + 1 - (min n 4 + 1) + (min n 4 + 1 - pn i + x) = n + 1 - pn i + x by omega]
    exact w x hx
theorem avP_step {lo : Int32} {k c : Nat} {pn : Nat → Nat} {pg : Nat → Nat → Int32} (h : pOk c pn pg) {n m a : Nat} (ha : a < k) : avP lo k c pn pg (n + 1) (m * k + a) ↔ avP lo k c pn pg n m ∧ alP lo k c pn pg (min n 4) (m % k ^ min n 4) a := by
  unfold avP
  rw [alP_tail h ha, wavX_at h, wavX_at h]
  refine ⟨fun z => ⟨fun x hx => ?_, z n (by omega)⟩, fun ⟨z1, z2⟩ x hx => ?_⟩
  · rw [← pAtX_cg (fun i hi => wlet_in (m := m) ha (show i < n by omega))]
    exact z x (by omega)
  · by_cases e : x = n
    · rw [e]; exact z2
    · rw [pAtX_cg (fun i hi => wlet_in (m := m) ha (show i < n by omega))]
      exact z1 x (by omega)
theorem avP_0 {lo : Int32} {k c : Nat} {pn : Nat → Nat} {pg : Nat → Nat → Int32} (h : pOk c pn pg) (m : Nat) : avP lo k c pn pg 0 m := by
  unfold avP
  rw [wavX_at h]
  exact fun x hx => absurd hx (Nat.not_lt_zero x)
/-- a shorter memory allows more -/
theorem alP_mono {lo : Int32} {k c : Nat} {pn : Nat → Nat} {pg : Nat → Nat → Int32} {v a n : Nat} (ha : a < k) (hn : n ≤ 4) (h : alP lo k c pn pg 4 v a) : alP lo k c pn pg n (v % k ^ n) a := by
  have hk : 0 < k := by omega
  refine fun ⟨i, hi, hl, hle, w⟩ => h ⟨i, hi, hl, by omega, fun x hx => ?_⟩
  have := w x hx
  rw [← modmul ha, wlet_tail hk (show n + 1 ≤ 4 + 1 by omega) (by omega), show 4 + 1 - (n + 1) + (n + 1 - pn i + x) = 4 + 1 - pn i + x by omega] at this
  exact this
/-- where the words of n letters begin among the states -/
def off (k : Nat) : Nat → Nat
  | 0 => 0
  | n + 1 => off k n * k + 1
theorem off_add (k : Nat) : ∀ n, off k (n + 1) = off k n + k ^ n
  | 0 => by
    show off k 0 * k + 1 = off k 0 + 1
    unfold off
    omega
  | n + 1 => by
    show off k (n + 1) * k + 1 = off k (n + 1) + k ^ (n + 1)
    have := off_add k n
    conv => lhs; rw [this]
    rw [Nat.add_mul, ← Nat.pow_succ]
    show off k n * k + k ^ (n + 1) + 1 = off k n * k + 1 + k ^ (n + 1)
    omega
theorem off_mono (k : Nat) {a b : Nat} (h : a ≤ b) : off k a ≤ off k b := by
  induction b with
  | zero => rw [show a = 0 by omega]; exact Nat.le_refl _
  | succ b ih =>
    by_cases e : a = b + 1
    · rw [e]; exact Nat.le_refl _
    · have := off_add k b
      have := ih (by omega)
      omega
/-- every state is a word of at most four letters -/
theorem off_word {k s : Nat} (h : s < off k 5) : ∃ n u, n ≤ 4 ∧ u < k ^ n ∧ s = off k n + u := by
  have key : ∀ n, s < off k n → ∃ n' u, n' < n ∧ u < k ^ n' ∧ s = off k n' + u := by
    intro n
    induction n with
    | zero => intro z; exact absurd z (Nat.not_lt_zero s)
    | succ n ih =>
      intro z
      by_cases hs : s < off k n
      · obtain ⟨n', u, a, b, c⟩ := ih hs
        exact ⟨n', u, by omega, b, c⟩
      · have := off_add k n
        exact ⟨n, s - off k n, by omega, by omega, by omega⟩
  obtain ⟨n, u, a, b, c⟩ := key 5 h
  exact ⟨n, u, by omega, b, c⟩
theorem off_uniq {k n n' u u' : Nat} (h1 : u < k ^ n) (h2 : u' < k ^ n') (e : off k n + u = off k n' + u') : n = n' ∧ u = u' := by
  rcases Nat.lt_trichotomy n n' with z | z | z
  · have := off_mono k (show n + 1 ≤ n' from z)
    have := off_add k n
    omega
  · subst z
    exact ⟨rfl, by omega⟩
  · have := off_mono k (show n' + 1 ≤ n from z)
    have := off_add k n'
    omega
theorem off_5 : ∀ k, k < 4 → off k 5 ≤ 121 := by decide
theorem off_child (k n u a : Nat) : (off k n + u) * k + a + 1 = off k (n + 1) + (u * k + a) := by
  show _ = off k n * k + 1 + (u * k + a)
  rw [Nat.add_mul]
  omega
theorem child_lt {k n u a : Nat} (hu : u < k ^ n) (ha : a < k) : u * k + a < k ^ (n + 1) := by
  have : (u + 1) * k ≤ k ^ n * k := Nat.mul_le_mul_right k hu
  rw [Nat.add_mul, Nat.one_mul] at this
  rw [Nat.pow_succ]
  omega
end
