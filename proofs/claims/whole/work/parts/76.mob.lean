/-! ===== periods that divide the length; Moebius ===== -/
section
/-- a word, wrapped around, with the period d -/
def pW (n : Nat) (w : Nat → Int32) (d : Nat) : Prop := ∀ i, w ((i + d) % n) = w (i % n)
theorem pW_mul {n d : Nat} {w : Nat → Int32} (h : pW n w d) : ∀ q, pW n w (d * q)
  | 0 => fun i => by rw [Nat.mul_zero, Nat.add_zero]
  | q + 1 => fun i => by
    rw [Nat.mul_succ, ← Nat.add_assoc, h (i + d * q)]
    exact pW_mul h q i
theorem pW_mod {n d e : Nat} {w : Nat → Int32} (h : pW n w d) (k : pW n w e) : pW n w (d % e) := fun i => by
  have h1 := pW_mul k (d / e) (i + d % e)
  rw [Nat.add_assoc, Nat.mod_add_div] at h1
  rw [← h1, h i]
theorem pW_gcd {n : Nat} {w : Nat → Int32} : ∀ d e, pW n w d → pW n w e → pW n w (Nat.gcd d e) := by
  intro d
  induction d using Nat.strongRecOn with
  | ind d ih =>
    intro e hd he
    by_cases h0 : d = 0
    · subst h0
      rw [Nat.gcd_zero_left]
      exact he
    · rw [Nat.gcd_rec]
      exact ih (e % d) (Nat.mod_lt e (by omega)) d (pW_mod he hd) hd
def fullW (k n : Nat) (w : Nat → Int32) : Prop := ∀ i, i < n → ∃ l, l < k ∧ w i = nI l
theorem full_df {k n i j : Nat} {w : Nat → Int32} (h : fullW k n w) (hk : k ≤ 3) (hi : i < n) (hj : j < n) : ¬ wdf (w i) (w j) ↔ w i = w j := by
  obtain ⟨a, ha, ea⟩ := h i hi
  obtain ⟨b, hb, eb⟩ := h j hj
  refine ⟨fun z => Classical.byContradiction fun u => z ⟨?_, ?_, u⟩, fun z u => u.2.2 z⟩
  · rw [ea]; exact nI_nm1 a (by omega)
  · rw [eb]; exact nI_nm1 b (by omega)
theorem perS_pW {k n d : Nat} {w : Nat → Int32} (h : fullW k n w) (hk : k ≤ 3) (hn : 0 < n) (hd : 0 < d) (hdn : d ∣ n) : perS n w d ↔ pW n w d := by
  rw [perS_iff hd]
  refine ⟨fun z i => ?_, fun z i j hi hj e => ?_⟩
  · have h1 := Nat.mod_lt (i + d) hn
    have h2 := Nat.mod_lt i hn
    refine (full_df h hk h1 h2).mp (z _ _ h1 h2 ?_)
    rw [Nat.mod_mod_of_dvd _ hdn, Nat.mod_mod_of_dvd _ hdn, Nat.add_mod_right]
  · rw [full_df h hk hi hj]
    have key : ∀ x, x < n → w x = w ((x % d) % n) := fun x hx => by
      have h1 := pW_mul z (x / d) (x % d)
      rw [Nat.mod_add_div, Nat.mod_eq_of_lt hx] at h1
      exact h1
    rw [key i hi, key j hj, e]
/-- the least period that divides the length -/
noncomputable def ex0 (n : Nat) (w : Nat → Int32) : Nat := leastP (fun d => n % d = 0 ∧ perS n w d) (n - 1) 1
theorem ex0_ok {n : Nat} {w : Nat → Int32} (hn : 0 < n) : 1 ≤ ex0 n w ∧ ex0 n w ≤ n ∧ n % ex0 n w = 0 ∧ perS n w (ex0 n w) ∧ ∀ q, 1 ≤ q → q < ex0 n w → ¬ (n % q = 0 ∧ perS n w q) := by
  have h1 := leastP_ge (P := fun d => n % d = 0 ∧ perS n w d) (n - 1) 1
  have h2 := leastP_le (P := fun d => n % d = 0 ∧ perS n w d) (n - 1) 1
  have h3 := leastP_lt (P := fun d => n % d = 0 ∧ perS n w d) (n - 1) 1
  have h4 := leastP_no (P := fun d => n % d = 0 ∧ perS n w d) (n - 1) 1
  have h5 : n % ex0 n w = 0 ∧ perS n w (ex0 n w) := by
    by_cases hlt : ex0 n w < n
    · exact h3 (by unfold ex0 at hlt; omega)
    · have e : ex0 n w = n := by unfold ex0 at *; omega
      rw [e]
      exact ⟨Nat.mod_self n, perS_n (Nat.le_refl n)⟩
  exact ⟨h1, by unfold ex0; omega, h5.1, h5.2, h4⟩
theorem per_ex0 {k n d : Nat} {w : Nat → Int32} (h : fullW k n w) (hk : k ≤ 3) (hn : 0 < n) (hd : 0 < d) (hdn : n % d = 0) : perS n w d ↔ d % ex0 n w = 0 := by
  obtain ⟨e1, e2, e3, e4, e5⟩ := ex0_ok (w := w) hn
  have dn : d ∣ n := Nat.dvd_of_mod_eq_zero hdn
  have en : ex0 n w ∣ n := Nat.dvd_of_mod_eq_zero e3
  rw [perS_pW h hk hn hd dn]
  rw [perS_pW h hk hn e1 en] at e4
  refine ⟨fun z => ?_, fun z => ?_⟩
  · have g1 := pW_gcd d _ z e4
    have g2 : Nat.gcd d (ex0 n w) ∣ n := Nat.dvd_trans (Nat.gcd_dvd_left _ _) dn
    have g0 : 0 < Nat.gcd d (ex0 n w) := Nat.gcd_pos_of_pos_left _ hd
    have g3 : Nat.gcd d (ex0 n w) ≤ ex0 n w := Nat.le_of_dvd e1 (Nat.gcd_dvd_right _ _)
    have g4 : Nat.gcd d (ex0 n w) = ex0 n w := by
      refine Classical.byContradiction fun u => e5 _ g0 (by omega) ⟨Nat.mod_eq_zero_of_dvd g2, (perS_pW h hk hn g0 g2).mpr g1⟩
    have g5 := Nat.gcd_dvd_left d (ex0 n w)
    rw [g4] at g5
    exact Nat.mod_eq_zero_of_dvd g5
  · obtain ⟨c, hc⟩ := Nat.dvd_of_mod_eq_zero z
    rw [hc]
    exact pW_mul e4 c
theorem wreps_one {n : Nat} {w : Nat → Int32} (hn : 0 < n) : wreps n w = 1 ↔ ex0 n w = n := by
  obtain ⟨e1, e2, e3, e4, e5⟩ := ex0_ok (w := w) hn
  have h : wreps n w = n / ex0 n w := if_neg (by omega)
  rw [h]
  have hdm := Nat.div_add_mod n (ex0 n w)
  refine ⟨fun z => ?_, fun z => ?_⟩
  · rw [z, e3] at hdm
    omega
  · rw [z]
    exact Nat.div_self hn
/-- the class's Moebius function, step by step -/
def moF : Nat → Nat → Int → Nat → Int
  | 0, _, s, _ => s
  | j + 1, r, s, p => if r % p = 0 then (if r / p % p = 0 then 0 else moF j (r / p) (-s) (p + 1)) else moF j r s (p + 1)
def mu (m : Nat) : Int := moF (m - 1) m 1 2
/-- the sum over the divisors -/
def totI (n : Nat) (g : Nat → Int) : Nat → Int
  | 0 => 0
  | i + 1 => totI n g i + (if n % (i + 1) = 0 then mu (n / (i + 1)) * g (i + 1) else 0)
theorem mob_ok : ∀ n, n < 41 → ∀ e, e < 41 → (n = 0 ∨ e = 0 ∨ ¬ n % e = 0 ∨ totI n (fun d => if d % e = 0 then 1 else 0) n = (if e = n then 1 else 0)) := by decide +kernel
theorem totI_cg {n : Nat} {g g' : Nat → Int} : ∀ m, (∀ d, 0 < d → d ≤ m → n % d = 0 → g d = g' d) → totI n g m = totI n g' m
  | 0, _ => rfl
  | m + 1, h => by
    show totI n g m + _ = totI n g' m + _
    rw [totI_cg m (fun d h0 hd => h d h0 (by omega))]
    by_cases e : n % (m + 1) = 0
    · rw [if_pos e, if_pos e, h (m + 1) (by omega) (Nat.le_refl _) e]
    · rw [if_neg e, if_neg e]
theorem totI_add {n : Nat} {g g' : Nat → Int} : ∀ m, totI n (fun d => g d + g' d) m = totI n g m + totI n g' m
  | 0 => rfl
  | m + 1 => by
    show totI n (fun d => g d + g' d) m + _ = totI n g m + _ + (totI n g' m + _)
    rw [totI_add m]
    by_cases e : n % (m + 1) = 0
    · rw [if_pos e, if_pos e, if_pos e, Int.mul_add]
      omega
    · rw [if_neg e, if_neg e, if_neg e]
      omega
theorem totI_0 {n : Nat} : ∀ m, totI n (fun _ => 0) m = 0
  | 0 => rfl
  | m + 1 => by
    show totI n (fun _ => 0) m + _ = 0
    rw [totI_0 m]
    by_cases e : n % (m + 1) = 0
    · rw [if_pos e, Int.mul_zero]; rfl
    · rw [if_neg e]; rfl
theorem tot_one {k n : Nat} {w : Nat → Int32} (h : fullW k n w) (hk : k ≤ 3) (hn : 0 < n) (hn40 : n ≤ 40) : totI n (fun d => ((pif (perS n w d) 1 0 : Nat) : Int)) n = ((pif (wreps n w = 1) 1 0 : Nat) : Int) := by
  obtain ⟨e1, e2, e3, e4, e5⟩ := ex0_ok (w := w) hn
  have h1 := mob_ok n (by omega) (ex0 n w) (by omega)
  have h2 : totI n (fun d => if d % ex0 n w = 0 then 1 else 0) n = (if ex0 n w = n then 1 else 0) := by
    rcases h1 with z | z | z | z
    · omega
    · omega
    · exact absurd e3 z
    · exact z
  rw [totI_cg (g' := fun d => if d % ex0 n w = 0 then 1 else 0) n (fun d h0 hd hm => by
    show ((pif (perS n w d) 1 0 : Nat) : Int) = _
    rw [pif_cg (per_ex0 h hk hn h0 hm)]
    by_cases z : d % ex0 n w = 0
    · rw [pif_t z, if_pos z]; rfl
    · rw [pif_f z, if_neg z]; rfl), h2, pif_cg (wreps_one hn)]
  by_cases z : ex0 n w = n
  · rw [pif_t z, if_pos z]; rfl
  · rw [pif_f z, if_neg z]; rfl
theorem tot_cnt {k n : Nat} {W : Nat → Nat → Int32} (h : ∀ num, fullW k n (W num)) (hk : k ≤ 3) (hn : 0 < n) (hn40 : n ≤ 40) : ∀ M, totI n (fun d => ((cntN (fun num => perS n (W num) d) M : Nat) : Int)) n = ((cntN (fun num => wreps n (W num) = 1) M : Nat) : Int)
  | 0 => totI_0 n
  | M + 1 => by
    have e : totI n (fun d => ((cntN (fun num => perS n (W num) d) (M + 1) : Nat) : Int)) n = totI n (fun d => ((cntN (fun num => perS n (W num) d) M : Nat) : Int) + ((pif (perS n (W M) d) 1 0 : Nat) : Int)) n :=
      totI_cg n (fun d _ _ _ => by
        show ((cntN (fun num => perS n (W num) d) M + pif (perS n (W M) d) 1 0 : Nat) : Int) = _
        exact Int.natCast_add _ _)
    rw [e, totI_add, tot_cnt h hk hn hn40 M, tot_one (h M) hk hn hn40]
    exact (Int.natCast_add _ _).symm
theorem wdig_full {k n num : Nat} {f : Nat → Int32} (hk : 0 < k) (h : fY k n f) : fullW k n (wdig k f n num) := fun i hi => by
  by_cases e : f i = -1
  · exact ⟨_, Nat.mod_lt _ hk, if_pos e⟩
  · obtain ⟨l, hl, el⟩ := (h i hi).resolve_left e
    exact ⟨l, hl, (if_neg e).trans el⟩
/-- how many completions are primitive -/
noncomputable def pcnt (k n : Nat) (f : Nat → Int32) : Nat := if n = 0 then 0 else cntN (fun num => wreps n (wdig k f n num) = 1) (k ^ wholes f n)
theorem prim_cnt {k n : Nat} {f : Nat → Int32} (hk : 0 < k) (hk3 : k ≤ 3) (hn40 : n ≤ 40) (hY : fY k n f) : totI n (fun d => ((pif (perS n f d) (k ^ chol n d f) 0 : Nat) : Int)) n = (pcnt k n f : Int) := by
  by_cases hn : n = 0
  · subst hn
    rfl
  · have e : pcnt k n f = cntN (fun num => wreps n (wdig k f n num) = 1) (k ^ wholes f n) := if_neg hn
    rw [e, ← tot_cnt (fun num => wdig_full (num := num) hk hY) hk3 (by omega) hn40]
    exact totI_cg n (fun d h0 hd _ => by
      show ((pif (perS n f d) (k ^ chol n d f) 0 : Nat) : Int) = _
      rw [per_cnt hk hk3 h0 hd _ f rfl hY])
end
