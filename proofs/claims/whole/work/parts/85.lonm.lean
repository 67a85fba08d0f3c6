/-! ===== the longest words: the reference ===== -/
section
theorem sumN_pos {f : Nat → Nat} : ∀ n, 0 < sumN f n ↔ ∃ i, i < n ∧ 0 < f i
  | 0 => ⟨fun z => absurd z (Nat.lt_irrefl 0), fun ⟨i, hi, _⟩ => absurd hi (Nat.not_lt_zero i)⟩
  | n + 1 => by
    show 0 < sumN f n + f n ↔ _
    have ih := sumN_pos (f := f) n
    refine ⟨fun z => ?_, fun ⟨i, hi, h⟩ => ?_⟩
    · by_cases h : 0 < f n
      · exact ⟨n, by omega, h⟩
      · obtain ⟨i, hi, h2⟩ := ih.mp (by omega)
        exact ⟨i, by omega, h2⟩
    · by_cases e : i = n
      · rw [← e]; omega
      · have := ih.mpr ⟨i, by omega, h⟩
        omega
theorem mulp {a b : Nat} : 0 < a * b ↔ 0 < a ∧ 0 < b :=
  ⟨fun z => ⟨Nat.pos_of_ne_zero fun e => by rw [e, Nat.zero_mul] at z; exact absurd z (Nat.lt_irrefl 0), Nat.pos_of_ne_zero fun e => by rw [e, Nat.mul_zero] at z; exact absurd z (Nat.lt_irrefl 0)⟩, fun z => Nat.mul_pos z.1 z.2⟩
theorem sumN_le {f : Nat → Nat} {b : Nat} : ∀ n, (∀ i, i < n → f i ≤ b) → sumN f n ≤ n * b
  | 0, _ => Nat.zero_le _
  | n + 1, h => by
    show sumN f n + f n ≤ _
    have := sumN_le n (fun i hi => h i (by omega))
    have := h n (by omega)
    rw [Nat.add_mul, Nat.one_mul]
    omega
theorem cntN_posi {p : Nat → Prop} {n : Nat} : 0 < cntN p n ↔ ∃ i, i < n ∧ p i := by
  refine ⟨cntN_pos n, fun ⟨i, hi, h⟩ => Nat.pos_of_ne_zero fun z => ?_⟩
  have : ∀ n, i < n → 0 < cntN p n := by
    intro n
    induction n with
    | zero => intro u; exact absurd u (Nat.not_lt_zero i)
    | succ n ih =>
      intro u
      by_cases e : i = n
      · subst e
        rw [cntN_y h]
        omega
      · have := ih (by omega)
        show 0 < cntN p n + _
        omega
  have := this n hi
  omega
theorem acnt_pos {lo : Int32} {k c n : Nat} {pn : Nat → Nat} {pg : Nat → Nat → Int32} : 0 < acnt lo k c pn pg n ↔ ∃ m, m < k ^ n ∧ avP lo k c pn pg n m := cntN_posi
/-- a shorter word avoids them too -/
theorem acnt_mono {lo : Int32} {k c a b : Nat} {pn : Nat → Nat} {pg : Nat → Nat → Int32} (hk : 0 < k) (hab : a ≤ b) (h : 0 < acnt lo k c pn pg b) : 0 < acnt lo k c pn pg a := by
  obtain ⟨m, hm, hav⟩ := acnt_pos.mp h
  exact acnt_pos.mpr ⟨_, Nat.mod_lt m (Nat.pow_pos hk), avP_tail hk hab hav⟩
/-- more things than places -/
theorem php : ∀ n (f : Nat → Nat), (∀ i, i < n + 1 → f i < n) → ∃ i j, i < j ∧ j < n + 1 ∧ f i = f j
  | 0, f, h => absurd (h 0 (by omega)) (Nat.not_lt_zero _)
  | n + 1, f, h => by
    by_cases he : ∃ i, i < n + 1 ∧ f i = f (n + 1)
    · obtain ⟨i, hi, e⟩ := he
      exact ⟨i, n + 1, hi, by omega, e⟩
    · have hne : ∀ i, i < n + 1 → f i ≠ f (n + 1) := fun i hi e => he ⟨i, hi, e⟩
      obtain ⟨i, j, hij, hj, e⟩ := php n (fun i => if f i = n then f (n + 1) else f i) (fun i hi => by
        show (if f i = n then f (n + 1) else f i) < n
        have h1 := h i (by omega)
        have h2 := h (n + 1) (by omega)
        have h3 := hne i hi
        by_cases e : f i = n
        · rw [if_pos e]; omega
        · rw [if_neg e]; omega)
      refine ⟨i, j, hij, by omega, ?_⟩
      have h3 := hne i (by omega)
      have h4 := hne j hj
      have e : (if f i = n then f (n + 1) else f i) = (if f j = n then f (n + 1) else f j) := e
      by_cases ei : f i = n
      · by_cases ej : f j = n
        · omega
        · rw [if_pos ei, if_neg ej] at e
          exact absurd e.symm h4
      · by_cases ej : f j = n
        · rw [if_neg ei, if_pos ej] at e
          exact absurd e h3
        · rw [if_neg ei, if_neg ej] at e
          exact e
/-- a way of so many letters in the graph of the reference -/
def wyR (lo : Int32) (k c : Nat) (pn : Nat → Nat) (pg : Nat → Nat → Int32) : Nat → Nat → Nat → Prop
  | 0, v, w => v = w
  | q + 1, v, w => ∃ x a, a < k ∧ wyR lo k c pn pg q v x ∧ tgR lo k c pn pg x a = some w
theorem wyR_av {lo : Int32} {k c : Nat} {pn : Nat → Nat} {pg : Nat → Nat → Int32} (h : pOk c pn pg) {n v : Nat} (hn : 4 ≤ n) (hv : ∃ m, m < k ^ n ∧ avP lo k c pn pg n m ∧ m % k ^ 4 = v) : ∀ q w, wyR lo k c pn pg q v w → ∃ m, m < k ^ (n + q) ∧ avP lo k c pn pg (n + q) m ∧ m % k ^ 4 = w
  | 0, w, e => by
    have e : v = w := e
    rw [← e]
    exact hv
  | q + 1, w, ⟨x, a, ha, h1, h2⟩ => by
    obtain ⟨m, hm, hav, hx⟩ := wyR_av h hn hv q x h1
    have := (tgR_iff (lo := lo) h (n := n + q) (m := m) (a := a) (t := w) (by omega) ha).mpr ⟨hav, by rw [hx]; exact h2⟩
    exact ⟨m * k + a, child_lt hm ha, this⟩
/-- a word of 85 letters can be made as long as one likes -/
theorem pump {lo : Int32} {k c : Nat} {pn : Nat → Nat} {pg : Nat → Nat → Int32} (h : pOk c pn pg) (hk : 0 < k) (hk3 : k ≤ 3) (h85 : 0 < acnt lo k c pn pg 85) (n : Nat) : 0 < acnt lo k c pn pg n := by
  obtain ⟨m, hm, hav⟩ := acnt_pos.mp h85
  have hp4 := pw4 k (by omega)
  have pre : ∀ j, j ≤ 85 → avP lo k c pn pg j (m / k ^ (85 - j)) ∧ m / k ^ (85 - j) < k ^ j := by
    have key : ∀ i, i ≤ 85 → avP lo k c pn pg (85 - i) (m / k ^ i) ∧ m / k ^ i < k ^ (85 - i) := by
      intro i
      induction i with
      | zero => intro _; rw [Nat.pow_zero, Nat.div_one]; exact ⟨hav, hm⟩
      | succ i ih =>
        intro hi
        obtain ⟨h1, h2⟩ := ih (by omega)
        have e : m / k ^ (i + 1) = m / k ^ i / k := by rw [Nat.pow_succ, Nat.div_div_eq_div_mul]
        have e3 : 85 - i = (85 - (i + 1)) + 1 := by omega
        rw [e3] at h1 h2
        rw [e]
        have e2 : m / k ^ i = m / k ^ i / k * k + m / k ^ i % k := by
          have := Nat.div_add_mod (m / k ^ i) k
          rw [Nat.mul_comm] at this
          exact this.symm
        rw [e2] at h1
        refine ⟨((avP_step h (Nat.mod_lt _ hk)).mp h1).1, ?_⟩
        rw [Nat.pow_succ] at h2
        exact (Nat.div_lt_iff_lt_mul hk).mpr h2
    intro j hj
    have := key (85 - j) (by omega)
    rw [show 85 - (85 - j) = j by omega] at this
    exact this
  have edge : ∀ j, 4 ≤ j → j < 85 → ∃ a, a < k ∧ tgR lo k c pn pg (m / k ^ (85 - j) % k ^ 4) a = some (m / k ^ (85 - (j + 1)) % k ^ 4) := by
    intro j h4 hj
    have e : m / k ^ (85 - (j + 1)) / k = m / k ^ (85 - j) := by
      rw [Nat.div_div_eq_div_mul, ← Nat.pow_succ, show (85 - (j + 1)).succ = 85 - j by omega]
    have e2 : m / k ^ (85 - (j + 1)) = m / k ^ (85 - j) * k + m / k ^ (85 - (j + 1)) % k := by
      have := Nat.div_add_mod (m / k ^ (85 - (j + 1))) k
      rw [e, Nat.mul_comm] at this
      exact this.symm
    have ha := Nat.mod_lt (m / k ^ (85 - (j + 1))) hk
    refine ⟨_, ha, ?_⟩
    have h1 := (pre (j + 1) (by omega)).1
    rw [e2] at h1
    have := (tgR_iff (lo := lo) h (n := j) (m := m / k ^ (85 - j)) h4 ha).mp ⟨h1, rfl⟩
    rw [this.2, ← e2]
  obtain ⟨i, j, hij, hj, e⟩ := php (k ^ 4) (fun i => m / k ^ (85 - (4 + i)) % k ^ 4) (fun i _ => Nat.mod_lt _ (Nat.pow_pos hk))
  have e : m / k ^ (85 - (4 + i)) % k ^ 4 = m / k ^ (85 - (4 + j)) % k ^ 4 := e
  have way : ∀ q, 4 + i + q ≤ 85 → wyR lo k c pn pg q (m / k ^ (85 - (4 + i)) % k ^ 4) (m / k ^ (85 - (4 + i + q)) % k ^ 4) := by
    intro q
    induction q with
    | zero => intro _; exact rfl
    | succ q ih =>
      intro hq
      obtain ⟨a, ha, h2⟩ := edge (4 + i + q) (by omega) (by omega)
      exact ⟨_, a, ha, ih (by omega), h2⟩
  have round := way (j - i) (by omega)
  rw [show 4 + i + (j - i) = 4 + j by omega, ← e] at round
  have many : ∀ t, ∃ m', m' < k ^ (4 + i + t * (j - i)) ∧ avP lo k c pn pg (4 + i + t * (j - i)) m' ∧ m' % k ^ 4 = m / k ^ (85 - (4 + i)) % k ^ 4 := by
    intro t
    induction t with
    | zero =>
      have := pre (4 + i) (by omega)
      rw [Nat.zero_mul, Nat.add_zero]
      exact ⟨_, this.2, this.1, rfl⟩
    | succ t ih =>
      have := wyR_av h (by omega) ih (j - i) _ round
      rw [show 4 + i + (t + 1) * (j - i) = 4 + i + t * (j - i) + (j - i) by rw [Nat.add_mul, Nat.one_mul]; omega]
      exact this
  obtain ⟨m', h1, h2, -⟩ := many n
  have hle : n ≤ 4 + i + n * (j - i) := by
    have : n * 1 ≤ n * (j - i) := Nat.mul_le_mul_left n (by omega)
    omega
  exact acnt_mono hk hle (acnt_pos.mpr ⟨m', h1, h2⟩)
/-- the length of the longest words; 85 where there is none -/
noncomputable def lon (lo : Int32) (k c : Nat) (pn : Nat → Nat) (pg : Nat → Nat → Int32) : Nat := leastP (fun n => acnt lo k c pn pg (n + 1) = 0) 85 0
theorem lon_le {lo : Int32} {k c : Nat} {pn : Nat → Nat} {pg : Nat → Nat → Int32} : lon lo k c pn pg ≤ 85 := by
  have := leastP_le (P := fun n => acnt lo k c pn pg (n + 1) = 0) 85 0
  unfold lon
  omega
theorem lon_inf {lo : Int32} {k c : Nat} {pn : Nat → Nat} {pg : Nat → Nat → Int32} (h : ∀ n, 0 < acnt lo k c pn pg n) : lon lo k c pn pg = 85 := by
  have h1 := lon_le (lo := lo) (k := k) (c := c) (pn := pn) (pg := pg)
  refine Classical.byContradiction fun z => ?_
  have h2 := leastP_lt (P := fun n => acnt lo k c pn pg (n + 1) = 0) 85 0 (by unfold lon at z h1; omega)
  have := h (leastP (fun n => acnt lo k c pn pg (n + 1) = 0) 85 0 + 1)
  omega
theorem lon_fin {lo : Int32} {k c L : Nat} {pn : Nat → Nat} {pg : Nat → Nat → Int32} (hp : pOk c pn pg) (hk : 0 < k) (hk3 : k ≤ 3) (h1 : 0 < acnt lo k c pn pg L) (h2 : acnt lo k c pn pg (L + 1) = 0) : lon lo k c pn pg = L ∧ L < 85 := by
  have hL : L < 85 := by
    refine Classical.byContradiction fun z => ?_
    have := pump hp hk hk3 (acnt_mono hk (show 85 ≤ L by omega) h1) (L + 1)
    omega
  refine ⟨?_, hL⟩
  have a1 := leastP_no (P := fun n => acnt lo k c pn pg (n + 1) = 0) 85 0
  rcases Nat.lt_trichotomy (lon lo k c pn pg) L with z | z | z
  · have a2 := leastP_lt (P := fun n => acnt lo k c pn pg (n + 1) = 0) 85 0 (by unfold lon at z; omega)
    have a3 := acnt_mono (lo := lo) (c := c) (pn := pn) (pg := pg) hk (show lon lo k c pn pg + 1 ≤ L by omega) h1
    unfold lon at a3
    omega
  · exact z
  · exact absurd h2 (a1 L (Nat.zero_le _) z)
theorem lg_le0 {x : Nat} (hx : x < 2 ^ 63) : lg_cmp (lN x) 0 ≤ 0 ↔ x = 0 := by
  refine ⟨fun z => Classical.byContradiction fun u => ?_, fun z => ?_⟩
  · have h1 : (0 : Int64) < lN x := (pk_lLT (a := 0) (by omega) hx).mpr (by omega)
    exact absurd ((lg_cmp_gt _ _).mpr h1) (Int32.not_lt.mpr z)
  · rw [z, (lg_cmp_eq _ _).mpr (show lN 0 = 0 from rfl)]
    decide
theorem m_longest (d : Nat) {S : aq_S} {kk c : Nat} {pn : Nat → Nat} {pg : Nat → Nat → Int32} {th il err rd tl lo cur hs sv : Int32} (h : mO S th (nI kk) il err rd tl (nI c) lo cur hs sv) (hp : mPt S c pn pg) (hpk : pOk c pn pg) (w5 : mP S) (hG : mGr S) (hk0 : 0 < kk) (hk : kk ≤ 3) : aX (d + 5) 190 [.ref 52] S (fun o S' => o = .inl (some (.int (nI (if lon lo kk c pn pg < 85 then lon lo kk c pn pg else 1000)))) ∧ (mP S' ∧ mGr S') ∧ aq_fr S S' (fun q => q = 55 ∨ (60 ≤ q ∧ q ≤ 63))) := by
  obtain ⟨fp, u5⟩ := w5
  have h4 := pw4 kk (by omega)
  obtain ⟨⟨n0, r1⟩, ⟨e0, r2⟩, ⟨w0, r3⟩, ⟨nw, r4⟩, ⟨d0, r5⟩, ⟨c0, r6⟩, b0, r7⟩ := hG
  refine ar_run (Nat.le_of_ble_eq_true rfl) (fun o S1 h => h.2.2.le) ?_
  refine ar_push i_X7_longest_0 ?_
  refine ar_st i_X7_longest_1 rfl rfl ?_
  have ph2 : ∀ j n (S1 : aq_S) (w nw : Nat → Int64) (fe F fn : Nat → Int32) (L : List (Nat × Value)), n + j = 85 → 4 ≤ n → lon lo kk c pn pg = leastP (fun n => acnt lo kk c pn pg (n + 1) = 0) j n → (L = [] ∨ ∃ u v, L = [(2, .long u), (4, .int v)]) → mO S1 th (nI kk) il err rd tl (nI c) lo cur hs sv → ba S1 60 81 fn → ba S1 61 243 fe → (∀ v, v < kk ^ 4 → ∀ a, a < kk → fe (3 * v + a) = bI (avP lo kk c pn pg 5 (v * kk + a))) → ia S1 55 40 F → la S1 62 81 w → la S1 63 81 nw → (∀ v, v < kk ^ 4 → w v = lN (pif (0 < wR lo kk c pn pg n v) 1 0)) → aq_fr S S1 (fun q => q = 55 ∨ (60 ≤ q ∧ q ≤ 63)) → aG (d + 4) 190 (fun o S' => o = .inl (some (.int (nI (if lon lo kk c pn pg < 85 then lon lo kk c pn pg else 1000)))) ∧ (mP S' ∧ mGr S') ∧ aq_fr S S' (fun q => q = 55 ∨ (60 ≤ q ∧ q ≤ 63))) 31 ((0, .ref 52) :: (1, .int (nI n)) :: L) [] S1 := by
    intro j
    induction j with
    | zero =>
      intro n S1 w nw fe F fn L hn hn4 hl hL o1 f1 f2 f3 f4 f5 f6 f7 hfr
      have en : n = 85 := hn
      have hl : lon lo kk c pn pg = n := hl
      subst en
      refine ar_ld i_X7_longest_31 rfl rfl ?_
      refine ar_push i_X7_longest_32 ?_
      refine ar_ift i_X7_longest_34 rfl (nI_le (a := 85) (b := 85) (by omega) (by omega)) ?_
      refine ar_push i_X7_longest_98 ?_
      exact ar_ret i_X7_longest_101 rfl ⟨by rw [hl]; rfl, ⟨⟨F, f4⟩, ⟨fn, f1⟩, ⟨fe, f2⟩, ⟨w, f5⟩, ⟨nw, f6⟩, ⟨d0, r5.fr hfr (by omega)⟩, ⟨c0, r6.fr hfr (by omega)⟩, b0, r7.fr hfr (by omega)⟩, hfr⟩
    | succ j ih =>
      intro n S1 w nw fe F fn L hn hn4 hl hL o1 f1 f2 f3 f4 f5 f6 f7 hfr
      have gpos : ∀ t, 0 < gW lo kk c pn pg (fun v => pif (0 < wR lo kk c pn pg n v) 1 0) t ↔ 0 < wR lo kk c pn pg (n + 1) t := by
        intro t
        rw [← wR_step (lo := lo) hpk hk0 hn4 (W := wR lo kk c pn pg n) (fun v _ => rfl) t]
        unfold gW
        rw [sumN_pos, sumN_pos]
        refine ⟨fun ⟨v, hv, z⟩ => ⟨v, hv, ?_⟩, fun ⟨v, hv, z⟩ => ⟨v, hv, ?_⟩⟩
        · obtain ⟨z1, z2⟩ := mulp.mp z
          refine mulp.mpr ⟨z1, Nat.pos_of_ne_zero fun e => ?_⟩
          have e2 : pif (0 < wR lo kk c pn pg n v) 1 0 = 0 := pif_f (by omega)
          have z2 : 0 < pif (0 < wR lo kk c pn pg n v) 1 0 := z2
          omega
        · obtain ⟨z1, z2⟩ := mulp.mp z
          refine mulp.mpr ⟨z1, ?_⟩
          show 0 < pif (0 < wR lo kk c pn pg n v) 1 0
          rw [pif_t z2]
          omega
      have gle : ∀ t, gW lo kk c pn pg (fun v => pif (0 < wR lo kk c pn pg n v) 1 0) t ≤ 81 * 3 := by
        intro t
        have h1 : gW lo kk c pn pg (fun v => pif (0 < wR lo kk c pn pg n v) 1 0) t ≤ kk ^ 4 * (3 * 1) := by
          refine sumN_le _ fun v _ => Nat.mul_le_mul (Nat.le_trans (cntN_le _ _) hk) ?_
          by_cases e : 0 < wR lo kk c pn pg n v
          · exact Nat.le_of_eq (pif_t e)
          · exact Nat.le_trans (Nat.le_of_eq (pif_f e)) (Nat.zero_le 1)
        exact Nat.le_trans h1 (Nat.mul_le_mul h4 (by omega))
      have tot : sumN (gW lo kk c pn pg (fun v => pif (0 < wR lo kk c pn pg n v) 1 0)) (kk ^ 4) = 0 ↔ acnt lo kk c pn pg (n + 1) = 0 := by
        rw [← wR_tot (lo := lo) (c := c) (pn := pn) (pg := pg) hk0 (n + 1)]
        have e : (0 < sumN (gW lo kk c pn pg (fun v => pif (0 < wR lo kk c pn pg n v) 1 0)) (kk ^ 4)) ↔ 0 < sumN (wR lo kk c pn pg (n + 1)) (kk ^ 4) := by
          rw [sumN_pos, sumN_pos]
          exact ⟨fun ⟨i, hi, z⟩ => ⟨i, hi, (gpos i).mp z⟩, fun ⟨i, hi, z⟩ => ⟨i, hi, (gpos i).mpr z⟩⟩
        omega
      have totle : sumN (gW lo kk c pn pg (fun v => pif (0 < wR lo kk c pn pg n v) 1 0)) (kk ^ 4) ≤ 81 * (81 * 3) := Nat.le_trans (sumN_le _ fun t _ => gle t) (Nat.mul_le_mul_right _ h4)
      have lp : ∀ jj v (S1 : aq_S) (w nw : Nat → Int64), v + jj = kk ^ 4 → mO S1 th (nI kk) il err rd tl (nI c) lo cur hs sv → ba S1 60 81 fn → ba S1 61 243 fe → ia S1 55 40 F → la S1 62 81 w → la S1 63 81 nw → (∀ x, x < v → w x = lN (pif (0 < wR lo kk c pn pg (n + 1) x) 1 0)) → (∀ x, v ≤ x → x < kk ^ 4 → w x = lN (gW lo kk c pn pg (fun v => pif (0 < wR lo kk c pn pg n v) 1 0) x)) → aq_fr S S1 (fun q => q = 55 ∨ (60 ≤ q ∧ q ≤ 63)) → aG (d + 4) 190 (fun o S' => o = .inl (some (.int (nI (if lon lo kk c pn pg < 85 then lon lo kk c pn pg else 1000)))) ∧ (mP S' ∧ mGr S') ∧ aq_fr S S' (fun q => q = 55 ∨ (60 ≤ q ∧ q ≤ 63))) 45 [(0, .ref 52), (1, .int (nI n)), (2, .long (lN (sumN (gW lo kk c pn pg (fun v => pif (0 < wR lo kk c pn pg n v) 1 0)) (kk ^ 4)))), (4, .int (nI v))] [] S1 := by
        intro jj
        induction jj with
        | zero =>
          intro v S1 w nw hv o1 f1 f2 f4 f5 f6 b1 b2 hfr
          have ev : v = kk ^ 4 := hv
          subst ev
          refine ar_ld i_X7_longest_45 rfl rfl ?_
          refine ar_ld i_X7_longest_47 rfl rfl ?_
          refine ar_cr i_X7_longest_48 rfl ⟨_, _, _, rfl, o1⟩ (Nat.le_of_ble_eq_true rfl) (m_nodes (d + 2) o1) ?_
          refine ar_ift i_X7_longest_51 rfl (nI_le (Nat.le_refl _) (by omega)) ?_
          refine ar_ld i_X7_longest_84 rfl rfl ?_
          refine ar_push i_X7_longest_85 ?_
          refine ar_ar i_X7_longest_86 rfl ?_
          by_cases hz : acnt lo kk c pn pg (n + 1) = 0
          · rw [tot.mpr hz]
            refine ar_iff i_X7_longest_87 rfl (fun z => z ((lg_cmp_eq _ _).mpr rfl)) ?_
            refine ar_ld i_X7_longest_90 rfl rfl ?_
            have e : lon lo kk c pn pg = n := by rw [hl]; exact leastP_y (P := fun n => acnt lo kk c pn pg (n + 1) = 0) hz
            exact ar_ret i_X7_longest_91 rfl ⟨by rw [e, if_pos (show n < 85 by omega)], ⟨⟨F, f4⟩, ⟨fn, f1⟩, ⟨fe, f2⟩, ⟨w, f5⟩, ⟨nw, f6⟩, ⟨d0, r5.fr hfr (by omega)⟩, ⟨c0, r6.fr hfr (by omega)⟩, b0, r7.fr hfr (by omega)⟩, hfr⟩
          · refine ar_ift i_X7_longest_87 rfl (fun z => hz (tot.mp (by have := (lg_cmp_eq _ _).mp z; rw [show (0 : Int64) = lN 0 from rfl, pk_lEQ (by omega) (by omega)] at this; exact this))) ?_
            refine ar_inc i_X7_longest_92 rfl rfl ?_
            refine ar_go i_X7_longest_95 ?_
            rw [nI_1]
            exact ih (n + 1) S1 w nw fe F fn _ (by omega) (by omega) (by rw [hl]; exact leastP_n (P := fun n => acnt lo kk c pn pg (n + 1) = 0) hz) (Or.inr ⟨_, _, rfl⟩) o1 f1 f2 f3 f4 f5 f6 b1 hfr
        | succ jj ihj =>
          intro v S1 w nw hv o1 f1 f2 f4 f5 f6 b1 b2 hfr
          have hvk : v < kk ^ 4 := by omega
          have fin : ∀ x, x = lN (pif (0 < wR lo kk c pn pg (n + 1) v) 1 0) → aG (d + 4) 190 (fun o S' => o = .inl (some (.int (nI (if lon lo kk c pn pg < 85 then lon lo kk c pn pg else 1000)))) ∧ (mP S' ∧ mGr S') ∧ aq_fr S S' (fun q => q = 55 ∨ (60 ≤ q ∧ q ≤ 63))) 77 [(0, .ref 52), (1, .int (nI n)), (2, .long (lN (sumN (gW lo kk c pn pg (fun v => pif (0 < wR lo kk c pn pg n v) 1 0)) (kk ^ 4)))), (4, .int (nI v))] [.long x, .int (nI v), .ref 62] S1 := by
            intro x hx
            refine av_stl i_X7_longest_77 (by omega) (f5) (by omega) (by omega) (fun S2 g2 k2 => ?_)
            refine ar_inc i_X7_longest_78 rfl rfl ?_
            refine ar_go i_X7_longest_81 ?_
            rw [nI_1]
            exact ihj (v + 1) S2 _ nw (by omega) (o1.fr k2 (by omega)) (f1.fr k2 (by omega)) (f2.fr k2 (by omega)) (f4.fr k2 (by omega)) g2 (f6.fr k2 (by omega)) (fun y hy => by
              by_cases e : y = v
              · rw [e, vp_updL_eq]; exact hx
              · rw [vp_updL_ne e]; exact b1 y (by omega)) (fun y hy hy2 => by rw [vp_updL_ne (by omega)]; exact b2 y (by omega) hy2) (hfr.tr (k2.mono (fun q z => by omega)))
          refine ar_ld i_X7_longest_45 rfl rfl ?_
          refine ar_ld i_X7_longest_47 rfl rfl ?_
          refine ar_cr i_X7_longest_48 rfl ⟨_, _, _, rfl, o1⟩ (Nat.le_of_ble_eq_true rfl) (m_nodes (d + 2) o1) ?_
          refine ar_iff i_X7_longest_51 rfl (nI_ge hvk (by omega)) ?_
          refine ar_ld i_X7_longest_54 rfl rfl ?_
          refine ar_gf i_X7_longest_55 (o1) rfl ?_
          refine ar_ld i_X7_longest_58 rfl rfl ?_
          refine ar_ld i_X7_longest_60 rfl rfl ?_
          refine ar_gf i_X7_longest_61 (o1) rfl ?_
          refine ar_ld i_X7_longest_64 rfl rfl ?_
          refine av_ldl i_X7_longest_66 (f5) (by omega) (by omega) ?_
          rw [b2 v (Nat.le_refl v) hvk]
          refine ar_push i_X7_longest_67 ?_
          refine ar_ar i_X7_longest_68 rfl ?_
          have hg := gle v
          by_cases hz : 0 < wR lo kk c pn pg (n + 1) v
          · refine ar_iff i_X7_longest_69 rfl (fun z => by have := (lg_le0 (by omega)).mp z; have := (gpos v).mpr hz; omega) ?_
            refine ar_push i_X7_longest_72 ?_
            refine ar_go i_X7_longest_73 ?_
            exact fin 1 (by rw [pif_t hz]; rfl)
          · refine ar_ift i_X7_longest_69 rfl ((lg_le0 (by omega)).mpr (Nat.eq_zero_of_not_pos fun z => hz ((gpos v).mp z))) ?_
            refine ar_push i_X7_longest_76 ?_
            exact fin 0 (by rw [pif_f hz]; rfl)
      have body : ∀ L : List (Nat × Value), (L = [] ∨ ∃ u v, L = [(2, .long u), (4, .int v)]) → aG (d + 4) 190 (fun o S' => o = .inl (some (.int (nI (if lon lo kk c pn pg < 85 then lon lo kk c pn pg else 1000)))) ∧ (mP S' ∧ mGr S') ∧ aq_fr S S' (fun q => q = 55 ∨ (60 ≤ q ∧ q ≤ 63))) 31 ((0, .ref 52) :: (1, .int (nI n)) :: L) [] S1 := by
        intro L hL
        refine ar_ld i_X7_longest_31 rfl rfl ?_
        refine ar_push i_X7_longest_32 ?_
        refine ar_iff i_X7_longest_34 rfl (nI_ge (a := n) (b := 85) (by omega) (by omega)) ?_
        refine ar_ld i_X7_longest_37 rfl rfl ?_
        refine av_cr i_X7_longest_38 rfl ⟨_, _, _, rfl, o1⟩ (Nat.le_of_ble_eq_true rfl) (m_goesOn d o1 f2 f3 f5 f6 f7 hk0 hk) (fun S2 q2 => ?_)
        obtain ⟨⟨⟨w', g1, g2⟩, nw', g3⟩, k2⟩ := q2
        have start := lp (kk ^ 4) 0 S2 w' nw' (by omega) (o1.fr k2 (by omega)) (f1.fr k2 (by omega)) (f2.fr k2 (by omega)) (f4.fr k2 (by omega)) g1 g3 (fun x hx => absurd hx (Nat.not_lt_zero x)) (fun x _ hx => g2 x hx) (hfr.tr (k2.mono (fun q z => by omega)))
        refine ar_st i_X7_longest_41 rfl rfl ?_
        refine ar_push i_X7_longest_42 ?_
        refine ar_st i_X7_longest_43 rfl rfl ?_
        rcases hL with e | ⟨u, v, e⟩ <;> subst e <;> exact start
      exact body L hL
  suffices ph1 : ∀ j n (S1 : aq_S) (F : Nat → Int32), n + j = 4 → lon lo kk c pn pg = leastP (fun n => acnt lo kk c pn pg (n + 1) = 0) (j + 81) n → mO S1 th (nI kk) il err rd tl (nI c) lo cur hs sv → mPt S1 c pn pg → ia S1 55 40 F → aq_fr S S1 (fun q => q = 55 ∨ (60 ≤ q ∧ q ≤ 63)) → ba S1 60 81 n0 → ba S1 61 243 e0 → la S1 62 81 w0 → la S1 63 81 nw → aG (d + 4) 190 (fun o S' => o = .inl (some (.int (nI (if lon lo kk c pn pg < 85 then lon lo kk c pn pg else 1000)))) ∧ (mP S' ∧ mGr S') ∧ aq_fr S S' (fun q => q = 55 ∨ (60 ≤ q ∧ q ≤ 63))) 2 [(0, .ref 52), (1, .int (nI n))] [] S1 from ph1 4 0 S fp (by omega) rfl h hp u5 aq_fr.rf r1 r2 r3 r4
  intro j
  induction j with
  | zero =>
    intro n S1 F hn hl o1 p1 u5 hfr r1 r2 r3 r4
    have en : n = 4 := hn
    subst en
    refine ar_ld i_X7_longest_2 rfl rfl ?_
    refine ar_push i_X7_longest_3 ?_
    refine ar_ift i_X7_longest_4 rfl (nI_le (a := 4) (b := 4) (by omega) (by omega)) ?_
    refine ar_ld i_X7_longest_25 rfl rfl ?_
    refine av_cv i_X7_longest_26 rfl ⟨_, _, _, rfl, o1⟩ (Nat.le_of_ble_eq_true rfl) (m_begins d o1 p1 hpk u5 r1 r2 r3 hk0 hk) (fun S2 q2 => ?_)
    obtain ⟨⟨⟨fn, f1⟩, ⟨fe, f2, f3⟩, ⟨F2, f4⟩, w, f5, f6⟩, k2⟩ := q2
    refine ar_push i_X7_longest_29 ?_
    refine ar_st i_X7_longest_30 rfl rfl ?_
    refine ph2 81 4 S2 w nw fe F2 fn [] (by omega) (Nat.le_refl 4) (by rw [hl, Nat.zero_add]) (Or.inl rfl) (o1.fr k2 (by omega)) f1 f2 f3 f4 f5 (r4.fr k2 (by omega)) (fun v hv => ?_) (hfr.tr (k2.mono (fun q z => by omega)))
    rw [f6 v hv, wR_4 hv]
    by_cases hav : avP lo kk c pn pg 4 v
    · rw [pif_t hav, pif_t (by omega)]
    · rw [pif_f hav, pif_f (by omega)]
  | succ j ih =>
    intro n S1 F hn hl o1 p1 u5 hfr r1 r2 r3 r4
    refine ar_ld i_X7_longest_2 rfl rfl ?_
    refine ar_push i_X7_longest_3 ?_
    refine ar_iff i_X7_longest_4 rfl (nI_ge (b := 4) (by omega) (by omega)) ?_
    refine ar_ld i_X7_longest_7 rfl rfl ?_
    refine ar_ld i_X7_longest_8 rfl rfl ?_
    refine ar_push i_X7_longest_9 ?_
    refine ar_ar i_X7_longest_10 rfl ?_
    rw [nI_1]
    refine av_cr i_X7_longest_11 rfl ⟨_, _, _, rfl, o1⟩ (Nat.le_of_ble_eq_true rfl) (m_shortOnes (d + 1) o1 p1 hpk u5 hk0 hk (show n + 1 ≤ 4 by omega)) (fun S2 q2 => ?_)
    obtain ⟨⟨F2, f5⟩, k2⟩ := q2
    have hle : acnt lo kk c pn pg (n + 1) ≤ 81 := Nat.le_trans acnt_le (Nat.le_trans (Nat.pow_le_pow_right hk0 (show n + 1 ≤ 4 by omega)) h4)
    have hfr2 := hfr.tr (k2.mono (P' := fun q => q = 55 ∨ (60 ≤ q ∧ q ≤ 63)) (fun q z => by omega))
    have s1 := r1.fr k2 (by omega)
    have s2 := r2.fr k2 (by omega)
    have s3 := r3.fr k2 (by omega)
    have s4 := r4.fr k2 (by omega)
    rw [show j + 1 + 81 = j + 81 + 1 by omega] at hl
    by_cases hz : acnt lo kk c pn pg (n + 1) = 0
    · rw [hz]
      refine ar_iff i_X7_longest_14 rfl (fun z => z rfl) ?_
      refine ar_ld i_X7_longest_17 rfl rfl ?_
      have e : lon lo kk c pn pg = n := by rw [hl]; exact leastP_y (P := fun n => acnt lo kk c pn pg (n + 1) = 0) hz
      exact ar_ret i_X7_longest_18 rfl ⟨by rw [e, if_pos (show n < 85 by omega)], ⟨⟨F2, f5⟩, ⟨n0, s1⟩, ⟨e0, s2⟩, ⟨w0, s3⟩, ⟨nw, s4⟩, ⟨d0, r5.fr hfr2 (by omega)⟩, ⟨c0, r6.fr hfr2 (by omega)⟩, b0, r7.fr hfr2 (by omega)⟩, hfr2⟩
    · refine ar_ift i_X7_longest_14 rfl (nI_ne0 (by omega) (by omega)) ?_
      refine ar_inc i_X7_longest_19 rfl rfl ?_
      refine ar_go i_X7_longest_22 ?_
      rw [nI_1]
      exact ih (n + 1) S2 F2 (by omega) (by rw [hl]; exact leastP_n (P := fun n => acnt lo kk c pn pg (n + 1) = 0) hz) (o1.fr k2 (by omega)) (p1.fr k2 (by omega) (by omega)) f5 hfr2 s1 s2 s3 s4
end
