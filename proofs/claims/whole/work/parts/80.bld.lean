/-! ===== Walks: the graph is laid ===== -/
section
/-- the object of the walks -/
def kO (S : aq_S) (lt st : Int32) : Prop := S.2.2.2 31 = some (.inr (4, [.int lt, .int st, .ref 32, .ref 33, .ref 34, .ref 35, .ref 36, .ref 37, .ref 38, .ref 39, .ref 40, .ref 41]))
theorem kO.fr {S S' : aq_S} {lt st : Int32} {P : Nat → Prop} (h : kO S lt st) (q : aq_fr S S' P) (h1 : ¬ P 31) : kO S' lt st := (q.2.2.2 31 h1).trans h
theorem k_peek (d : Nat) {S : aq_S} {a m i : Nat} {f : Nat → Int32} (h : ia S a m f) (hi : i < m) (hm : m ≤ 1000) : aX (d + 1) 46 [.ref a, .int (nI i)] S (fun o S' => o = .inl (some (.int (f i))) ∧ S' = S) := by
  refine ar_run (Nat.le_of_ble_eq_true rfl) (fun o S1 h => aq_le_of (aq_le_refl S) h) ?_
  refine ar_ld i_X4_peek_0 rfl rfl ?_
  refine ar_iff i_X4_peek_1 rfl (nI_pos (by omega)) ?_
  refine ar_ld i_X4_peek_4 rfl rfl ?_
  refine ar_ld i_X4_peek_5 rfl rfl ?_
  refine ar_len i_X4_peek_6 (by decide) (h) ?_
  refine ar_iff i_X4_peek_7 rfl (nI_ge hi (by omega)) ?_
  refine ar_ld i_X4_peek_10 rfl rfl ?_
  refine ar_ld i_X4_peek_11 rfl rfl ?_
  refine av_ldi i_X4_peek_12 (h) (by omega) (by omega) ?_
  refine ar_go i_X4_peek_13 ?_
  exact ar_ret i_X4_peek_17 rfl ⟨rfl, rfl⟩
theorem k_poke (d : Nat) {S : aq_S} {a m i : Nat} {f : Nat → Int32} (h : ia S a m f) (hi : i < m) (hm : m ≤ 1000) (ha : a ≠ 0) (x : Int32) : aX (d + 1) 47 [.ref a, .int (nI i), .int x] S (fun o S' => o = .inl none ∧ ia S' a m (upd f i x) ∧ aq_fr S S' (fun q => q = a)) := by
  refine ar_run (Nat.le_of_ble_eq_true rfl) (fun o S1 h => h.2.2.le) ?_
  refine ar_ld i_X4_poke_0 rfl rfl ?_
  refine ar_iff i_X4_poke_1 rfl (nI_pos (by omega)) ?_
  refine ar_ld i_X4_poke_4 rfl rfl ?_
  refine ar_ld i_X4_poke_5 rfl rfl ?_
  refine ar_len i_X4_poke_6 (by decide) (h) ?_
  refine ar_iff i_X4_poke_7 rfl (nI_ge hi (by omega)) ?_
  refine ar_ld i_X4_poke_10 rfl rfl ?_
  refine ar_ld i_X4_poke_11 rfl rfl ?_
  refine ar_ld i_X4_poke_12 rfl rfl ?_
  refine av_sti i_X4_poke_13 (by omega) (h) (by omega) (by omega) (fun S2 g2 k2 => ?_)
  exact ar_retv i_X4_poke_14 ⟨rfl, g2, k2⟩
theorem k_setSize (d : Nat) {S : aq_S} {k : Nat} {lt st : Int32} (h : kO S lt st) (hk : k ≤ 3) : aX (d + 1) 37 [.ref 31, .int (nI k)] S (fun o S' => o = .inl none ∧ kO S' (nI k) (nI (off k 5)) ∧ aq_fr S S' (fun q => q = 31)) := by
  refine ar_run (Nat.le_of_ble_eq_true rfl) (fun o S1 h => h.2.2.le) ?_
  refine ar_ld i_X4_setSize_0 rfl rfl ?_
  refine ar_ld i_X4_setSize_1 rfl rfl ?_
  refine av_pf i_X4_setSize_2 (h) (Nat.le_of_ble_eq_true rfl) (rfl) rfl (fun S1 g1 k1 => ?_)
  refine ar_ld i_X4_setSize_5 rfl rfl ?_
  refine ar_push i_X4_setSize_6 ?_
  refine av_pf i_X4_setSize_7 (g1) (Nat.le_of_ble_eq_true rfl) (rfl) rfl (fun S2 g2 k2 => ?_)
  have o2 : kO S2 (nI k) (nI (off k 1)) := by
    rw [show off k 1 = 1 from by show 0 * k + 1 = 1; rw [Nat.zero_mul]]
    exact g2
  refine ar_push i_X4_setSize_10 ?_
  refine ar_st i_X4_setSize_11 rfl rfl ?_
  refine ar_push i_X4_setSize_12 ?_
  refine ar_st i_X4_setSize_13 rfl rfl ?_
  have hfr := k1.tr k2
  suffices key : ∀ j i (S2 : aq_S), i + j = 4 → kO S2 (nI k) (nI (off k (i + 1))) → aq_fr S S2 (fun q => q = 31) → aG d 37 (fun o S' => o = .inl none ∧ kO S' (nI k) (nI (off k 5)) ∧ aq_fr S S' (fun q => q = 31)) 14 [(0, .ref 31), (1, .int (nI k)), (2, .int (nI (k ^ i))), (3, .int (nI i))] [] S2 from key 4 0 S2 (by omega) o2 hfr
  clear hfr o2 g2 k2 g1 k1 S2 S1
  intro j
  induction j with
  | zero =>
    intro i S2 hi o2 hfr
    have e : i = 4 := hi
    subst e
    refine ar_ld i_X4_setSize_14 rfl rfl ?_
    refine ar_push i_X4_setSize_15 ?_
    refine ar_ift i_X4_setSize_16 rfl (nI_le (a := 4) (b := 4) (by omega) (by omega)) ?_
    exact ar_retv i_X4_setSize_42 ⟨rfl, o2, hfr⟩
  | succ j ih =>
    intro i S2 hi o2 hfr
    refine ar_ld i_X4_setSize_14 rfl rfl ?_
    refine ar_push i_X4_setSize_15 ?_
    refine ar_iff i_X4_setSize_16 rfl (nI_ge (b := 4) (by omega) (by omega)) ?_
    refine ar_ld i_X4_setSize_19 rfl rfl ?_
    refine ar_ld i_X4_setSize_20 rfl rfl ?_
    refine ar_gf i_X4_setSize_21 (o2) rfl ?_
    refine ar_ar i_X4_setSize_24 rfl ?_
    rw [pk_mul, ← Nat.pow_succ]
    refine ar_st i_X4_setSize_25 rfl rfl ?_
    refine ar_ld i_X4_setSize_26 rfl rfl ?_
    refine ar_ar i_X4_setSize_27 rfl ?_
    refine ar_gf i_X4_setSize_28 (o2) rfl ?_
    refine ar_ld i_X4_setSize_31 rfl rfl ?_
    refine ar_ar i_X4_setSize_32 rfl ?_
    rw [nI_add, ← off_add]
    refine av_pf i_X4_setSize_33 (o2) (Nat.le_of_ble_eq_true rfl) (rfl) rfl (fun S3 g3 k3 => ?_)
    refine ar_inc i_X4_setSize_36 rfl rfl ?_
    refine ar_go i_X4_setSize_39 ?_
    have := ih (i + 1) S3 (by omega) g3 (hfr.tr k3)
    rw [← nI_1 i] at this
    exact this
theorem sBeg_cg {c : Nat} {pn : Nat → Nat} {pg : Nat → Nat → Int32} {f g : Nat → Int32} {n : Nat} {bg : Int64} (h : sBeg c pn pg f n bg) (e : ∀ i, i < n → f i = g i) : sBeg c pn pg g n bg := fun t ht => by
  rw [h t ht]
  refine ⟨fun ⟨i, j, a1, a2, a3, a4, a5⟩ => ⟨i, j, a1, a2, a3, a4, fun x hx => ?_⟩, fun ⟨i, j, a1, a2, a3, a4, a5⟩ => ⟨i, j, a1, a2, a3, a4, fun x hx => ?_⟩⟩
  · rw [← e _ (by omega)]; exact a5 x hx
  · rw [e _ (by omega)]; exact a5 x hx
/-- the bits of the last symbols, but of one pattern -/
def eE (lo : Int32) (c : Nat) (pn : Nat → Nat) (E : Int64) : Prop := ∀ t, t < 64 → (lb E t = true ↔ ∃ i, i < c ∧ ¬ nI i = lo ∧ t + 1 = 5 * i + pn i)
theorem sBeg_endX {lo : Int32} {c : Nat} {pn : Nat → Nat} {pg : Nat → Nat → Int32} (h : pOk c pn pg) {f : Nat → Int32} {n : Nat} {bg E : Int64} (hb : sBeg c pn pg f n bg) (hE : eE lo c pn E) : (¬ bg &&& E = 0) ↔ pAtX lo c pn pg f n := by
  rw [lb_nz]
  refine ⟨fun ⟨t, ht, z⟩ => ?_, fun ⟨i, hi, hl, hn, w⟩ => ?_⟩
  · rw [lb_and, Bool.and_eq_true, hb t ht, hE t ht] at z
    obtain ⟨⟨i, j, hi, hj, e, hjn, w⟩, i2, hi2, hl, e2⟩ := z
    have h1 := h.2.1 i hi
    have h2 := h.2.1 i2 hi2
    have ei : i2 = i := by omega
    subst ei
    refine ⟨i2, hi, hl, by omega, fun x hx => ?_⟩
    have := w x (by omega)
    rw [show n - 1 - j + x = n - pn i2 + x by omega] at this
    exact this
  · have h1 := h.2.1 i hi
    have h12 := h.1
    refine ⟨5 * i + (pn i - 1), by omega, ?_⟩
    rw [lb_and, Bool.and_eq_true, hb _ (by omega), hE _ (by omega)]
    refine ⟨⟨i, pn i - 1, hi, by omega, rfl, by omega, fun x hx => ?_⟩, i, hi, hl, by omega⟩
    have := w x (by omega)
    rw [show n - pn i + x = n - 1 - (pn i - 1) + x by omega] at this
    exact this
/-- the graph: the state behind a state and a letter -/
noncomputable def tgG (k : Nat) (al : Nat → Nat → Nat → Prop) (s a : Nat) : Option Nat := pif (∃ n u, n ≤ 4 ∧ u < k ^ n ∧ s = off k n + u ∧ al n u a) (some (if off k 4 ≤ s then off k 4 + ((s - off k 4) * k + a) % k ^ 4 else s * k + a + 1)) none
/-- the number of the state behind a word of n letters and a letter -/
def nxS (k n u a : Nat) : Nat := if n < 4 then off k (n + 1) + (u * k + a) else off k 4 + (u * k + a) % k ^ 4
theorem tgG_at {k : Nat} {al : Nat → Nat → Nat → Prop} {n u a : Nat} (hn : n ≤ 4) (hu : u < k ^ n) : tgG k al (off k n + u) a = pif (al n u a) (some (nxS k n u a)) none := by
  unfold tgG nxS
  have e : (∃ n' u', n' ≤ 4 ∧ u' < k ^ n' ∧ off k n + u = off k n' + u' ∧ al n' u' a) ↔ al n u a := by
    refine ⟨fun ⟨n', u', h1, h2, h3, h4⟩ => ?_, fun z => ⟨n, u, hn, hu, rfl, z⟩⟩
    obtain ⟨e1, e2⟩ := off_uniq hu h2 h3
    subst e1 e2
    exact h4
  rw [pif_cg e]
  congr 2
  by_cases h4 : n < 4
  · have := off_mono k (show n + 1 ≤ 4 from h4)
    have := off_add k n
    rw [if_neg (by omega), if_pos h4, off_child]
  · have e4 : n = 4 := by omega
    subst e4
    rw [if_pos (by omega), if_neg h4, Nat.add_sub_cancel_left]
theorem nxS_lt {k n u a : Nat} (hk : 0 < k) (hn : n ≤ 4) (hu : u < k ^ n) (ha : a < k) : 0 < nxS k n u a ∧ nxS k n u a < off k 5 := by
  unfold nxS
  by_cases h4 : n < 4
  · rw [if_pos h4]
    have h1 := child_lt hu ha
    have h2 := off_add k (n + 1)
    have h3 := off_mono k (show n + 1 + 1 ≤ 5 by omega)
    have h5 : off k (n + 1) = off k n * k + 1 := rfl
    omega
  · rw [if_neg h4]
    have h1 := Nat.mod_lt (u * k + a) (show 0 < k ^ 4 from Nat.pow_pos hk)
    have h2 := off_add k 4
    have h5 : off k 4 = off k 3 * k + 1 := rfl
    have h6 : off k 5 = off k (4 + 1) := rfl
    generalize (u * k + a) % k ^ 4 = y at *
    omega
def tgI (o : Option Nat) : Int32 := o.elim (-1) nI
/-- the rows of the walks, whatever they hold; the state 0 is the empty word -/
def kA (S : aq_S) : Prop := (∃ f, ia S 32 363 f) ∧ (∃ f, ia S 33 121 f) ∧ (∃ f, ia S 34 121 f) ∧ (∃ f, la S 35 121 f ∧ f 0 = 0) ∧ (∃ f, ia S 36 121 f) ∧ (∃ f, ia S 37 121 f) ∧ (∃ f, ia S 38 121 f) ∧ (∃ f, ia S 39 121 f) ∧ (∃ f, la S 40 121 f) ∧ ∃ f, la S 41 121 f
/-- the graph stands -/
def kG (S : aq_S) (k : Nat) (tg : Nat → Nat → Option Nat) : Prop := kO S (nI k) (nI (off k 5)) ∧ (∃ T, ia S 32 363 T ∧ ∀ s, s < off k 5 → ∀ a, a < k → T (3 * s + a) = tgI (tg s a)) ∧ ∃ l, ia S 33 121 l ∧ ∀ s, 0 < s → s < off k 5 → l s = nI ((s - 1) % k)
theorem k_build (d : Nat) {S : aq_S} {k c : Nat} {lt st lo : Int32} {pn : Nat → Nat} {pg : Nat → Nat → Int32} {E : Int64} (h : kO S lt st) (hA : kA S) (hp : hP S 4 c pn pg) (hpk : pOk c pn pg) (hE : eE lo c pn E) (hk0 : 0 < k) (hk : k ≤ 3) : aX (d + 2) 36 [.ref 31, .int (nI k), .ref 4, .long E] S (fun o S' => o = .inl none ∧ (kG S' k (tgG k (alP lo k c pn pg)) ∧ kA S') ∧ aq_fr S S' (fun q => 31 ≤ q ∧ q ≤ 35)) := by
  obtain ⟨⟨T, hT⟩, ⟨l, hl⟩, ⟨w, hw⟩, ⟨b, hb, hb0⟩, hR⟩ := hA
  have h5 := off_5 k (by omega)
  refine ar_run (Nat.le_of_ble_eq_true rfl) (fun o S1 h => h.2.2.le) ?_
  refine ar_ld i_X4_build_0 rfl rfl ?_
  refine ar_ld i_X4_build_1 rfl rfl ?_
  refine av_cv i_X4_build_2 rfl ⟨_, _, _, rfl, h⟩ (Nat.le_of_ble_eq_true rfl) (k_setSize d h hk) (fun S1 q1 => ?_)
  obtain ⟨o1, k1⟩ := q1
  refine ar_push i_X4_build_5 ?_
  refine ar_st i_X4_build_6 rfl rfl ?_
  have post : ∀ S2 (T l w : Nat → Int32) (b : Nat → Int64), kO S2 (nI k) (nI (off k 5)) → ia S2 32 363 T → ia S2 33 121 l → ia S2 34 121 w → la S2 35 121 b → b 0 = 0 → (∀ p a, p < off k 5 → a < k → T (3 * p + a) = tgI (tgG k (alP lo k c pn pg) p a)) → (∀ s, 0 < s → s < off k 5 → l s = nI ((s - 1) % k)) → aq_fr S S2 (fun q => 31 ≤ q ∧ q ≤ 35) → (kG S2 k (tgG k (alP lo k c pn pg)) ∧ kA S2) ∧ aq_fr S S2 (fun q => 31 ≤ q ∧ q ≤ 35) := by
    intro S2 T l w b o2 hT hl hw hb hb0 a1 a2 hfr
    obtain ⟨⟨f1, r1⟩, ⟨f2, r2⟩, ⟨f3, r3⟩, ⟨f4, r4⟩, ⟨f5, r5⟩, f6, r6⟩ := hR
    exact ⟨⟨⟨o2, ⟨T, hT, fun s hs a ha => a1 s a hs ha⟩, l, hl, a2⟩, ⟨T, hT⟩, ⟨l, hl⟩, ⟨w, hw⟩, ⟨b, hb, hb0⟩, ⟨f1, r1.fr hfr (by omega)⟩, ⟨f2, r2.fr hfr (by omega)⟩, ⟨f3, r3.fr hfr (by omega)⟩, ⟨f4, r4.fr hfr (by omega)⟩, ⟨f5, r5.fr hfr (by omega)⟩, f6, r6.fr hfr (by omega)⟩, hfr⟩
  have inv0 : ∀ x n u, x < 1 → n ≤ 4 → u < k ^ n → x = off k n + u → sBeg c pn pg (wlet k n u) n (b x) ∧ (0 < n → l x = nI ((x - 1) % k) ∧ w x = nI (off k (n - 1) + u % k ^ (n - 1))) := by
    intro x n u hx hn hu e
    have e0 : off k 0 + 0 = off k n + u := by show 0 = _; omega
    obtain ⟨e1, e2⟩ := off_uniq (k := k) (n := 0) (u := 0) (by rw [Nat.pow_zero]; omega) hu e0
    subst e1 e2
    have ex : x = 0 := by omega
    rw [ex, hb0]
    exact ⟨sBeg_0, fun z => absurd z (Nat.lt_irrefl 0)⟩
  suffices key : ∀ j s (S2 : aq_S) (T l w : Nat → Int32) (b : Nat → Int64) (L6 : List (Nat × Value)), s + j = off k 5 → (L6 = [] ∨ ∃ v1 v2 v3 v4, L6 = [(6, .int v1), (7, .long v2), (9, .int v3), (10, .int v4)]) → kO S2 (nI k) (nI (off k 5)) → ia S2 32 363 T → ia S2 33 121 l → ia S2 34 121 w → la S2 35 121 b → b 0 = 0 → (∀ x n u, x < s * k + 1 → n ≤ 4 → u < k ^ n → x = off k n + u → sBeg c pn pg (wlet k n u) n (b x) ∧ (0 < n → l x = nI ((x - 1) % k) ∧ w x = nI (off k (n - 1) + u % k ^ (n - 1)))) → (∀ p a, p < s → a < k → T (3 * p + a) = tgI (tgG k (alP lo k c pn pg) p a)) → aq_fr S S2 (fun q => 31 ≤ q ∧ q ≤ 35) → aG (d + 1) 36 (fun o S' => o = .inl none ∧ (kG S' k (tgG k (alP lo k c pn pg)) ∧ kA S') ∧ aq_fr S S' (fun q => 31 ≤ q ∧ q ≤ 35)) 8 ((0, .ref 31) :: (1, .int (nI k)) :: (2, .ref 4) :: (3, .long E) :: (5, .int (nI s)) :: L6) [] S2 from key (off k 5) 0 S1 T l w b [] (by omega) (Or.inl rfl) o1 (hT.fr k1 (by omega)) (hl.fr k1 (by omega)) (hw.fr k1 (by omega)) (hb.fr k1 (by omega)) hb0 (fun x n u hx => inv0 x n u (by omega)) (fun p a hp => absurd hp (Nat.not_lt_zero p)) (k1.mono (fun q z => by omega))
  clear inv0 k1 o1 S1 hT hl hw hb hb0 T l w b
  intro j
  induction j with
  | zero =>
    intro s S2 T l w b L6 hs hL o2 hT hl hw hb hb0 inv tgs hfr
    have es : s = off k 5 := hs
    subst es
    refine ar_ld i_X4_build_8 rfl rfl ?_
    refine ar_ld i_X4_build_10 rfl rfl ?_
    refine ar_gf i_X4_build_11 (o2) rfl ?_
    refine ar_ift i_X4_build_14 rfl (nI_le (Nat.le_refl _) (by omega)) ?_
    refine ar_retv i_X4_build_196 ⟨rfl, post S2 T l w b o2 hT hl hw hb hb0 tgs (fun x h0 hx => ?_) hfr⟩
    obtain ⟨n, u, hn, hu, e⟩ := off_word hx
    have hn0 : 0 < n := by
      refine Nat.pos_of_ne_zero fun z => ?_
      subst z
      rw [Nat.pow_zero] at hu
      have : off k 0 = 0 := rfl
      omega
    exact ((inv x n u (by have : off k 5 ≤ off k 5 * k := Nat.le_mul_of_pos_right _ hk0; omega) hn hu e).2 hn0).1
  | succ j ih =>
    intro s S2 T l w b L6 hs hL o2 hT hl hw hb hb0 inv tgs hfr
    have hs5 : s < off k 5 := by omega
    obtain ⟨n, u, hn, hu, es⟩ := off_word hs5
    have inner : ∀ jj a (S2 : aq_S) (T l w : Nat → Int32) (b : Nat → Int64) (L7 : List (Nat × Value)), a + jj = k → ((a = 0 ∧ L7 = []) ∨ ∃ v2 v3 v4, L7 = [(7, .long v2), (9, .int v3), (10, .int v4)]) → kO S2 (nI k) (nI (off k 5)) → ia S2 32 363 T → ia S2 33 121 l → ia S2 34 121 w → la S2 35 121 b → b 0 = 0 → (∀ x n u, x < s * k + a + 1 → n ≤ 4 → u < k ^ n → x = off k n + u → sBeg c pn pg (wlet k n u) n (b x) ∧ (0 < n → l x = nI ((x - 1) % k) ∧ w x = nI (off k (n - 1) + u % k ^ (n - 1)))) → (∀ p a', p < s ∨ (p = s ∧ a' < a) → a' < k → T (3 * p + a') = tgI (tgG k (alP lo k c pn pg) p a')) → aq_fr S S2 (fun q => 31 ≤ q ∧ q ≤ 35) → aG (d + 1) 36 (fun o S' => o = .inl none ∧ (kG S' k (tgG k (alP lo k c pn pg)) ∧ kA S') ∧ aq_fr S S' (fun q => 31 ≤ q ∧ q ≤ 35)) 30 ((0, .ref 31) :: (1, .int (nI k)) :: (2, .ref 4) :: (3, .long E) :: (5, .int (nI s)) :: (6, .int (nI a)) :: L7) [] S2 := by
      intro jj
      induction jj with
      | zero =>
        intro a S2 T l w b L7 ha hL o2 hT hl hw hb hb0 inv tgs hfr
        have ea : a = k := ha
        rcases hL with ⟨z, -⟩ | ⟨v2, v3, v4, eL⟩
        · omega
        · subst eL
          refine ar_ld i_X4_build_30 rfl rfl ?_
          refine ar_ld i_X4_build_32 rfl rfl ?_
          refine ar_gf i_X4_build_33 (o2) rfl ?_
          refine ar_ift i_X4_build_36 rfl (nI_le (by omega) (by omega)) ?_
          refine ar_inc i_X4_build_190 rfl rfl ?_
          refine ar_go i_X4_build_193 ?_
          rw [nI_1]
          exact ih (s + 1) S2 T l w b _ (by omega) (Or.inr ⟨_, _, _, _, rfl⟩) o2 hT hl hw hb hb0 (fun x n u hx => inv x n u (by rw [Nat.add_mul, Nat.one_mul] at hx; omega)) (fun p a' hp ha' => tgs p a' (by omega) ha') hfr
      | succ jj ihj =>
        intro a S2 T l w b L7 ha hL o2 hT hl hw hb hb0 inv tgs hfr
        have hak : a < k := by omega
        have hp2 := hp.fr hfr (by omega) (by omega)
        have hp4 := hp2
        have hya : isY 3 (nI a) := Or.inr ⟨nI_pos (by omega), nI_lt (b := 3) (by omega) (by omega)⟩
        have hsk : s * k ≤ 363 := Nat.le_trans (Nat.mul_le_mul (show s ≤ 121 by omega) hk) (by omega)
        have enx : s * k + a + 1 = off k (n + 1) + (u * k + a) := by rw [es]; exact off_child k n u a
        have invs := inv s n u (by have : s ≤ s * k := Nat.le_mul_of_pos_right _ hk0; omega) hn hu es
        have hbs : sBeg c pn pg (wlet k (n + 1) (u * k + a)) n (b s) := sBeg_cg invs.1 (fun i hi => (wlet_in hak hi).symm)
        have hn0 : s ≠ 0 → 0 < n := fun z => Nat.pos_of_ne_zero fun y => by
          subst y
          rw [Nat.pow_zero] at hu
          have : off k 0 = 0 := rfl
          omega
        have sh0 : s = 0 → off k n + (u * k + a) % k ^ n = 0 := fun z => by
          have e0 : off k 0 + 0 = off k n + u := by show 0 = _; omega
          obtain ⟨e1, e2⟩ := off_uniq (k := k) (n := 0) (u := 0) (by rw [Nat.pow_zero]; omega) hu e0
          subst e1 e2
          rw [Nat.pow_zero, Nat.mod_one]
          rfl
        have sh1 : s ≠ 0 → (off k (n - 1) + u % k ^ (n - 1)) * k + a + 1 = off k n + (u * k + a) % k ^ n := fun z => by
          obtain ⟨y, rfl⟩ : ∃ y, n = y + 1 := ⟨n - 1, by have := hn0 z; omega⟩
          rw [show y + 1 - 1 = y by omega, modmul hak]
          exact off_child k y (u % k ^ y) a
        have hws : s ≠ 0 → w s = nI (off k (n - 1) + u % k ^ (n - 1)) := fun z => (invs.2 (hn0 z)).2
        have hnxl := nxS_lt hk0 hn hu hak
        have c155 : ∀ z (S2 : aq_S) (T l w : Nat → Int32) (b : Nat → Int64) v10, sBeg c pn pg (wlet k (n + 1) (u * k + a)) (n + 1) z → kO S2 (nI k) (nI (off k 5)) → ia S2 32 363 T → ia S2 33 121 l → ia S2 34 121 w → la S2 35 121 b → b 0 = 0 → (∀ x n u, x < s * k + (a + 1) + 1 → n ≤ 4 → u < k ^ n → x = off k n + u → sBeg c pn pg (wlet k n u) n (b x) ∧ (0 < n → l x = nI ((x - 1) % k) ∧ w x = nI (off k (n - 1) + u % k ^ (n - 1)))) → (∀ p a', p < s ∨ (p = s ∧ a' < a) → a' < k → T (3 * p + a') = tgI (tgG k (alP lo k c pn pg) p a')) → aq_fr S S2 (fun q => 31 ≤ q ∧ q ≤ 35) → aG (d + 1) 36 (fun o S' => o = .inl none ∧ (kG S' k (tgG k (alP lo k c pn pg)) ∧ kA S') ∧ aq_fr S S' (fun q => 31 ≤ q ∧ q ≤ 35)) 155 [(0, .ref 31), (1, .int (nI k)), (2, .ref 4), (3, .long E), (5, .int (nI s)), (6, .int (nI a)), (7, .long z), (9, .int (nI (nxS k n u a))), (10, .int v10)] [] S2 := by
          intro z S2 T l w b v10 hz2 o2 hT hl hw hb hb0 inv tgs hfr
          have hend := sBeg_endX hpk hz2 hE
          have fin : ∀ x : Int32, x = tgI (tgG k (alP lo k c pn pg) s a) → aG (d + 1) 36 (fun o S' => o = .inl none ∧ (kG S' k (tgG k (alP lo k c pn pg)) ∧ kA S') ∧ aq_fr S S' (fun q => 31 ≤ q ∧ q ≤ 35)) 181 [(0, .ref 31), (1, .int (nI k)), (2, .ref 4), (3, .long E), (5, .int (nI s)), (6, .int (nI a)), (7, .long z), (9, .int (nI (nxS k n u a))), (10, .int v10)] [.int x, .int (nI (s * 3 + a)), .ref 32] S2 := by
            intro x hx
            refine av_cv i_X4_build_181 rfl trivial (Nat.le_of_ble_eq_true rfl) (k_poke d hT (show s * 3 + a < 363 by omega) (by omega) (by omega) x) (fun S3 q3 => ?_)
            obtain ⟨g3, k3⟩ := q3
            refine ar_inc i_X4_build_184 rfl rfl ?_
            refine ar_go i_X4_build_187 ?_
            rw [nI_1]
            exact ihj (a + 1) S3 _ l w b _ (by omega) (Or.inr ⟨_, _, _, rfl⟩) (o2.fr k3 (by omega)) g3 (hl.fr k3 (by omega)) (hw.fr k3 (by omega)) (hb.fr k3 (by omega)) hb0 inv (fun p a' hp ha' => by
              by_cases e : p = s ∧ a' = a
              · rw [e.1, e.2, show 3 * s + a = s * 3 + a by omega, upd_eq]
                exact hx
              · rw [upd_ne (by omega)]
                exact tgs p a' (by omega) ha') (hfr.tr (k3.mono (fun q z => by omega)))
          refine ar_ld i_X4_build_155 rfl rfl ?_
          refine ar_gf i_X4_build_156 (o2) rfl ?_
          refine ar_ld i_X4_build_159 rfl rfl ?_
          refine ar_push i_X4_build_161 ?_
          rw [show (3 : Int32) = nI 3 from rfl]
          refine ar_ar i_X4_build_162 rfl ?_
          rw [pk_mul]
          refine ar_ld i_X4_build_163 rfl rfl ?_
          refine ar_ar i_X4_build_165 rfl ?_
          rw [nI_add]
          refine ar_ld i_X4_build_166 rfl rfl ?_
          refine ar_ld i_X4_build_168 rfl rfl ?_
          refine ar_ar i_X4_build_169 rfl ?_
          refine ar_push i_X4_build_170 ?_
          refine ar_ar i_X4_build_171 rfl ?_
          by_cases hat : pAtX lo c pn pg (wlet k (n + 1) (u * k + a)) (n + 1)
          · refine ar_iff i_X4_build_172 rfl (fun y => hend.mpr hat ((lg_cmp_eq _ _).mp y)) ?_
            refine ar_push i_X4_build_175 ?_
            refine ar_go i_X4_build_176 ?_
            exact fin (-1) (by rw [es, tgG_at hn hu, pif_f (fun y : alP lo k c pn pg n u a => y hat)]; rfl)
          · refine ar_ift i_X4_build_172 rfl ((lg_cmp_eq _ _).mpr (Classical.byContradiction fun y => hat (hend.mp y))) ?_
            refine ar_ld i_X4_build_179 rfl rfl ?_
            exact fin _ (by rw [es, tgG_at hn hu, pif_t (show alP lo k c pn pg n u a from hat)]; rfl)
        have c98 : ∀ z, sBeg c pn pg (wlet k (n + 1) (u * k + a)) (n + 1) z → aG (d + 1) 36 (fun o S' => o = .inl none ∧ (kG S' k (tgG k (alP lo k c pn pg)) ∧ kA S') ∧ aq_fr S S' (fun q => 31 ≤ q ∧ q ≤ 35)) 98 [(0, .ref 31), (1, .int (nI k)), (2, .ref 4), (3, .long E), (5, .int (nI s)), (6, .int (nI a)), (7, .long z), (9, .int (nI (s * k + a + 1))), (10, .int (nI (off k n + (u * k + a) % k ^ n)))] [] S2 := by
          intro z hz2
          by_cases h4 : n < 4
          · have hnx : nxS k n u a = s * k + a + 1 := by rw [enx]; exact if_pos h4
            have hlt : s * k + a + 1 < off k 5 := by rw [← hnx]; exact hnxl.2
            refine ar_ld i_X4_build_98 rfl rfl ?_
            refine ar_ld i_X4_build_100 rfl rfl ?_
            refine ar_gf i_X4_build_101 (o2) rfl ?_
            refine ar_iff i_X4_build_104 rfl (nI_ge hlt (by omega)) ?_
            refine ar_ld i_X4_build_107 rfl rfl ?_
            refine ar_ld i_X4_build_109 rfl rfl ?_
            refine ar_gf i_X4_build_110 (o2) rfl ?_
            refine ar_len i_X4_build_113 (by decide) (hb) ?_
            refine ar_iff i_X4_build_114 rfl (nI_ge (a := s * k + a + 1) (b := 121) (by omega) (by omega)) ?_
            refine ar_ld i_X4_build_117 rfl rfl ?_
            refine ar_gf i_X4_build_118 (o2) rfl ?_
            refine ar_ld i_X4_build_121 rfl rfl ?_
            refine ar_ld i_X4_build_123 rfl rfl ?_
            refine av_stl i_X4_build_125 (by omega) (hb) (by omega) (by omega) (fun S3 g3 k3 => ?_)
            have g3 : la S3 35 121 _ := g3
            have o3 := o2.fr k3 (by omega)
            refine ar_ld i_X4_build_126 rfl rfl ?_
            refine ar_gf i_X4_build_127 (o3) rfl ?_
            refine ar_ld i_X4_build_130 rfl rfl ?_
            refine ar_ld i_X4_build_132 rfl rfl ?_
            refine av_cv i_X4_build_134 rfl trivial (Nat.le_of_ble_eq_true rfl) (k_poke d (hw.fr k3 (by omega)) (show s * k + a + 1 < 121 by omega) (by omega) (by omega) _) (fun S4 q4 => ?_)
            obtain ⟨g4, k4⟩ := q4
            have o4 := o3.fr k4 (by omega)
            refine ar_ld i_X4_build_137 rfl rfl ?_
            refine ar_gf i_X4_build_138 (o4) rfl ?_
            refine ar_ld i_X4_build_141 rfl rfl ?_
            refine ar_ld i_X4_build_143 rfl rfl ?_
            refine av_cv i_X4_build_145 rfl trivial (Nat.le_of_ble_eq_true rfl) (k_poke d ((hl.fr k3 (by omega)).fr k4 (by omega)) (show s * k + a + 1 < 121 by omega) (by omega) (by omega) _) (fun S5 q5 => ?_)
            obtain ⟨g5, k5⟩ := q5
            refine ar_go i_X4_build_148 ?_
            have hfr5 := hfr.tr ((k3.mono (P' := fun q => 31 ≤ q ∧ q ≤ 35) (fun q z => by omega)).tr ((k4.mono (fun q z => by omega)).tr (k5.mono (fun q z => by omega))))
            rw [← hnx]
            rw [← hnx] at g3 g4 g5
            refine c155 z S5 T _ _ _ _ hz2 (o4.fr k5 (by omega)) (((hT.fr k3 (by omega)).fr k4 (by omega)).fr k5 (by omega)) g5 (g4.fr k5 (by omega)) ((g3.fr k4 (by omega)).fr k5 (by omega)) (by rw [vp_updL_ne (by omega)]; exact hb0) (fun x n' u' hx hn' hu' e => ?_) tgs hfr5
            by_cases ex : x = nxS k n u a
            · obtain ⟨e1, e2⟩ := off_uniq (k := k) (n := n + 1) (u := u * k + a) (child_lt hu hak) hu' (by rw [← e, ex, hnx, enx])
              subst e1 e2
              rw [ex, vp_updL_eq, upd_eq, upd_eq]
              refine ⟨hz2, fun _ => ⟨?_, by rw [show n + 1 - 1 = n by omega]⟩⟩
              rw [hnx, show s * k + a + 1 - 1 = a + s * k by omega, Nat.add_mul_mod_self_right, Nat.mod_eq_of_lt hak]
            · rw [vp_updL_ne ex, upd_ne ex, upd_ne ex]
              exact inv x n' u' (by omega) hn' hu' e
          · have e4 : n = 4 := by omega
            subst e4
            have hnx : nxS k 4 u a = off k 4 + (u * k + a) % k ^ 4 := if_neg (by omega)
            refine ar_ld i_X4_build_98 rfl rfl ?_
            refine ar_ld i_X4_build_100 rfl rfl ?_
            refine ar_gf i_X4_build_101 (o2) rfl ?_
            refine ar_ift i_X4_build_104 rfl (nI_le (show off k 5 ≤ s * k + a + 1 by rw [enx]; exact Nat.le_add_right _ _) (by omega)) ?_
            refine ar_ld i_X4_build_151 rfl rfl ?_
            refine ar_st i_X4_build_153 rfl rfl ?_
            rw [← hnx]
            refine c155 z S2 T l w b _ hz2 o2 hT hl hw hb hb0 (fun x n' u' hx hn' hu' e => ?_) tgs hfr
            by_cases ex : x = s * k + a + 1
            · exfalso
              have h1 := off_add k n'
              have h2 := off_mono k (show n' + 1 ≤ 5 by omega)
              have h3 : off k 5 = off k (4 + 1) := rfl
              omega
            · exact inv x n' u' (by omega) hn' hu' e
        rcases hL with ⟨-, eL⟩ | ⟨v2, v3, v4, eL⟩
        · subst eL
          refine ar_ld i_X4_build_30 rfl rfl ?_
          refine ar_ld i_X4_build_32 rfl rfl ?_
          refine ar_gf i_X4_build_33 (o2) rfl ?_
          refine ar_iff i_X4_build_36 rfl (nI_ge (show a < k by omega) (by omega)) ?_
          refine ar_ld i_X4_build_39 rfl rfl ?_
          refine ar_ld i_X4_build_40 rfl rfl ?_
          refine ar_gf i_X4_build_41 (o2) rfl ?_
          refine ar_ld i_X4_build_44 rfl rfl ?_
          refine av_ldl i_X4_build_46 (hb) (by omega) (by omega) ?_
          refine ar_ld i_X4_build_47 rfl rfl ?_
          refine av_ce i_X4_build_49 rfl ⟨_, _, _, rfl, hp4.choose_spec.choose_spec.1⟩ (Nat.le_of_ble_eq_true rfl) (p_follow (d + 0) (bg := b s) hp2 hpk hya) (fun z S3 hz => ?_)
          obtain ⟨hz1, e3⟩ := hz
          subst e3
          have hz2 := sBeg_step hpk hbs (show ∀ t, t < 64 → (lb z t = true ↔ fBit c pn pg (b s) (wlet k (n + 1) (u * k + a) n) t) by rw [wlet_last hak]; exact hz1)
          refine ar_st i_X4_build_52 rfl rfl ?_
          refine ar_ld i_X4_build_54 rfl rfl ?_
          refine ar_ld i_X4_build_56 rfl rfl ?_
          refine ar_gf i_X4_build_57 (o2) rfl ?_
          refine ar_ar i_X4_build_60 rfl ?_
          rw [pk_mul]
          refine ar_ld i_X4_build_61 rfl rfl ?_
          refine ar_ar i_X4_build_63 rfl ?_
          rw [nI_add]
          refine ar_push i_X4_build_64 ?_
          refine ar_ar i_X4_build_65 rfl ?_
          rw [nI_1]
          refine ar_st i_X4_build_66 rfl rfl ?_
          refine ar_ld i_X4_build_68 rfl rfl ?_
          by_cases hs0 : s = 0
          · have hsh := sh0 hs0
            refine ar_iff i_X4_build_70 rfl (fun z => z (congrArg nI hs0)) ?_
            refine ar_push i_X4_build_73 ?_
            refine ar_go i_X4_build_74 ?_
            refine ar_st i_X4_build_96 rfl rfl ?_
            have hc := c98 z hz2
            rw [hsh] at hc
            exact hc
          · have hsh := sh1 hs0
            refine ar_ift i_X4_build_70 rfl (nI_ne0 (by omega) (by omega)) ?_
            refine ar_ld i_X4_build_77 rfl rfl ?_
            refine ar_gf i_X4_build_78 (o2) rfl ?_
            refine ar_ld i_X4_build_81 rfl rfl ?_
            refine ar_cr i_X4_build_83 rfl trivial (Nat.le_of_ble_eq_true rfl) (k_peek d hw (show s < 121 by omega) (by omega)) ?_
            rw [hws hs0]
            refine ar_ld i_X4_build_86 rfl rfl ?_
            refine ar_gf i_X4_build_87 (o2) rfl ?_
            refine ar_ar i_X4_build_90 rfl ?_
            rw [pk_mul]
            refine ar_ld i_X4_build_91 rfl rfl ?_
            refine ar_ar i_X4_build_93 rfl ?_
            rw [nI_add]
            refine ar_push i_X4_build_94 ?_
            refine ar_ar i_X4_build_95 rfl ?_
            rw [nI_1, hsh]
            refine ar_st i_X4_build_96 rfl rfl ?_
            exact c98 z hz2
        · subst eL
          refine ar_ld i_X4_build_30 rfl rfl ?_
          refine ar_ld i_X4_build_32 rfl rfl ?_
          refine ar_gf i_X4_build_33 (o2) rfl ?_
          refine ar_iff i_X4_build_36 rfl (nI_ge (show a < k by omega) (by omega)) ?_
          refine ar_ld i_X4_build_39 rfl rfl ?_
          refine ar_ld i_X4_build_40 rfl rfl ?_
          refine ar_gf i_X4_build_41 (o2) rfl ?_
          refine ar_ld i_X4_build_44 rfl rfl ?_
          refine av_ldl i_X4_build_46 (hb) (by omega) (by omega) ?_
          refine ar_ld i_X4_build_47 rfl rfl ?_
          refine av_ce i_X4_build_49 rfl ⟨_, _, _, rfl, hp4.choose_spec.choose_spec.1⟩ (Nat.le_of_ble_eq_true rfl) (p_follow (d + 0) (bg := b s) hp2 hpk hya) (fun z S3 hz => ?_)
          obtain ⟨hz1, e3⟩ := hz
          subst e3
          have hz2 := sBeg_step hpk hbs (show ∀ t, t < 64 → (lb z t = true ↔ fBit c pn pg (b s) (wlet k (n + 1) (u * k + a) n) t) by rw [wlet_last hak]; exact hz1)
          refine ar_st i_X4_build_52 rfl rfl ?_
          refine ar_ld i_X4_build_54 rfl rfl ?_
          refine ar_ld i_X4_build_56 rfl rfl ?_
          refine ar_gf i_X4_build_57 (o2) rfl ?_
          refine ar_ar i_X4_build_60 rfl ?_
          rw [pk_mul]
          refine ar_ld i_X4_build_61 rfl rfl ?_
          refine ar_ar i_X4_build_63 rfl ?_
          rw [nI_add]
          refine ar_push i_X4_build_64 ?_
          refine ar_ar i_X4_build_65 rfl ?_
          rw [nI_1]
          refine ar_st i_X4_build_66 rfl rfl ?_
          refine ar_ld i_X4_build_68 rfl rfl ?_
          by_cases hs0 : s = 0
          · have hsh := sh0 hs0
            refine ar_iff i_X4_build_70 rfl (fun z => z (congrArg nI hs0)) ?_
            refine ar_push i_X4_build_73 ?_
            refine ar_go i_X4_build_74 ?_
            refine ar_st i_X4_build_96 rfl rfl ?_
            have hc := c98 z hz2
            rw [hsh] at hc
            exact hc
          · have hsh := sh1 hs0
            refine ar_ift i_X4_build_70 rfl (nI_ne0 (by omega) (by omega)) ?_
            refine ar_ld i_X4_build_77 rfl rfl ?_
            refine ar_gf i_X4_build_78 (o2) rfl ?_
            refine ar_ld i_X4_build_81 rfl rfl ?_
            refine ar_cr i_X4_build_83 rfl trivial (Nat.le_of_ble_eq_true rfl) (k_peek d hw (show s < 121 by omega) (by omega)) ?_
            rw [hws hs0]
            refine ar_ld i_X4_build_86 rfl rfl ?_
            refine ar_gf i_X4_build_87 (o2) rfl ?_
            refine ar_ar i_X4_build_90 rfl ?_
            rw [pk_mul]
            refine ar_ld i_X4_build_91 rfl rfl ?_
            refine ar_ar i_X4_build_93 rfl ?_
            rw [nI_add]
            refine ar_push i_X4_build_94 ?_
            refine ar_ar i_X4_build_95 rfl ?_
            rw [nI_1, hsh]
            refine ar_st i_X4_build_96 rfl rfl ?_
            exact c98 z hz2
    rcases hL with eL | ⟨v1, v2, v3, v4, eL⟩
    · subst eL
      refine ar_ld i_X4_build_8 rfl rfl ?_
      refine ar_ld i_X4_build_10 rfl rfl ?_
      refine ar_gf i_X4_build_11 (o2) rfl ?_
      refine ar_iff i_X4_build_14 rfl (nI_ge hs5 (by omega)) ?_
      refine ar_ld i_X4_build_17 rfl rfl ?_
      refine ar_ld i_X4_build_19 rfl rfl ?_
      refine ar_gf i_X4_build_20 (o2) rfl ?_
      refine ar_len i_X4_build_23 (by decide) (hb) ?_
      refine ar_iff i_X4_build_24 rfl (nI_ge (a := s) (b := 121) (by omega) (by omega)) ?_
      refine ar_push i_X4_build_27 ?_
      refine ar_st i_X4_build_28 rfl rfl ?_
      exact inner k 0 S2 T l w b [] (by omega) (Or.inl ⟨rfl, rfl⟩) o2 hT hl hw hb hb0 inv (fun p a' hp ha' => tgs p a' (by omega) ha') hfr
    · subst eL
      refine ar_ld i_X4_build_8 rfl rfl ?_
      refine ar_ld i_X4_build_10 rfl rfl ?_
      refine ar_gf i_X4_build_11 (o2) rfl ?_
      refine ar_iff i_X4_build_14 rfl (nI_ge hs5 (by omega)) ?_
      refine ar_ld i_X4_build_17 rfl rfl ?_
      refine ar_ld i_X4_build_19 rfl rfl ?_
      refine ar_gf i_X4_build_20 (o2) rfl ?_
      refine ar_len i_X4_build_23 (by decide) (hb) ?_
      refine ar_iff i_X4_build_24 rfl (nI_ge (a := s) (b := 121) (by omega) (by omega)) ?_
      refine ar_push i_X4_build_27 ?_
      refine ar_st i_X4_build_28 rfl rfl ?_
      exact inner k 0 S2 T l w b _ (by omega) (Or.inr ⟨_, _, _, rfl⟩) o2 hT hl hw hb hb0 inv (fun p a' hp ha' => tgs p a' (by omega) ha') hfr
end
