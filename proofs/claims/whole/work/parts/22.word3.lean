/-! ===== bits of a long; walks of HoleWords$Word: placesFor, periods ===== -/
section
def lb (x : Int64) (i : Nat) : Bool := x.toBitVec.getLsbD i
theorem lb_ext {x y : Int64} (h : ∀ i, i < 64 → lb x i = lb y i) : x = y := Int64.toBitVec_inj.mp (BitVec.eq_of_getLsbD_eq (fun i hi => h i hi))
theorem lb_or (x y : Int64) (i : Nat) : lb (x ||| y) i = (lb x i || lb y i) := by unfold lb; rw [Int64.toBitVec_or, BitVec.getLsbD_or]
theorem lb_and (x y : Int64) (i : Nat) : lb (x &&& y) i = (lb x i && lb y i) := by unfold lb; rw [Int64.toBitVec_and, BitVec.getLsbD_and]
theorem lb_xor (x y : Int64) (i : Nat) : lb (x ^^^ y) i = (lb x i ^^ lb y i) := by unfold lb; rw [Int64.toBitVec_xor, BitVec.getLsbD_xor]
theorem lb_big {x : Int64} {i : Nat} (h : 64 ≤ i) : lb x i = false := BitVec.getLsbD_of_ge _ _ h
theorem lb_0 (i : Nat) : lb 0 i = false := BitVec.getLsbD_zero
theorem lb_m1 : ∀ i, i < 64 → lb (-1) i = true := by decide +kernel
theorem lb_1 (i : Nat) : lb 1 i = decide (i = 0) := by
  show (1#64).getLsbD i = _
  rw [BitVec.getLsbD_one]
  simp
theorem lb_cnt : ∀ k, k < 64 → (((nI k).toInt64 &&& 63).toBitVec.smod 64).toNat = k := by decide +kernel
theorem lb_cntu : ∀ k, k < 64 → (((nI k).toInt64.toUInt64 &&& Int64.toUInt64 63).toBitVec % 64).toNat = k := by decide +kernel
theorem lb_shl (x : Int64) {k : Nat} (hk : k < 64) {i : Nat} (hi : i < 64) : lb (x <<< ((nI k).toInt64 &&& 63)) i = (decide (k ≤ i) && lb x (i - k)) := by
  unfold lb
  rw [Int64.toBitVec_shiftLeft, BitVec.shiftLeft_eq', lb_cnt k hk, BitVec.getLsbD_shiftLeft]
  by_cases h : k ≤ i
  · simp [h, Nat.not_lt.mpr h, hi]
  · simp [h, Nat.lt_of_not_le h]
theorem lb_ushr (x : Int64) {k : Nat} (hk : k < 64) (i : Nat) : lb ((x.toUInt64 >>> ((nI k).toInt64.toUInt64 &&& Int64.toUInt64 63)).toInt64) i = lb x (k + i) := by
  unfold lb
  show (x.toUInt64 >>> ((nI k).toInt64.toUInt64 &&& Int64.toUInt64 63)).toBitVec.getLsbD i = _
  rw [UInt64.toBitVec_shiftRight, BitVec.ushiftRight_eq', lb_cntu k hk, BitVec.getLsbD_ushiftRight]
  rfl
theorem lb_one (k : Nat) (hk : k < 64) {i : Nat} (hi : i < 64) : lb ((1 : Int64) <<< ((nI k).toInt64 &&& 63)) i = decide (i = k) := by
  rw [lb_shl 1 hk hi, lb_1]
  by_cases h : i = k
  · simp [h]
  · by_cases h2 : k ≤ i
    · simp [h, h2]; omega
    · simp [h, h2]
theorem lb_low : ∀ k, k < 64 → ∀ i, i < 64 → lb ((1 : Int64) <<< ((nI k).toInt64 &&& 63) - 1) i = decide (i < k) := by decide +kernel
theorem lb_nz {x : Int64} : ¬ x = 0 ↔ ∃ i, i < 64 ∧ lb x i = true := by
  refine ⟨fun h => Classical.byContradiction fun q => h (lb_ext fun i hi => ?_), fun ⟨i, hi, h⟩ e => ?_⟩
  · rw [lb_0]
    cases hb : lb x i with
    | false => rfl
    | true => exact absurd ⟨i, hi, hb⟩ q
  · rw [e, lb_0] at h
    cases h
/-- a case -/
noncomputable def pif {A : Type} (P : Prop) (a b : A) : A := @ite A P (Classical.propDecidable P) a b
theorem pif_t {A : Type} {P : Prop} {a b : A} (h : P) : pif P a b = a := if_pos h
theorem pif_f {A : Type} {P : Prop} {a b : A} (h : ¬ P) : pif P a b = b := if_neg h
/-- the places that have the letter or a hole, as bits -/
noncomputable def wplc (f : Nat → Int32) (c : Int32) : Nat → Int64
  | 0 => 0
  | n + 1 => pif (wdf (f n) c) (wplc f c n) (wplc f c n ||| ((1 : Int64) <<< ((nI n).toInt64 &&& 63)))
theorem wplc_y {f : Nat → Int32} {c : Int32} {n : Nat} (h : ¬ wdf (f n) c) : wplc f c (n + 1) = wplc f c n ||| ((1 : Int64) <<< ((nI n).toInt64 &&& 63)) := pif_f h
theorem wplc_n {f : Nat → Int32} {c : Int32} {n : Nat} (h : wdf (f n) c) : wplc f c (n + 1) = wplc f c n := pif_t h
theorem wplc_lb (f : Nat → Int32) (c : Int32) : ∀ n, n ≤ 64 → ∀ i, i < 64 → (lb (wplc f c n) i = true ↔ i < n ∧ ¬ wdf (f i) c)
  | 0, _, i, _ => by
    show lb 0 i = true ↔ _
    rw [lb_0]
    exact ⟨fun z => Bool.noConfusion z, fun z => absurd z.1 (Nat.not_lt_zero i)⟩
  | n + 1, hn, i, hi => by
    have ih := wplc_lb f c n (by omega) i hi
    by_cases h : wdf (f n) c
    · rw [wplc_n h, ih]
      refine ⟨fun z => ⟨by omega, z.2⟩, fun z => ⟨?_, z.2⟩⟩
      by_cases h2 : i = n
      · rw [h2] at z
        exact absurd h z.2
      · omega
    · rw [wplc_y h, lb_or, lb_one n (by omega) hi, Bool.or_eq_true, ih, decide_eq_true_iff]
      refine ⟨fun z => ?_, fun z => ?_⟩
      · rcases z with z | z
        · exact ⟨by omega, z.2⟩
        · rw [z]
          exact ⟨by omega, h⟩
      · by_cases h2 : i = n
        · exact Or.inr h2
        · exact Or.inl ⟨by omega, z.2⟩
theorem w_placesFor (d : Nat) {S : aq_S} {w n : Nat} {f : Nat → Int32} (hw : isW S w n f) (c : Int32) : aX (d + 2) 61 [.ref w, .int c] S (fun o S' => o = .inl (some (.long (wplc f c n))) ∧ S' = S) := by
  have hn := hw.le
  refine ar_run (Nat.le_of_ble_eq_true rfl) (fun o S1 h => aq_le_of (aq_le_refl S) h) ?_
  refine ar_push i_X5_placesFor_0 ?_
  refine ar_st i_X5_placesFor_1 rfl rfl ?_
  refine ar_push i_X5_placesFor_2 ?_
  refine ar_st i_X5_placesFor_3 rfl rfl ?_
  suffices key : ∀ j i, i + j = n → aG (d + 1) 61 (fun o S' => o = .inl (some (.long (wplc f c n))) ∧ S' = S) 5 [(0, .ref w), (1, .int c), (2, .long (wplc f c i)), (4, .int (nI i))] [] S from key n 0 (by omega)
  intro j
  induction j with
  | zero =>
    intro i hi
    refine ar_ld i_X5_placesFor_5 rfl rfl ?_
    refine ar_ld i_X5_placesFor_7 rfl rfl ?_
    refine ar_gf i_X5_placesFor_8 (hw.obj) rfl ?_
    refine ar_ift i_X5_placesFor_11 rfl (nI_le (by omega) (by omega)) ?_
    refine ar_ld i_X5_placesFor_40 rfl rfl ?_
    exact ar_ret i_X5_placesFor_41 rfl ⟨by rw [show i = n by omega], rfl⟩
  | succ j ih =>
    intro i hi
    have := ih (i + 1) (by omega)
    rw [← nI_1] at this
    refine ar_ld i_X5_placesFor_5 rfl rfl ?_
    refine ar_ld i_X5_placesFor_7 rfl rfl ?_
    refine ar_gf i_X5_placesFor_8 (hw.obj) rfl ?_
    refine ar_iff i_X5_placesFor_11 rfl (nI_ge (by omega) (by omega)) ?_
    refine ar_ld i_X5_placesFor_14 rfl rfl ?_
    refine ar_ld i_X5_placesFor_15 rfl rfl ?_
    refine ar_cr i_X5_placesFor_17 rfl ⟨_, _, _, rfl, (hw.obj)⟩ (Nat.le_of_ble_eq_true rfl) (w_atj d hw i (by omega)) ?_
    refine ar_ld i_X5_placesFor_20 rfl rfl ?_
    refine ar_cr i_X5_placesFor_21 rfl trivial (Nat.le_of_ble_eq_true rfl) (s_differ d (f i) c) ?_
    by_cases hd : wdf (f i) c
    · refine ar_ift i_X5_placesFor_24 rfl (bI_nz.mpr hd) ?_
      refine ar_inc i_X5_placesFor_34 rfl rfl ?_
      refine ar_go i_X5_placesFor_37 ?_
      rw [wplc_n hd] at this
      exact this
    · refine ar_iff i_X5_placesFor_24 rfl (fun z => z (bI_f hd)) ?_
      refine ar_ld i_X5_placesFor_27 rfl rfl ?_
      refine ar_push i_X5_placesFor_28 ?_
      refine ar_ld i_X5_placesFor_29 rfl rfl ?_
      refine ar_ar i_X5_placesFor_31 rfl ?_
      refine ar_ar i_X5_placesFor_32 rfl ?_
      refine ar_st i_X5_placesFor_33 rfl rfl ?_
      refine ar_inc i_X5_placesFor_34 rfl rfl ?_
      refine ar_go i_X5_placesFor_37 ?_
      rw [wplc_y hd] at this
      exact this
/-- a strong period: all its multiples are weak ones -/
def perS (n : Nat) (f : Nat → Int32) (p : Nat) : Prop := ∀ k, 0 < k → perW n f (k * p)
def perV (v : Int32) (n : Nat) (f : Nat → Int32) (p : Nat) : Prop := if v = 0 then perS n f p else perW n f p
theorem perW_n {n p : Nat} {f : Nat → Int32} (h : n ≤ p) : perW n f p := fun i hi => by omega
theorem perS_n {n p : Nat} {f : Nat → Int32} (h : n ≤ p) : perS n f p := fun k hk => perW_n (Nat.le_trans h (Nat.le_mul_of_pos_left p hk))
theorem perV_n {v : Int32} {n p : Nat} {f : Nat → Int32} (h : n ≤ p) : perV v n f p := by
  unfold perV
  split
  · exact perS_n h
  · exact perW_n h
theorem w_hasPeriod (d : Nat) {S : aq_S} {w n : Nat} {f : Nat → Int32} (hw : isW S w n f) (p : Nat) (hp0 : 0 < p) (hp : p ≤ 900) (v : Int32) : aX (d + 3) 62 [.ref w, .int (nI p), .int v] S (fun o S' => o = .inl (some (.int (bI (perV v n f p)))) ∧ S' = S) := by
  have hn := hw.le
  refine ar_run (Nat.le_of_ble_eq_true rfl) (fun o S1 h => aq_le_of (aq_le_refl S) h) ?_
  refine ar_ld i_X5_hasPeriod_0 rfl rfl ?_
  refine ar_if i_X5_hasPeriod_1 rfl (fun c1 => ?_) (fun c1 => ?_)
  · refine ar_ld i_X5_hasPeriod_10 rfl rfl ?_
    refine ar_st i_X5_hasPeriod_11 rfl rfl ?_
    have e : perV v n f p = perS n f p := if_pos c1
    rw [e]
    suffices key : ∀ j k, 0 < k → n ≤ k + j → k * p ≤ 1000 → (∀ x, 0 < x → x < k → perW n f (x * p)) → aG (d + 2) 62 (fun o S' => o = .inl (some (.int (bI (perS n f p)))) ∧ S' = S) 12 [(0, .ref w), (1, .int (nI p)), (2, .int v), (3, .int (nI (k * p)))] [] S by
      have := key n 1 (by omega) (by omega) (by omega) (fun x h0 h1 => by omega)
      rw [Nat.one_mul] at this
      exact this
    have fin : ∀ k, 0 < k → n ≤ k * p → k * p ≤ 1000 → (∀ x, 0 < x → x < k → perW n f (x * p)) → aG (d + 2) 62 (fun o S' => o = .inl (some (.int (bI (perS n f p)))) ∧ S' = S) 12 [(0, .ref w), (1, .int (nI p)), (2, .int v), (3, .int (nI (k * p)))] [] S := by
      intro k h0 hk hb hag
      refine ar_ld i_X5_hasPeriod_12 rfl rfl ?_
      refine ar_ld i_X5_hasPeriod_13 rfl rfl ?_
      refine ar_gf i_X5_hasPeriod_14 (hw.obj) rfl ?_
      refine ar_ift i_X5_hasPeriod_17 rfl (nI_le hk (by omega)) ?_
      refine ar_push i_X5_hasPeriod_41 ?_
      exact ar_ret i_X5_hasPeriod_42 ((Or.inr rfl)) ⟨bR_t (fun x hx => by
        by_cases hxk : x < k
        · exact hag x hx hxk
        · exact perW_n (Nat.le_trans hk (Nat.mul_le_mul_right p (by omega)))), rfl⟩
    intro j
    induction j with
    | zero =>
      intro k h0 hk hb hag
      have : k ≤ k * p := Nat.le_mul_of_pos_right k hp0
      exact fin k h0 (by omega) hb hag
    | succ j ih =>
      intro k h0 hk hb hag
      by_cases hlt : k * p < n
      · have hkp : 0 < k * p := Nat.mul_pos h0 hp0
        refine ar_ld i_X5_hasPeriod_12 rfl rfl ?_
        refine ar_ld i_X5_hasPeriod_13 rfl rfl ?_
        refine ar_gf i_X5_hasPeriod_14 (hw.obj) rfl ?_
        refine ar_iff i_X5_hasPeriod_17 rfl (nI_ge hlt (by omega)) ?_
        refine ar_ld i_X5_hasPeriod_20 rfl rfl ?_
        refine ar_iff i_X5_hasPeriod_21 rfl (nI_nle hkp (by omega)) ?_
        refine ar_ld i_X5_hasPeriod_24 rfl rfl ?_
        refine ar_ld i_X5_hasPeriod_25 rfl rfl ?_
        refine ar_cr i_X5_hasPeriod_26 rfl ⟨_, _, _, rfl, (hw.obj)⟩ (Nat.le_of_ble_eq_true rfl) (w_agreesAfter d hw (k * p) (by omega)) ?_
        by_cases hd : perW n f (k * p)
        · refine ar_ift i_X5_hasPeriod_29 rfl (bI_nz.mpr hd) ?_
          refine ar_ld i_X5_hasPeriod_34 rfl rfl ?_
          refine ar_ld i_X5_hasPeriod_35 rfl rfl ?_
          refine ar_ar i_X5_hasPeriod_36 rfl ?_
          rw [nI_add]
          refine ar_st i_X5_hasPeriod_37 rfl rfl ?_
          refine ar_go i_X5_hasPeriod_38 ?_
          have e : (k + 1) * p = k * p + p := by rw [Nat.add_mul]; omega
          have := ih (k + 1) (by omega) (by omega) (by omega) (fun x hx0 hx => by
            by_cases hxk : x = k
            · rw [hxk]; exact hd
            · exact hag x hx0 (by omega))
          rw [e] at this
          exact this
        · refine ar_iff i_X5_hasPeriod_29 rfl (fun z => z (bI_f hd)) ?_
          refine ar_push i_X5_hasPeriod_32 ?_
          exact ar_ret i_X5_hasPeriod_33 ((Or.inl rfl)) ⟨bR_f (fun z => hd (z k h0)), rfl⟩
      · exact fin k h0 (by omega) hb hag
  · refine ar_ld i_X5_hasPeriod_4 rfl rfl ?_
    refine ar_ld i_X5_hasPeriod_5 rfl rfl ?_
    have e : perV v n f p = perW n f p := if_neg c1
    rw [e]
    refine ar_cr i_X5_hasPeriod_6 rfl ⟨_, _, _, rfl, (hw.obj)⟩ (Nat.le_of_ble_eq_true rfl) (w_agreesAfter d hw p (by omega)) ?_
    exact ar_ret i_X5_hasPeriod_9 ((bI_01 _)) ⟨rfl, rfl⟩
/-- the first from p on, in so many steps, that has the property -/
noncomputable def leastP (P : Nat → Prop) : Nat → Nat → Nat
  | 0, p => p
  | j + 1, p => @ite Nat (P p) (Classical.propDecidable _) p (leastP P j (p + 1))
theorem leastP_y {P : Nat → Prop} {j p : Nat} (h : P p) : leastP P (j + 1) p = p := by
  unfold leastP
  exact if_pos h
theorem leastP_n {P : Nat → Prop} {j p : Nat} (h : ¬ P p) : leastP P (j + 1) p = leastP P j (p + 1) := by
  conv => lhs; unfold leastP
  exact if_neg h
theorem leastP_ge {P : Nat → Prop} : ∀ j p, p ≤ leastP P j p
  | 0, p => Nat.le_refl p
  | j + 1, p => by
    by_cases h : P p
    · rw [leastP_y h]; exact Nat.le_refl p
    · rw [leastP_n h]; have := leastP_ge (P := P) j (p + 1); omega
theorem leastP_le {P : Nat → Prop} : ∀ j p, leastP P j p ≤ p + j
  | 0, p => Nat.le_refl p
  | j + 1, p => by
    by_cases h : P p
    · rw [leastP_y h]; omega
    · rw [leastP_n h]; have := leastP_le (P := P) j (p + 1); omega
theorem leastP_lt {P : Nat → Prop} : ∀ j p, leastP P j p < p + j → P (leastP P j p)
  | 0, p, h => absurd h (Nat.lt_irrefl p)
  | j + 1, p, h => by
    by_cases hp : P p
    · rw [leastP_y hp]; exact hp
    · rw [leastP_n hp] at h ⊢
      exact leastP_lt j (p + 1) (by omega)
theorem leastP_no {P : Nat → Prop} : ∀ j p q, p ≤ q → q < leastP P j p → ¬ P q
  | 0, p, q, h, h2 => absurd h2 (Nat.not_lt.mpr h)
  | j + 1, p, q, h, h2 => by
    by_cases hp : P p
    · rw [leastP_y hp] at h2; omega
    · rw [leastP_n hp] at h2
      by_cases e : q = p
      · rw [e]; exact hp
      · exact leastP_no j (p + 1) q (by omega) h2
/-- the smallest period; 0 for the empty word -/
noncomputable def fper (v : Int32) (n : Nat) (f : Nat → Int32) : Nat := if n = 0 then 0 else leastP (perV v n f) (n - 1) 1
theorem w_firstPeriod (d : Nat) {S : aq_S} {w n : Nat} {f : Nat → Int32} (hw : isW S w n f) (v : Int32) : aX (d + 4) 64 [.ref w, .int v] S (fun o S' => o = .inl (some (.int (nI (fper v n f)))) ∧ S' = S) := by
  have hn := hw.le
  refine ar_run (Nat.le_of_ble_eq_true rfl) (fun o S1 h => aq_le_of (aq_le_refl S) h) ?_
  refine ar_push i_X5_firstPeriod_0 ?_
  refine ar_st i_X5_firstPeriod_1 rfl rfl ?_
  by_cases hn0 : n = 0
  · subst hn0
    refine ar_ld i_X5_firstPeriod_2 rfl rfl ?_
    refine ar_ld i_X5_firstPeriod_3 rfl rfl ?_
    refine ar_gf i_X5_firstPeriod_4 (hw.obj) rfl ?_
    refine ar_ift i_X5_firstPeriod_7 rfl (nI_le (a := 0) (b := 1) (by omega) (by omega)) ?_
    refine ar_ld i_X5_firstPeriod_27 rfl rfl ?_
    refine ar_gf i_X5_firstPeriod_28 (hw.obj) rfl ?_
    exact ar_ret i_X5_firstPeriod_31 rfl ⟨rfl, rfl⟩
  · have e : fper v n f = leastP (perV v n f) (n - 1) 1 := if_neg hn0
    rw [e]
    suffices key : ∀ j p, p + j = n → 0 < p → aG (d + 3) 64 (fun o S' => o = .inl (some (.int (nI (leastP (perV v n f) j p)))) ∧ S' = S) 2 [(0, .ref w), (1, .int v), (2, .int (nI p))] [] S from key (n - 1) 1 (by omega) (by omega)
    intro j
    induction j with
    | zero =>
      intro p hp h0
      refine ar_ld i_X5_firstPeriod_2 rfl rfl ?_
      refine ar_ld i_X5_firstPeriod_3 rfl rfl ?_
      refine ar_gf i_X5_firstPeriod_4 (hw.obj) rfl ?_
      refine ar_ift i_X5_firstPeriod_7 rfl (nI_le (by omega) (by omega)) ?_
      refine ar_ld i_X5_firstPeriod_27 rfl rfl ?_
      refine ar_gf i_X5_firstPeriod_28 (hw.obj) rfl ?_
      exact ar_ret i_X5_firstPeriod_31 rfl ⟨by rw [show p = n by omega]; rfl, rfl⟩
    | succ j ih =>
      intro p hp h0
      refine ar_ld i_X5_firstPeriod_2 rfl rfl ?_
      refine ar_ld i_X5_firstPeriod_3 rfl rfl ?_
      refine ar_gf i_X5_firstPeriod_4 (hw.obj) rfl ?_
      refine ar_iff i_X5_firstPeriod_7 rfl (nI_ge (by omega) (by omega)) ?_
      refine ar_ld i_X5_firstPeriod_10 rfl rfl ?_
      refine ar_ld i_X5_firstPeriod_11 rfl rfl ?_
      refine ar_ld i_X5_firstPeriod_12 rfl rfl ?_
      refine ar_cr i_X5_firstPeriod_13 rfl ⟨_, _, _, rfl, (hw.obj)⟩ (Nat.le_of_ble_eq_true rfl) (w_hasPeriod d hw p h0 (by omega) v) ?_
      by_cases hd : perV v n f p
      · refine ar_iff i_X5_firstPeriod_16 rfl (fun z => bI_nz.mpr hd z) ?_
        refine ar_ld i_X5_firstPeriod_19 rfl rfl ?_
        exact ar_ret i_X5_firstPeriod_20 rfl ⟨by rw [leastP_y hd], rfl⟩
      · refine ar_ift i_X5_firstPeriod_16 rfl (bI_f hd) ?_
        refine ar_inc i_X5_firstPeriod_21 rfl rfl ?_
        refine ar_go i_X5_firstPeriod_24 ?_
        have := ih (p + 1) (by omega) (by omega)
        rw [← nI_1] at this
        rw [leastP_n hd]
        exact this
/-- the exponent; 1 for the empty word -/
noncomputable def wreps (n : Nat) (f : Nat → Int32) : Nat := if n = 0 then 1 else n / leastP (fun d => n % d = 0 ∧ perS n f d) (n - 1) 1
theorem w_repetitions (d : Nat) {S : aq_S} {w n : Nat} {f : Nat → Int32} (hw : isW S w n f) : aX (d + 4) 65 [.ref w] S (fun o S' => o = .inl (some (.int (nI (wreps n f)))) ∧ S' = S) := by
  have hn := hw.le
  refine ar_run (Nat.le_of_ble_eq_true rfl) (fun o S1 h => aq_le_of (aq_le_refl S) h) ?_
  refine ar_push i_X5_repetitions_0 ?_
  refine ar_st i_X5_repetitions_1 rfl rfl ?_
  by_cases hn0 : n = 0
  · subst hn0
    refine ar_ld i_X5_repetitions_2 rfl rfl ?_
    refine ar_ld i_X5_repetitions_3 rfl rfl ?_
    refine ar_gf i_X5_repetitions_4 (hw.obj) rfl ?_
    refine ar_ift i_X5_repetitions_7 rfl (nI_le (a := 0) (b := 1) (by omega) (by omega)) ?_
    refine ar_push i_X5_repetitions_41 ?_
    exact ar_ret i_X5_repetitions_42 rfl ⟨rfl, rfl⟩
  · have e : wreps n f = n / leastP (fun d => n % d = 0 ∧ perS n f d) (n - 1) 1 := if_neg hn0
    rw [e]
    suffices key : ∀ j p, p + j = n → 0 < p → aG (d + 3) 65 (fun o S' => o = .inl (some (.int (nI (n / leastP (fun d => n % d = 0 ∧ perS n f d) j p)))) ∧ S' = S) 2 [(0, .ref w), (1, .int (nI p))] [] S from key (n - 1) 1 (by omega) (by omega)
    intro j
    induction j with
    | zero =>
      intro p hp h0
      refine ar_ld i_X5_repetitions_2 rfl rfl ?_
      refine ar_ld i_X5_repetitions_3 rfl rfl ?_
      refine ar_gf i_X5_repetitions_4 (hw.obj) rfl ?_
      refine ar_ift i_X5_repetitions_7 rfl (nI_le (by omega) (by omega)) ?_
      refine ar_push i_X5_repetitions_41 ?_
      exact ar_ret i_X5_repetitions_42 rfl ⟨by rw [show p = n by omega]; show _ = Sum.inl (some (Value.int (nI (n / n)))); rw [Nat.div_self (by omega)]; rfl, rfl⟩
    | succ j ih =>
      intro p hp h0
      have := ih (p + 1) (by omega) (by omega)
      rw [← nI_1] at this
      refine ar_ld i_X5_repetitions_2 rfl rfl ?_
      refine ar_ld i_X5_repetitions_3 rfl rfl ?_
      refine ar_gf i_X5_repetitions_4 (hw.obj) rfl ?_
      refine ar_iff i_X5_repetitions_7 rfl (nI_ge (by omega) (by omega)) ?_
      refine ar_ld i_X5_repetitions_10 rfl rfl ?_
      refine ar_gf i_X5_repetitions_11 (hw.obj) rfl ?_
      refine ar_ld i_X5_repetitions_14 rfl rfl ?_
      refine ar_arc i_X5_repetitions_15 rfl (nI_ne0 h0 (by omega)) ?_
      rw [pk_rem (by omega) h0 (by omega)]
      by_cases hd1 : n % p = 0
      · rw [hd1]
        refine ar_iff i_X5_repetitions_16 rfl (fun z => z rfl) ?_
        refine ar_ld i_X5_repetitions_19 rfl rfl ?_
        refine ar_ld i_X5_repetitions_20 rfl rfl ?_
        refine ar_push i_X5_repetitions_21 ?_
        refine ar_cr i_X5_repetitions_22 rfl ⟨_, _, _, rfl, (hw.obj)⟩ (Nat.le_of_ble_eq_true rfl) (w_hasPeriod d hw p h0 (by omega) 0) ?_
        by_cases hd : perS n f p
        · refine ar_iff i_X5_repetitions_25 rfl (fun z => bI_nz.mpr (show perV 0 n f p from hd) z) ?_
          refine ar_ld i_X5_repetitions_28 rfl rfl ?_
          refine ar_gf i_X5_repetitions_29 (hw.obj) rfl ?_
          refine ar_ld i_X5_repetitions_32 rfl rfl ?_
          refine ar_arc i_X5_repetitions_33 rfl (nI_ne0 h0 (by omega)) ?_
          rw [pk_div (by omega) h0 (by omega)]
          exact ar_ret i_X5_repetitions_34 rfl ⟨by rw [leastP_y (P := fun d => n % d = 0 ∧ perS n f d) ⟨hd1, hd⟩], rfl⟩
        · refine ar_ift i_X5_repetitions_25 rfl (bI_f (show ¬ perV 0 n f p from hd)) ?_
          refine ar_inc i_X5_repetitions_35 rfl rfl ?_
          refine ar_go i_X5_repetitions_38 ?_
          rw [leastP_n (P := fun d => n % d = 0 ∧ perS n f d) (fun z => hd z.2)]
          exact this
      · refine ar_ift i_X5_repetitions_16 rfl (nI_ne0 (by omega) (by have := Nat.mod_le n p; omega)) ?_
        refine ar_inc i_X5_repetitions_35 rfl rfl ?_
        refine ar_go i_X5_repetitions_38 ?_
        rw [leastP_n (P := fun d => n % d = 0 ∧ perS n f d) (fun z => hd1 z.1)]
        exact this
end
