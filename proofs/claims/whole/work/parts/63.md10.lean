/-! ===== the reference: parseWord ===== -/
section
/-- what was read: its object, the row part -/
def mJ (S : aq_S) (th k il err pc lo cur hs sv : Int32) (st : Nat × (Nat → Int32) × Int32) : Prop := mO S th k il err (nI st.1) st.2.2 pc lo cur hs sv ∧ st.1 ≤ 40 ∧ ∃ F, ia S 55 40 F ∧ ∀ i, i < st.1 → F i = st.2.1 i
theorem mJ.fr {S S' : aq_S} {th k il err pc lo cur hs sv : Int32} {st : Nat × (Nat → Int32) × Int32} {P : Nat → Prop} (h : mJ S th k il err pc lo cur hs sv st) (q : aq_fr S S' P) (h1 : ¬ P 52) (h2 : ¬ P 55) : mJ S' th k il err pc lo cur hs sv st := by
  obtain ⟨a1, a2, F, a3, a4⟩ := h
  exact ⟨a1.fr q h1, a2, F, a3.fr q h2, a4⟩
theorem m_puts (d : Nat) {S : aq_S} {th k il err pc lo cur hs sv : Int32} {st : Nat × (Nat → Int32) × Int32} (h : mJ S th k il err pc lo cur hs sv st) (x : Int32) : aX (d + 1) 136 [.ref 52, .int x] S (fun o S' => o = .inl none ∧ mJ S' th k il err pc lo cur hs sv (aOne x st) ∧ aq_fr S S' (fun q => q = 52 ∨ q = 55)) := by
  obtain ⟨m, g, tl⟩ := st
  obtain ⟨h1, hm, F, hF, hag⟩ := h
  have hm : m ≤ 40 := hm
  have h1 : mO S th k il err (nI m) tl pc lo cur hs sv := h1
  refine ar_run (Nat.le_of_ble_eq_true rfl) (fun o S1 h => h.2.2.le) ?_
  refine ar_ld i_X7_puts_0 rfl rfl ?_
  refine ar_gf i_X7_puts_1 (h1) rfl ?_
  refine ar_push i_X7_puts_4 ?_
  by_cases hlt : m < 40
  · have e : aOne x (m, g, tl) = (m + 1, upd g m x, tl) := if_pos hlt
    rw [e]
    refine ar_ift i_X7_puts_6 rfl (fun z => absurd (nI_inj (b := 40) (by omega) (by omega) z) (by omega)) ?_
    refine ar_ld i_X7_puts_15 rfl rfl ?_
    refine ar_gf i_X7_puts_16 (h1) rfl ?_
    refine ar_ld i_X7_puts_19 rfl rfl ?_
    refine ar_gf i_X7_puts_20 (h1) rfl ?_
    refine ar_ld i_X7_puts_23 rfl rfl ?_
    refine av_sti i_X7_puts_24 (by omega) (hF) (by omega) (by omega) (fun S1 g1 k1 => ?_)
    have o1 := h1.fr k1 (by omega)
    refine ar_ld i_X7_puts_25 rfl rfl ?_
    refine ar_ar i_X7_puts_26 rfl ?_
    refine ar_gf i_X7_puts_27 (o1) rfl ?_
    refine ar_push i_X7_puts_30 ?_
    refine ar_ar i_X7_puts_31 rfl ?_
    rw [nI_1]
    refine av_pf i_X7_puts_32 (o1) (Nat.le_of_ble_eq_true rfl) (rfl) rfl (fun S2 g2 k2 => ?_)
    refine ar_retv i_X7_puts_35 ⟨rfl, ⟨g2, hlt, _, (k2.2.2.2 55 (by omega)).trans g1, fun i hi => ?_⟩, (k1.mono (fun q z => Or.inr z)).tr (k2.mono (fun q z => Or.inl z))⟩
    by_cases ei : i = m
    · rw [ei]
      show upd F m x m = upd g m x m
      rw [upd_eq, upd_eq]
    · have hi' : i < m + 1 := hi
      show upd F m x i = upd g m x i
      rw [upd_ne ei, upd_ne ei]
      exact hag i (show i < m by omega)
  · have e40 : m = 40 := by omega
    subst e40
    have e : aOne x (40, g, tl) = (40, g, 1) := if_neg hlt
    rw [e]
    refine ar_iff i_X7_puts_6 rfl (fun z => z rfl) ?_
    refine ar_ld i_X7_puts_9 rfl rfl ?_
    refine ar_push i_X7_puts_10 ?_
    refine av_pf i_X7_puts_11 (h1) (Nat.le_of_ble_eq_true rfl) (Or.inr rfl) rfl (fun S2 g2 k2 => ?_)
    exact ar_retv i_X7_puts_14 ⟨rfl, ⟨g2, hm, F, hF.fr k2 (by omega), hag⟩, k2.mono (fun q z => Or.inl z)⟩
theorem m_repeats (d : Nat) {S : aq_S} {s x : Nat} {th k il err pc lo cur hs sv : Int32} {st : Nat × (Nat → Int32) × Int32} (h : mJ S th k il err pc lo cur hs sv st) (hs1 : s < st.1) (hx : 1 ≤ x) (hx9 : x ≤ 9) : aX (d + 2) 137 [.ref 52, .int (nI s), .int (nI x)] S (fun o S' => o = .inl none ∧ (∀ st', st' = aSeq (rSrc st.2.1 s st.1) ((x - 1) * (st.1 - s)) st → mJ S' th k il err pc lo cur hs sv st') ∧ aq_fr S S' (fun q => q = 52 ∨ q = 55)) := by
  obtain ⟨m, g, tl⟩ := st
  have h0 := h
  obtain ⟨h1, hm, -⟩ := h0
  have hm : m ≤ 40 := hm
  have hs1 : s < m := hs1
  have h1 : mO S th k il err (nI m) tl pc lo cur hs sv := h1
  refine ar_run (Nat.le_of_ble_eq_true rfl) (fun o S1 h => h.2.2.le) ?_
  refine ar_ld i_X7_repeats_0 rfl rfl ?_
  refine ar_gf i_X7_repeats_1 (h1) rfl ?_
  refine ar_ld i_X7_repeats_4 rfl rfl ?_
  refine ar_ar i_X7_repeats_5 rfl ?_
  rw [pk_sub (Nat.le_of_lt hs1)]
  refine ar_st i_X7_repeats_6 rfl rfl ?_
  refine ar_ld i_X7_repeats_7 rfl rfl ?_
  refine ar_st i_X7_repeats_8 rfl rfl ?_
  have hB : (x - 1) * (m - s) ≤ 8 * 40 := Nat.mul_le_mul (by omega) (by omega)
  have hxB : x * (m - s) = (m - s) + (x - 1) * (m - s) := by
    obtain ⟨y, rfl⟩ : ∃ y, x = y + 1 := ⟨x - 1, by omega⟩
    rw [Nat.add_mul, Nat.add_sub_cancel, Nat.one_mul]
    omega
  show aG (d + 1) 137 (fun o S' => o = .inl none ∧ (∀ st', st' = aSeq (rSrc g s m) ((x - 1) * (m - s)) (m, g, tl) → mJ S' th k il err pc lo cur hs sv st') ∧ aq_fr S S' (fun q => q = 52 ∨ q = 55)) 10 [(0, .ref 52), (1, .int (nI s)), (2, .int (nI x)), (3, .int (nI (m - s))), (4, .int (nI (m - s)))] [] S
  suffices key : ∀ j t (S1 : aq_S), t + j = (x - 1) * (m - s) → mJ S1 th k il err pc lo cur hs sv (aSeq (rSrc g s m) t (m, g, tl)) → aq_fr S S1 (fun q => q = 52 ∨ q = 55) → aG (d + 1) 137 (fun o S' => o = .inl none ∧ (∀ st', st' = aSeq (rSrc g s m) ((x - 1) * (m - s)) (m, g, tl) → mJ S' th k il err pc lo cur hs sv st') ∧ aq_fr S S' (fun q => q = 52 ∨ q = 55)) 10 [(0, .ref 52), (1, .int (nI s)), (2, .int (nI x)), (3, .int (nI (m - s))), (4, .int (nI (m - s + t)))] [] S1 from key _ 0 S (Nat.zero_add _) h aq_fr.rf
  intro j
  induction j with
  | zero =>
    intro t S1 ht hJ hfr
    refine ar_ld i_X7_repeats_10 rfl rfl ?_
    refine ar_ld i_X7_repeats_12 rfl rfl ?_
    refine ar_ld i_X7_repeats_13 rfl rfl ?_
    refine ar_ar i_X7_repeats_14 rfl ?_
    rw [pk_mul, hxB]
    refine ar_ift i_X7_repeats_15 rfl (nI_le (by omega) (by omega)) ?_
    refine ar_retv i_X7_repeats_39 ⟨rfl, fun st' e => ?_, hfr⟩
    rw [e, ← ht]
    exact hJ
  | succ j ih =>
    intro t S1 ht hJ hfr
    have hJ0 := hJ
    obtain ⟨j1, j2, F, j3, j4⟩ := hJ0
    have hle := (aSeq_le (src := rSrc g s m) (st := (m, g, tl)) hm t).1
    have hle : m ≤ (aSeq (rSrc g s m) t (m, g, tl)).1 := hle
    have hmod : (m - s + t) % (m - s) = t % (m - s) := by rw [Nat.add_mod, Nat.mod_self, Nat.zero_add, Nat.mod_mod]
    have hmlt : t % (m - s) < m - s := Nat.mod_lt _ (by omega)
    refine ar_ld i_X7_repeats_10 rfl rfl ?_
    refine ar_ld i_X7_repeats_12 rfl rfl ?_
    refine ar_ld i_X7_repeats_13 rfl rfl ?_
    refine ar_ar i_X7_repeats_14 rfl ?_
    rw [pk_mul, hxB]
    refine ar_iff i_X7_repeats_15 rfl (nI_ge (by omega) (by omega)) ?_
    refine ar_ld i_X7_repeats_18 rfl rfl ?_
    refine ar_ld i_X7_repeats_19 rfl rfl ?_
    refine ar_gf i_X7_repeats_20 (j1) rfl ?_
    refine ar_ld i_X7_repeats_23 rfl rfl ?_
    refine ar_ld i_X7_repeats_24 rfl rfl ?_
    refine ar_ld i_X7_repeats_26 rfl rfl ?_
    refine ar_arc i_X7_repeats_27 rfl (fun z => absurd (nI_inj (b := 0) (by omega) (by omega) z) (by omega)) ?_
    rw [pk_rem (by omega) (by omega) (by omega), hmod]
    refine ar_ar i_X7_repeats_28 rfl ?_
    rw [nI_add]
    refine av_ldi i_X7_repeats_29 (j3) (by omega) (by omega) ?_
    rw [j4 _ (by omega), aSeq_at hm (show s + t % (m - s) < m by omega) t]
    refine av_cv i_X7_repeats_30 rfl ⟨_, _, _, rfl, (j1)⟩ (Nat.le_of_ble_eq_true rfl) (m_puts d hJ _) (fun S2 q2 => ?_)
    refine ar_inc i_X7_repeats_33 rfl rfl ?_
    refine ar_go i_X7_repeats_36 ?_
    have := ih (t + 1) S2 (by omega) q2.1 (hfr.tr q2.2)
    rw [show m - s + (t + 1) = m - s + t + 1 by omega, ← nI_1] at this
    exact this
theorem l_btw {a b c : Nat} (ha : a < 2 ^ 31) (hb : b < 2 ^ 31) (hc : c < 2 ^ 31) : (lN a ≤ (nI c).toInt64 ∧ (nI c).toInt64 ≤ lN b) ↔ (a ≤ c ∧ c ≤ b) := by
  rw [nI_l hc, pk_lLE (by omega) (by omega), pk_lLE (by omega) (by omega)]
def lastV (o : Option Nat) : Int32 := o.elim (-1) nI
def mBg (S : aq_S) : Prop := ∃ B, ia S 57 5 B
theorem mBg.fr {S S' : aq_S} {P : Nat → Prop} (h : mBg S) (q : aq_fr S S' P) (h1 : ¬ P 57) : mBg S' := by
  obtain ⟨B, hB⟩ := h
  exact ⟨B, hB.fr q h1⟩
theorem mI.fr {S S' : aq_S} {n : Nat} {inp : Nat → Nat} {P : Nat → Prop} (h : mI S n inp) (q : aq_fr S S' P) (h1 : ¬ P 56) : mI S' n inp := by
  obtain ⟨F, f1, f2⟩ := h
  exact ⟨F, f1.fr q h1, f2⟩
theorem mP.fr {S S' : aq_S} {P : Nat → Prop} (h : mP S) (q : aq_fr S S' P) (h1 : ¬ P 55) : mP S' := by
  obtain ⟨B, hB⟩ := h
  exact ⟨B, hB.fr q h1⟩
def mK (S : aq_S) (th k il err pc lo cur hs sv : Int32) (st : Nat × (Nat → Int32) × Int32) (oc : Nat) (op : Nat → Nat) (lao : Option Nat) : Prop := mJ S th k il err pc lo cur hs sv st ∧ oc ≤ 4 ∧ (∃ B, ia S 57 5 B ∧ ∀ j, j < oc → B j = nI (op j) ∧ op j ≤ st.1) ∧ ∀ s, lao = some s → s ≤ st.1
/-- what the reading leaves -/
def rdQ (S : aq_S) (n kk : Nat) (inp : Nat → Nat) (th err pc lo cur hs sv : Int32) : aq_F := fun o S' => (∀ e, psErr n (psRun kk inp n 0 ps0) = some e → o = .inl (some (.int (nI e)))) ∧ (psErr n (psRun kk inp n 0 ps0) = none → o = .inl (some (.int (-1)))) ∧ (∃ st, mJ S' th (nI kk) (nI n) err pc lo cur hs sv st ∧ ∀ p, psRun kk inp n 0 ps0 = (n, some p) → st = p.1) ∧ mBg S' ∧ aq_fr S S' (fun q => q = 52 ∨ q = 55 ∨ q = 57)
theorem m_reads (d : Nat) {S : aq_S} {n kk : Nat} {inp : Nat → Nat} {th err rd tl pc lo cur hs sv : Int32} (h : mO S th (nI kk) (nI n) err rd tl pc lo cur hs sv) (hk : kk ≤ 3) (hi0 : mI S n inp) (hp : mP S) (hb : mBg S) : aX (d + 3) 138 [.ref 52] S (rdQ S n kk inp th err pc lo cur hs sv) := by
  obtain ⟨F, f1, f2, f3⟩ := hi0
  obtain ⟨fp, w5⟩ := hp
  obtain ⟨B, b1⟩ := hb
  refine ar_run (Nat.le_of_ble_eq_true rfl) (fun o S1 h => h.2.2.2.2.le) ?_
  refine ar_ld i_X7_reads_0 rfl rfl ?_
  refine ar_push i_X7_reads_1 ?_
  refine av_pf i_X7_reads_2 (h) (Nat.le_of_ble_eq_true rfl) (rfl) rfl (fun S1 g1 k1 => ?_)
  have o1 : mO S1 th (nI kk) (nI n) err 0 tl pc lo cur hs sv := g1
  refine ar_ld i_X7_reads_5 rfl rfl ?_
  refine ar_push i_X7_reads_6 ?_
  refine av_pf i_X7_reads_7 (o1) (Nat.le_of_ble_eq_true rfl) (Or.inl rfl) rfl (fun S2 g2 k2 => ?_)
  have o2 : mO S2 th (nI kk) (nI n) err 0 0 pc lo cur hs sv := g2
  refine ar_push i_X7_reads_10 ?_
  refine ar_st i_X7_reads_11 rfl rfl ?_
  refine ar_push i_X7_reads_12 ?_
  refine ar_st i_X7_reads_13 rfl rfl ?_
  refine ar_push i_X7_reads_14 ?_
  refine ar_st i_X7_reads_15 rfl rfl ?_
  refine ar_push i_X7_reads_16 ?_
  refine ar_st i_X7_reads_17 rfl rfl ?_
  have hfr := (k1.tr k2).mono (P' := fun q => q = 52 ∨ q = 55 ∨ q = 57) (fun q z => Or.inl z)
  suffices key : ∀ j i (S2 : aq_S) (st : Nat × (Nat → Int32) × Int32) (oc : Nat) (op : Nat → Nat) (lao : Option Nat) (mcb : Bool) (ie : Int32) (L5 : List (Nat × Value)), i + j = n → (L5 = [] ∨ ∃ v, L5 = [(5, .int v)]) → mK S2 th (nI kk) (nI n) err pc lo cur hs sv st oc op lao → (0 < oc → ie = b2i (!mcb)) → psRun kk inp n 0 ps0 = psRun kk inp j i (st, oc, op, lao, mcb) → aq_fr S S2 (fun q => q = 52 ∨ q = 55 ∨ q = 57) → aG (d + 2) 138 (rdQ S n kk inp th err pc lo cur hs sv) 19 ((0, .ref 52) :: (1, .int (nI oc)) :: (2, .int (lastV lao)) :: (3, .int ie) :: (4, .int (nI i)) :: L5) [] S2 from key n 0 S2 (0, (fun _ => 0), 0) 0 (fun _ => 0) none false 0 [] (Nat.zero_add n) (Or.inl rfl) ⟨⟨o2, Nat.zero_le _, fp, (w5.fr k1 (by omega)).fr k2 (by omega), fun i hi => absurd hi (Nat.not_lt_zero i)⟩, Nat.zero_le _, ⟨B, (b1.fr k1 (by omega)).fr k2 (by omega), fun j hj => absurd hj (Nat.not_lt_zero j)⟩, fun s z => (by cases z)⟩ (fun z => absurd z (Nat.lt_irrefl 0)) rfl hfr
  clear hfr k2 g2 o2 S2 k1 g1 o1 S1
  intro j
  induction j with
  | zero =>
    intro i S2 st oc op lao mcb ie L5 hi hL5 hK hie hrun hfr
    obtain ⟨hJ, hoc, ⟨B, b1, b2⟩, hla⟩ := hK
    have hJ0 := hJ
    obtain ⟨j1, hm, -⟩ := hJ0
    have hin : i = n := by omega
    subst hin
    have hrun' : psRun kk inp i 0 ps0 = (i, some (st, oc, op, lao, mcb)) := hrun
    refine ar_ld i_X7_reads_19 rfl rfl ?_
    refine ar_ld i_X7_reads_21 rfl rfl ?_
    refine ar_gf i_X7_reads_22 (j1) rfl ?_
    refine ar_ift i_X7_reads_25 rfl (nI_le (Nat.le_refl _) (by omega)) ?_
    refine ar_ld i_X7_reads_213 rfl rfl ?_
    by_cases ho : 0 < oc
    · refine ar_iff i_X7_reads_214 rfl (nI_nle ho (by omega)) ?_
      refine ar_ld i_X7_reads_217 rfl rfl ?_
      refine ar_gf i_X7_reads_218 (j1) rfl ?_
      refine ar_go i_X7_reads_221 ?_
      refine ar_ret i_X7_reads_225 rfl ⟨fun e he => ?_, fun he => ?_, ⟨st, hJ, fun p hp => ?_⟩, ⟨B, b1⟩, hfr⟩
      · rw [hrun'] at he
        have he' : (if 0 < oc then some i else none) = some e := he
        rw [if_pos ho] at he'
        cases he'
        rfl
      · rw [hrun'] at he
        have he' : (if 0 < oc then some i else none) = none := he
        rw [if_pos ho] at he'
        cases he'
      · rw [hrun'] at hp
        cases hp
        rfl
    · have h0 : oc = 0 := Nat.eq_zero_of_not_pos ho
      subst h0
      refine ar_ift i_X7_reads_214 rfl (nI_le (a := 0) (b := 0) (by omega) (by omega)) ?_
      refine ar_push i_X7_reads_224 ?_
      refine ar_ret i_X7_reads_225 rfl ⟨fun e he => ?_, fun he => rfl, ⟨st, hJ, fun p hp => ?_⟩, ⟨B, b1⟩, hfr⟩
      · rw [hrun'] at he
        have he' : (if 0 < 0 then some i else none) = some e := he
        rw [if_neg ho] at he'
        cases he'
      · rw [hrun'] at hp
        cases hp
        rfl
  | succ j ih =>
    intro i S2 st oc op lao mcb ie L5 hi hL5 hK hie hrun hfr
    obtain ⟨hJ, hoc, ⟨B, b1, b2⟩, hla⟩ := hK
    have hJ0 := hJ
    obtain ⟨j1, hm, -⟩ := hJ0
    have hc128 := (f3 i (by omega)).2
    have body : ∀ ch, inp i = ch → aG (d + 2) 138 (rdQ S n kk inp th err pc lo cur hs sv) 37 [(0, .ref 52), (1, .int (nI oc)), (2, .int (lastV lao)), (3, .int ie), (4, .int (nI i)), (5, .int (nI ch))] [] S2 := by
      intro ch hch
      rw [hch] at hc128
      have fin : ∀ st' oc' op' lao' mcb' (ie' : Int32) S3, psStep kk ch (st, oc, op, lao, mcb) = some (st', oc', op', lao', mcb') → mK S3 th (nI kk) (nI n) err pc lo cur hs sv st' oc' op' lao' → (0 < oc' → ie' = b2i (!mcb')) → aq_fr S2 S3 (fun q => q = 52 ∨ q = 55 ∨ q = 57) → aG (d + 2) 138 (rdQ S n kk inp th err pc lo cur hs sv) 207 [(0, .ref 52), (1, .int (nI oc')), (2, .int (lastV lao')), (3, .int ie'), (4, .int (nI i)), (5, .int (nI ch))] [] S3 := by
        intro st' oc' op' lao' mcb' ie' S3 hst hK3 hie3 hfr3
        rw [← hch] at hst
        refine ar_inc i_X7_reads_207 rfl rfl ?_
        refine ar_go i_X7_reads_210 ?_
        have := ih (i + 1) S3 st' oc' op' lao' mcb' ie' [(5, .int (nI ch))] (by omega) (Or.inr ⟨_, rfl⟩) hK3 hie3 (hrun.trans (psRun_s hst)) (hfr.tr hfr3)
        rw [← nI_1 i] at this
        exact this
      have fail : psStep kk ch (st, oc, op, lao, mcb) = none → rdQ S n kk inp th err pc lo cur hs sv (.inl (some (.int (nI i)))) S2 := by
        intro hst
        rw [← hch] at hst
        refine ⟨fun e he => ?_, fun he => ?_, ⟨st, hJ, fun p hp => ?_⟩, ⟨B, b1⟩, hfr⟩
        · rw [hrun, psRun_n hst] at he
          have he' : some i = some e := he
          cases he'
          rfl
        · rw [hrun, psRun_n hst] at he
          have he' : some i = (none : Option Nat) := he
          cases he'
        · rw [hrun, psRun_n hst] at hp
          cases hp
      have letter : ∀ x : Int32, psStep kk ch (st, oc, op, lao, mcb) = some (aOne x st, oc, op, some st.1, true) → aG (d + 2) 138 (rdQ S n kk inp th err pc lo cur hs sv) 88 [(0, .ref 52), (1, .int (nI oc)), (2, .int (nI st.1)), (3, .int ie), (4, .int (nI i)), (5, .int (nI ch))] [.int x, .ref 52] S2 := by
        intro x hst
        refine av_cv i_X7_reads_88 rfl ⟨_, _, _, rfl, j1⟩ (Nat.le_of_ble_eq_true rfl) (m_puts (d + 1) hJ x) (fun S3 q3 => ?_)
        refine ar_push i_X7_reads_91 ?_
        refine ar_st i_X7_reads_92 rfl rfl ?_
        refine ar_go i_X7_reads_93 ?_
        exact fin _ _ _ _ _ 0 S3 hst ⟨q3.1, hoc, ⟨B, b1.fr q3.2 (by omega), fun j hj => ⟨(b2 j hj).1, Nat.le_trans (b2 j hj).2 (aOne_le hm).1⟩⟩, fun s z => by cases z; exact (aOne_le hm).1⟩ (fun _ => rfl) (q3.2.mono (fun q z => by omega))
      refine ar_ld i_X7_reads_37 rfl rfl ?_
      refine ar_push i_X7_reads_39 ?_
      by_cases e95 : ch = 95
      · subst e95
        refine ar_ift i_X7_reads_41 rfl (rfl) ?_
        refine ar_ld i_X7_reads_66 rfl rfl ?_
        refine ar_gf i_X7_reads_67 (j1) rfl ?_
        refine ar_st i_X7_reads_70 rfl rfl ?_
        refine ar_ld i_X7_reads_71 rfl rfl ?_
        refine ar_ld i_X7_reads_72 rfl rfl ?_
        refine ar_push i_X7_reads_74 ?_
        refine ar_iff i_X7_reads_76 rfl (fun z => z rfl) ?_
        refine ar_push i_X7_reads_79 ?_
        refine ar_go i_X7_reads_80 ?_
        exact letter (-1) rfl
      · refine ar_iff i_X7_reads_41 rfl (fun z => e95 (nI_inj (b := 95) (by omega) (by omega) z)) ?_
        refine ar_ld i_X7_reads_44 rfl rfl ?_
        refine ar_ar i_X7_reads_46 rfl ?_
        refine ar_push i_X7_reads_47 ?_
        refine ar_push i_X7_reads_50 ?_
        refine ar_ld i_X7_reads_52 rfl rfl ?_
        refine ar_gf i_X7_reads_53 (j1) rfl ?_
        refine ar_ar i_X7_reads_56 rfl ?_
        refine ar_push i_X7_reads_57 ?_
        refine ar_ar i_X7_reads_58 rfl ?_
        refine ar_ar i_X7_reads_59 rfl ?_
        have e97 : (97 : Int32) + nI kk - 1 = nI (96 + kk) := by rw [show (97 : Int32) = nI 97 from rfl, nI_add, show 97 + kk = 96 + kk + 1 by omega, nI_pred]
        rw [e97, nI_l (show 96 + kk < 2 ^ 31 by omega)]
        refine ar_cr i_X7_reads_60 rfl trivial (Nat.le_of_ble_eq_true rfl) (m_isBetween (d + 1)) ?_
        have hlI : ((97 : Int64) ≤ (nI ch).toInt64 ∧ (nI ch).toInt64 ≤ lN (96 + kk)) ↔ (97 ≤ ch ∧ ch < 97 + kk) := (l_btw (a := 97) (by omega) (by omega) (by omega)).trans (by omega)
        by_cases hl : 97 ≤ ch ∧ ch < 97 + kk
        · refine ar_iff i_X7_reads_63 rfl (bI_nz.mpr (hlI.mpr hl)) ?_
          have hst : psStep kk ch (st, oc, op, lao, mcb) = some (aOne (nI (ch - 97)) st, oc, op, some st.1, true) := (if_neg (by omega)).trans ((if_neg (by omega)).trans ((if_neg (by omega)).trans ((if_neg e95).trans (if_pos hl))))
          refine ar_ld i_X7_reads_66 rfl rfl ?_
          refine ar_gf i_X7_reads_67 (j1) rfl ?_
          refine ar_st i_X7_reads_70 rfl rfl ?_
          refine ar_ld i_X7_reads_71 rfl rfl ?_
          refine ar_ld i_X7_reads_72 rfl rfl ?_
          refine ar_push i_X7_reads_74 ?_
          refine ar_ift i_X7_reads_76 rfl (fun z => e95 (nI_inj (b := 95) (by omega) (by omega) z)) ?_
          refine ar_ld i_X7_reads_83 rfl rfl ?_
          refine ar_push i_X7_reads_85 ?_
          refine ar_ar i_X7_reads_87 rfl ?_
          rw [show (97 : Int32) = nI 97 from rfl, pk_sub hl.1]
          exact letter _ hst
        · refine ar_ift i_X7_reads_63 rfl (bI_f (fun z => hl (hlI.mp z))) ?_
          refine ar_ld i_X7_reads_96 rfl rfl ?_
          refine ar_push i_X7_reads_98 ?_
          by_cases e40 : ch = 40
          · subst e40
            refine ar_iff i_X7_reads_100 rfl (fun z => z rfl) ?_
            refine ar_ld i_X7_reads_103 rfl rfl ?_
            refine ar_push i_X7_reads_104 ?_
            by_cases ho : oc < 4
            · refine ar_ift i_X7_reads_105 rfl (fun z => absurd (nI_inj (b := 4) (by omega) (by omega) z) (by omega)) ?_
              refine ar_ld i_X7_reads_111 rfl rfl ?_
              refine ar_gf i_X7_reads_112 (j1) rfl ?_
              refine ar_ld i_X7_reads_115 rfl rfl ?_
              refine ar_ld i_X7_reads_116 rfl rfl ?_
              refine ar_gf i_X7_reads_117 (j1) rfl ?_
              refine av_sti i_X7_reads_120 (by omega) (b1) (by omega) (by omega) (fun S3 g3 k3 => ?_)
              refine ar_inc i_X7_reads_121 rfl rfl ?_
              refine ar_push i_X7_reads_124 ?_
              refine ar_st i_X7_reads_125 rfl rfl ?_
              refine ar_push i_X7_reads_126 ?_
              refine ar_st i_X7_reads_127 rfl rfl ?_
              refine ar_go i_X7_reads_128 ?_
              rw [nI_1]
              refine fin st (oc + 1) (updN op oc st.1) none false 1 S3 ((if_pos rfl).trans (if_pos ho)) ⟨hJ.fr k3 (by omega) (by omega), ho, ⟨_, g3, fun j hj => ?_⟩, fun s z => (by cases z)⟩ (fun _ => rfl) (k3.mono (fun q z => by omega))
              by_cases ej : j = oc
              · rw [ej, upd_eq, updN_eq]
                exact ⟨rfl, Nat.le_refl _⟩
              · rw [upd_ne ej, updN_ne ej]
                exact b2 j (by omega)
            · have e4 : oc = 4 := by omega
              subst e4
              refine ar_iff i_X7_reads_105 rfl (fun z => z rfl) ?_
              refine ar_ld i_X7_reads_108 rfl rfl ?_
              exact ar_ret i_X7_reads_110 rfl (fail rfl)
          · refine ar_ift i_X7_reads_100 rfl (fun z => e40 (nI_inj (b := 40) (by omega) (by omega) z)) ?_
            refine ar_ld i_X7_reads_131 rfl rfl ?_
            refine ar_push i_X7_reads_133 ?_
            by_cases e41 : ch = 41
            · subst e41
              refine ar_iff i_X7_reads_135 rfl (fun z => z rfl) ?_
              refine ar_ld i_X7_reads_138 rfl rfl ?_
              by_cases h0 : oc = 0
              · subst h0
                refine ar_ift i_X7_reads_139 rfl (rfl) ?_
                refine ar_ld i_X7_reads_146 rfl rfl ?_
                exact ar_ret i_X7_reads_148 rfl (fail rfl)
              · refine ar_iff i_X7_reads_139 rfl (nI_ne0 (by omega) (by omega)) ?_
                refine ar_ld i_X7_reads_142 rfl rfl ?_
                cases mcb with
                | false =>
                  have hie' : ie = 1 := hie (by omega)
                  subst hie'
                  refine ar_iff i_X7_reads_143 rfl (by decide) ?_
                  refine ar_ld i_X7_reads_146 rfl rfl ?_
                  exact ar_ret i_X7_reads_148 rfl (fail ((if_neg (by decide)).trans ((if_pos rfl).trans (if_neg (fun z => Bool.noConfusion z.2)))))
                | true =>
                  have hie' : ie = 0 := hie (by omega)
                  subst hie'
                  refine ar_ift i_X7_reads_143 rfl (rfl) ?_
                  refine ar_inc i_X7_reads_149 rfl rfl ?_
                  rw [sb_m1 (by omega)]
                  refine ar_ld i_X7_reads_152 rfl rfl ?_
                  refine ar_gf i_X7_reads_153 (j1) rfl ?_
                  refine ar_ld i_X7_reads_156 rfl rfl ?_
                  refine av_ldi i_X7_reads_157 (b1) (by omega) (by omega) ?_
                  rw [(b2 (oc - 1) (by omega)).1]
                  refine ar_st i_X7_reads_158 rfl rfl ?_
                  refine ar_go i_X7_reads_159 ?_
                  exact fin st (oc - 1) op (some (op (oc - 1))) true 0 S2 ((if_neg (by decide)).trans ((if_pos rfl).trans (if_pos ⟨by show 0 < oc; omega, rfl⟩))) ⟨hJ, by omega, ⟨B, b1, fun j hj => b2 j (by omega)⟩, fun s z => by cases z; exact (b2 (oc - 1) (by omega)).2⟩ (fun _ => rfl) aq_fr.rf
            · refine ar_ift i_X7_reads_135 rfl (fun z => e41 (nI_inj (b := 41) (by omega) (by omega) z)) ?_
              refine ar_ld i_X7_reads_162 rfl rfl ?_
              refine ar_ar i_X7_reads_164 rfl ?_
              refine ar_push i_X7_reads_165 ?_
              refine ar_push i_X7_reads_168 ?_
              refine ar_cr i_X7_reads_171 rfl trivial (Nat.le_of_ble_eq_true rfl) (m_isBetween (d + 1)) ?_
              have hdI : ((50 : Int64) ≤ (nI ch).toInt64 ∧ (nI ch).toInt64 ≤ 57) ↔ (50 ≤ ch ∧ ch ≤ 57) := l_btw (a := 50) (b := 57) (by omega) (by omega) (by omega)
              by_cases hd : 50 ≤ ch ∧ ch ≤ 57
              · refine ar_iff i_X7_reads_174 rfl (bI_nz.mpr (hdI.mpr hd)) ?_
                have e0 : psStep kk ch (st, oc, op, lao, mcb) = lao.elim none (fun s => some (aSeq (rSrc st.2.1 s st.1) ((ch - 48 - 1) * (st.1 - s)) st, oc, op, none, mcb)) := (if_neg e40).trans ((if_neg e41).trans (if_pos hd))
                refine ar_ld i_X7_reads_177 rfl rfl ?_
                cases lao with
                | none =>
                  refine ar_ift i_X7_reads_178 rfl (by decide) ?_
                  refine ar_ld i_X7_reads_204 rfl rfl ?_
                  exact ar_ret i_X7_reads_206 rfl (fail e0)
                | some s =>
                  have hsl := hla s rfl
                  show aG (d + 2) 138 (rdQ S n kk inp th err pc lo cur hs sv) 178 [(0, .ref 52), (1, .int (nI oc)), (2, .int (nI s)), (3, .int ie), (4, .int (nI i)), (5, .int (nI ch))] [.int (nI s)] S2
                  refine ar_iff i_X7_reads_178 rfl (nI_pos (by omega)) ?_
                  refine ar_ld i_X7_reads_181 rfl rfl ?_
                  refine ar_ld i_X7_reads_182 rfl rfl ?_
                  refine ar_gf i_X7_reads_183 (j1) rfl ?_
                  by_cases hlt : s < st.1
                  · refine ar_iff i_X7_reads_186 rfl (nI_ge hlt (by omega)) ?_
                    refine ar_ld i_X7_reads_189 rfl rfl ?_
                    refine ar_ld i_X7_reads_190 rfl rfl ?_
                    refine ar_ld i_X7_reads_191 rfl rfl ?_
                    refine ar_push i_X7_reads_193 ?_
                    refine ar_ar i_X7_reads_195 rfl ?_
                    rw [show (48 : Int32) = nI 48 from rfl, pk_sub (show 48 ≤ ch by omega)]
                    refine av_cv i_X7_reads_196 rfl ⟨_, _, _, rfl, j1⟩ (Nat.le_of_ble_eq_true rfl) (m_repeats d hJ hlt (x := ch - 48) (by omega) (by omega)) (fun S3 q3 => ?_)
                    refine ar_push i_X7_reads_199 ?_
                    refine ar_st i_X7_reads_200 rfl rfl ?_
                    refine ar_go i_X7_reads_201 ?_
                    have hle := (aSeq_le (src := rSrc st.2.1 s st.1) hm ((ch - 48 - 1) * (st.1 - s))).1
                    exact fin _ oc op none mcb ie S3 e0 ⟨q3.1 _ rfl, hoc, ⟨B, b1.fr q3.2 (by omega), fun j hj => ⟨(b2 j hj).1, Nat.le_trans (b2 j hj).2 hle⟩⟩, fun s z => (by cases z)⟩ hie (q3.2.mono (fun q z => by omega))
                  · refine ar_ift i_X7_reads_186 rfl (nI_le (by omega) (by omega)) ?_
                    refine ar_push i_X7_reads_199 ?_
                    refine ar_st i_X7_reads_200 rfl rfl ?_
                    refine ar_go i_X7_reads_201 ?_
                    have es : st.1 - s = 0 := by omega
                    refine fin st oc op none mcb ie S2 (e0.trans ?_) ⟨hJ, hoc, ⟨B, b1, b2⟩, fun s z => (by cases z)⟩ hie aq_fr.rf
                    show some (aSeq (rSrc st.2.1 s st.1) ((ch - 48 - 1) * (st.1 - s)) st, oc, op, none, mcb) = _
                    rw [es, Nat.mul_zero]
                    rfl
              · refine ar_ift i_X7_reads_174 rfl (bI_f (fun z => hd (hdI.mp z))) ?_
                refine ar_ld i_X7_reads_204 rfl rfl ?_
                exact ar_ret i_X7_reads_206 rfl (fail ((if_neg e40).trans ((if_neg e41).trans ((if_neg hd).trans ((if_neg e95).trans (if_neg hl))))))
    have f1' : ia S2 56 30 F := f1.fr hfr (by omega)
    refine ar_ld i_X7_reads_19 rfl rfl ?_
    refine ar_ld i_X7_reads_21 rfl rfl ?_
    refine ar_gf i_X7_reads_22 (j1) rfl ?_
    refine ar_iff i_X7_reads_25 rfl (nI_ge (by omega) (by omega)) ?_
    refine ar_ld i_X7_reads_28 rfl rfl ?_
    refine ar_gf i_X7_reads_29 (j1) rfl ?_
    refine ar_ld i_X7_reads_32 rfl rfl ?_
    refine av_ldi i_X7_reads_34 (f1') (by omega) (by omega) ?_
    rw [(f3 i (by omega)).1]
    rcases hL5 with e | ⟨v, e⟩
    · subst e
      refine ar_st i_X7_reads_35 rfl rfl ?_
      exact body _ rfl
    · subst e
      refine ar_st i_X7_reads_35 rfl rfl ?_
      exact body _ rfl
end
