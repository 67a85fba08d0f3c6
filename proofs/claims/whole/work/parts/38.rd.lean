/-! ===== the text reader ===== -/
section
/-- the reader's cells -/
def rJ (S : aq_S) (n : Nat) (err : Int32) (m : Nat) (g : Nat → Int32) (tl oc is mr mc : Int32) (F O : Nat → Int32) : Prop := S.2.2.2 26 = some (.inr (3, [.ref 27, .int (nI n), .int err, .ref 28, .int tl, .ref 30, .int oc, .int is, .int mr, .int mc])) ∧ S.2.2.2 27 = some (.inl (0, (30, .inl F))) ∧ isW S 28 m g ∧ S.2.2.2 30 = some (.inl (0, (4, .inl O)))
theorem rJ.fr {S S' : aq_S} {n m : Nat} {err tl oc is mr mc : Int32} {g F O : Nat → Int32} {P : Nat → Prop} (h : rJ S n err m g tl oc is mr mc F O) (k : aq_fr S S' P) (hP : ∀ x, 26 ≤ x → x ≤ 30 → ¬ P x) : rJ S' n err m g tl oc is mr mc F O := ⟨(k.2.2.2 26 (hP 26 (by omega) (by omega))).trans h.1, (k.2.2.2 27 (hP 27 (by omega) (by omega))).trans h.2.1, h.2.2.1.fr k (hP 28 (by omega) (by omega)) (hP 29 (by omega) (by omega)), (k.2.2.2 30 (hP 30 (by omega) (by omega))).trans h.2.2.2⟩
/-- the object alone was written -/
theorem rJ.ob {S S' : aq_S} {n n' m : Nat} {err tl oc is mr mc err' tl' oc' is' mr' mc' : Int32} {g F O : Nat → Int32} (h : rJ S n err m g tl oc is mr mc F O) (h1 : S'.2.2.2 26 = some (.inr (3, [.ref 27, .int (nI n'), .int err', .ref 28, .int tl', .ref 30, .int oc', .int is', .int mr', .int mc']))) (k : aq_fr S S' (fun q => q = 26)) : rJ S' n' err' m g tl' oc' is' mr' mc' F O := ⟨h1, (k.2.2.2 27 (by omega)).trans h.2.1, h.2.2.1.fr k (by omega) (by omega), (k.2.2.2 30 (by omega)).trans h.2.2.2⟩
/-- one symbol more, as far as 40 go -/
def aOne (x : Int32) (st : Nat × (Nat → Int32) × Int32) : Nat × (Nat → Int32) × Int32 := if st.1 < 40 then (st.1 + 1, upd st.2.1 st.1 x, st.2.2) else (st.1, st.2.1, 1)
def aSeq (src : Nat → Int32) : Nat → Nat × (Nat → Int32) × Int32 → Nat × (Nat → Int32) × Int32
  | 0, st => st
  | t + 1, st => aOne (src t) (aSeq src t st)
theorem aOne_le {x : Int32} {st : Nat × (Nat → Int32) × Int32} (h : st.1 ≤ 40) : st.1 ≤ (aOne x st).1 ∧ (aOne x st).1 ≤ 40 := by
  unfold aOne
  split
  · exact ⟨Nat.le_succ _, by show st.1 + 1 ≤ 40; omega⟩
  · exact ⟨Nat.le_refl _, h⟩
theorem aOne_at {x : Int32} {st : Nat × (Nat → Int32) × Int32} {i : Nat} (hi : i < st.1) : (aOne x st).2.1 i = st.2.1 i := by
  unfold aOne
  split
  · exact upd_ne (by omega)
  · rfl
theorem aSeq_le {src : Nat → Int32} {st : Nat × (Nat → Int32) × Int32} (h : st.1 ≤ 40) : ∀ t, st.1 ≤ (aSeq src t st).1 ∧ (aSeq src t st).1 ≤ 40
  | 0 => ⟨Nat.le_refl _, h⟩
  | t + 1 => by
    have a := aSeq_le (src := src) h t
    have b := aOne_le (x := src t) a.2
    exact ⟨Nat.le_trans a.1 b.1, b.2⟩
theorem aSeq_at {src : Nat → Int32} {st : Nat × (Nat → Int32) × Int32} (h : st.1 ≤ 40) {i : Nat} (hi : i < st.1) : ∀ t, (aSeq src t st).2.1 i = st.2.1 i
  | 0 => rfl
  | t + 1 => by
    have a := aSeq_le (src := src) h t
    exact (aOne_at (by omega)).trans (aSeq_at h hi t)
theorem r_addSymbol (d : Nat) {S : aq_S} {n : Nat} {err oc is mr mc : Int32} {F O : Nat → Int32} {st : Nat × (Nat → Int32) × Int32} (h : rJ S n err st.1 st.2.1 st.2.2 oc is mr mc F O) (x : Int32) : aX (d + 2) 31 [.ref 26, .int x] S (fun o S' => o = .inl none ∧ rJ S' n err (aOne x st).1 (aOne x st).2.1 (aOne x st).2.2 oc is mr mc F O ∧ aq_fr S S' (fun q => q = 26 ∨ q = 28 ∨ q = 29)) := by
  obtain ⟨m, g, tl⟩ := st
  have hw := h.2.2.1
  have hm := hw.le
  refine ar_run (Nat.le_of_ble_eq_true rfl) (fun o S1 h => h.2.2.le) ?_
  refine ar_ld i_X3_addSymbol_0 rfl rfl ?_
  refine ar_gf i_X3_addSymbol_1 (h.1) rfl ?_
  refine ar_ld i_X3_addSymbol_4 rfl rfl ?_
  by_cases hlt : m < 40
  · have e : aOne x (m, g, tl) = (m + 1, upd g m x, tl) := if_pos hlt
    rw [e]
    refine av_cr i_X3_addSymbol_5 rfl ⟨_, _, _, rfl, hw.obj⟩ (Nat.le_of_ble_eq_true rfl) (w_add d hw x hlt) (fun S2 h2 => ?_)
    refine ar_ift i_X3_addSymbol_8 rfl (by decide) ?_
    exact ar_retv i_X3_addSymbol_16 ⟨rfl, ⟨(h2.2.2.2.2 26 (by omega)).trans h.1, (h2.2.2.2.2 27 (by omega)).trans h.2.1, h2.1, (h2.2.2.2.2 30 (by omega)).trans h.2.2.2⟩, h2.2.mono (fun q z => Or.inr z)⟩
  · have e40 : m = 40 := Nat.le_antisymm hm (Nat.le_of_not_lt hlt)
    subst e40
    have e : aOne x (40, g, tl) = (40, g, 1) := if_neg hlt
    rw [e]
    refine ar_cr i_X3_addSymbol_5 rfl ⟨_, _, _, rfl, hw.obj⟩ (Nat.le_of_ble_eq_true rfl) (w_add_full d hw x) ?_
    refine ar_iff i_X3_addSymbol_8 rfl (fun z => z rfl) ?_
    refine ar_ld i_X3_addSymbol_11 rfl rfl ?_
    refine ar_push i_X3_addSymbol_12 ?_
    refine av_pf i_X3_addSymbol_13 (h.1) (Nat.le_of_ble_eq_true rfl) (Or.inr rfl) rfl (fun S2 g2 k2 => ?_)
    exact ar_retv i_X3_addSymbol_16 ⟨rfl, h.ob g2 k2, k2.mono (fun q z => Or.inl z)⟩
theorem r_addItem (d : Nat) {S : aq_S} {n : Nat} {err oc is mr mc : Int32} {F O : Nat → Int32} {st : Nat × (Nat → Int32) × Int32} (h : rJ S n err st.1 st.2.1 st.2.2 oc is mr mc F O) (x : Int32) : aX (d + 3) 30 [.ref 26, .int x] S (fun o S' => o = .inl (some (.int 1)) ∧ rJ S' n err (aOne x st).1 (aOne x st).2.1 (aOne x st).2.2 oc (nI st.1) 1 1 F O ∧ aq_fr S S' (fun q => q = 26 ∨ q = 28 ∨ q = 29)) := by
  have hw := h.2.2.1
  refine ar_run (Nat.le_of_ble_eq_true rfl) (fun o S1 h => h.2.2.le) ?_
  refine ar_ld i_X3_addItem_0 rfl rfl ?_
  refine ar_ld i_X3_addItem_1 rfl rfl ?_
  refine ar_gf i_X3_addItem_2 (h.1) rfl ?_
  refine ar_cr i_X3_addItem_5 rfl ⟨_, _, _, rfl, hw.obj⟩ (Nat.le_of_ble_eq_true rfl) (w_size (d + 1) hw) ?_
  refine av_pf i_X3_addItem_8 (h.1) (Nat.le_of_ble_eq_true rfl) (rfl) rfl (fun S1 g1 k1 => ?_)
  have h1 := h.ob g1 k1
  refine ar_ld i_X3_addItem_11 rfl rfl ?_
  refine ar_ld i_X3_addItem_12 rfl rfl ?_
  refine av_cv i_X3_addItem_13 rfl ⟨_, _, _, rfl, h1.1⟩ (Nat.le_of_ble_eq_true rfl) (r_addSymbol d h1 x) (fun S2 h2 => ?_)
  refine ar_ld i_X3_addItem_16 rfl rfl ?_
  refine ar_push i_X3_addItem_17 ?_
  refine av_pf i_X3_addItem_18 (h2.1.1) (Nat.le_of_ble_eq_true rfl) (Or.inr rfl) rfl (fun S3 g3 k3 => ?_)
  have h3 := h2.1.ob g3 k3
  refine ar_ld i_X3_addItem_21 rfl rfl ?_
  refine ar_push i_X3_addItem_22 ?_
  refine av_pf i_X3_addItem_23 (h3.1) (Nat.le_of_ble_eq_true rfl) (Or.inr rfl) rfl (fun S4 g4 k4 => ?_)
  have h4 := h3.ob g4 k4
  refine ar_push i_X3_addItem_26 ?_
  exact ar_ret i_X3_addItem_27 ((Or.inr rfl)) ⟨rfl, h4, ((k1.mono (fun q z => Or.inl z)).tr h2.2).tr ((k3.tr k4).mono (fun q z => Or.inl z))⟩
theorem r_open_no (d : Nat) {S : aq_S} {n m oc : Nat} {err tl is mr mc : Int32} {g F O : Nat → Int32} (h : rJ S n err m g tl (nI oc) is mr mc F O) (ho : oc = 4) : aX (d + 2) 32 [.ref 26] S (fun o S' => o = .inl (some (.int 0)) ∧ S' = S) := by
  refine ar_run (Nat.le_of_ble_eq_true rfl) (fun o S1 h => aq_le_of (aq_le_refl S) h) ?_
  subst ho
  refine ar_ld i_X3_open_0 rfl rfl ?_
  refine ar_gf i_X3_open_1 (h.1) rfl ?_
  refine ar_iff i_X3_open_4 rfl (by decide) ?_
  refine ar_ld i_X3_open_7 rfl rfl ?_
  refine ar_gf i_X3_open_8 (h.1) rfl ?_
  refine ar_ld i_X3_open_11 rfl rfl ?_
  refine ar_gf i_X3_open_12 (h.1) rfl ?_
  refine ar_len i_X3_open_15 (by decide) (h.2.2.2) ?_
  refine ar_iff i_X3_open_16 rfl (nI_nlt (a := 4) (b := 4) (by omega) (by omega)) ?_
  refine ar_push i_X3_open_19 ?_
  exact ar_ret i_X3_open_20 ((Or.inl rfl)) ⟨rfl, rfl⟩
theorem r_open (d : Nat) {S : aq_S} {n m oc : Nat} {err tl is mr mc : Int32} {g F O : Nat → Int32} (h : rJ S n err m g tl (nI oc) is mr mc F O) (ho : oc < 4) : aX (d + 2) 32 [.ref 26] S (fun o S' => o = .inl (some (.int 1)) ∧ rJ S' n err m g tl (nI (oc + 1)) is 0 0 F (upd O oc (nI m)) ∧ aq_fr S S' (fun q => q = 26 ∨ q = 30)) := by
  have hw := h.2.2.1
  refine ar_run (Nat.le_of_ble_eq_true rfl) (fun o S1 h => h.2.2.le) ?_
  refine ar_ld i_X3_open_0 rfl rfl ?_
  refine ar_gf i_X3_open_1 (h.1) rfl ?_
  refine ar_iff i_X3_open_4 rfl (nI_pos (by omega)) ?_
  refine ar_ld i_X3_open_7 rfl rfl ?_
  refine ar_gf i_X3_open_8 (h.1) rfl ?_
  refine ar_ld i_X3_open_11 rfl rfl ?_
  refine ar_gf i_X3_open_12 (h.1) rfl ?_
  refine ar_len i_X3_open_15 (by decide) (h.2.2.2) ?_
  refine ar_ift i_X3_open_16 rfl (nI_lt (b := 4) ho (by omega)) ?_
  refine ar_ld i_X3_open_21 rfl rfl ?_
  refine ar_gf i_X3_open_22 (h.1) rfl ?_
  refine ar_ld i_X3_open_25 rfl rfl ?_
  refine ar_gf i_X3_open_26 (h.1) rfl ?_
  refine ar_ld i_X3_open_29 rfl rfl ?_
  refine ar_gf i_X3_open_30 (h.1) rfl ?_
  refine ar_cr i_X3_open_33 rfl ⟨_, _, _, rfl, hw.obj⟩ (Nat.le_of_ble_eq_true rfl) (w_size d hw) ?_
  refine av_sti i_X3_open_36 (by omega) (h.2.2.2) (by omega) (by omega) (fun S1 g1 k1 => ?_)
  have h1 : rJ S1 n err m g tl (nI oc) is mr mc F (upd O oc (nI m)) := ⟨(k1.2.2.2 26 (by omega)).trans h.1, (k1.2.2.2 27 (by omega)).trans h.2.1, hw.fr k1 (by omega) (by omega), g1⟩
  refine ar_ld i_X3_open_37 rfl rfl ?_
  refine ar_ar i_X3_open_38 rfl ?_
  refine ar_gf i_X3_open_39 (h1.1) rfl ?_
  refine ar_push i_X3_open_42 ?_
  refine ar_ar i_X3_open_43 rfl ?_
  rw [nI_1]
  refine av_pf i_X3_open_44 (h1.1) (Nat.le_of_ble_eq_true rfl) (rfl) rfl (fun S2 g2 k2 => ?_)
  have h2 := h1.ob g2 k2
  refine ar_ld i_X3_open_47 rfl rfl ?_
  refine ar_push i_X3_open_48 ?_
  refine av_pf i_X3_open_49 (h2.1) (Nat.le_of_ble_eq_true rfl) (Or.inl rfl) rfl (fun S3 g3 k3 => ?_)
  have h3 := h2.ob g3 k3
  refine ar_ld i_X3_open_52 rfl rfl ?_
  refine ar_push i_X3_open_53 ?_
  refine av_pf i_X3_open_54 (h3.1) (Nat.le_of_ble_eq_true rfl) (Or.inl rfl) rfl (fun S4 g4 k4 => ?_)
  have h4 := h3.ob g4 k4
  refine ar_push i_X3_open_57 ?_
  exact ar_ret i_X3_open_58 ((Or.inr rfl)) ⟨rfl, h4, (k1.mono (fun q z => Or.inr z)).tr (((k2.tr k3).tr k4).mono (fun q z => Or.inl z))⟩
theorem r_close_no (d : Nat) {S : aq_S} {n m oc : Nat} {err tl is mr mc : Int32} {g F O : Nat → Int32} (h : rJ S n err m g tl (nI oc) is mr mc F O) (ho4 : oc ≤ 4) (ho : oc = 0 ∨ mc = 0) : aX (d + 2) 33 [.ref 26] S (fun o S' => o = .inl (some (.int 0)) ∧ S' = S) := by
  refine ar_run (Nat.le_of_ble_eq_true rfl) (fun o S1 h => aq_le_of (aq_le_refl S) h) ?_
  refine ar_ld i_X3_close_0 rfl rfl ?_
  refine ar_gf i_X3_close_1 (h.1) rfl ?_
  refine ar_push i_X3_close_4 ?_
  refine ar_if i_X3_close_5 rfl (fun c5 => ?_) (fun c5 => ?_)
  · refine ar_push i_X3_close_27 ?_
    exact ar_ret i_X3_close_28 ((Or.inl rfl)) ⟨rfl, rfl⟩
  · refine ar_ld i_X3_close_8 rfl rfl ?_
    refine ar_gf i_X3_close_9 (h.1) rfl ?_
    refine ar_ld i_X3_close_12 rfl rfl ?_
    refine ar_gf i_X3_close_13 (h.1) rfl ?_
    refine ar_len i_X3_close_16 (by decide) (h.2.2.2) ?_
    refine ar_iff i_X3_close_17 rfl (nI_nlt (a := 4) (b := oc) ho4 (by omega)) ?_
    refine ar_ld i_X3_close_20 rfl rfl ?_
    refine ar_gf i_X3_close_21 (h.1) rfl ?_
    have : mc = 0 := ho.resolve_left (fun e => c5 (by rw [e]; decide))
    refine ar_iff i_X3_close_24 rfl (fun z => z this) ?_
    refine ar_push i_X3_close_27 ?_
    exact ar_ret i_X3_close_28 ((Or.inl rfl)) ⟨rfl, rfl⟩
theorem r_close (d : Nat) {S : aq_S} {n m oc : Nat} {err tl is mr : Int32} {g F O : Nat → Int32} (h : rJ S n err m g tl (nI oc) is mr 1 F O) (ho4 : oc ≤ 4) (ho : 0 < oc) : aX (d + 2) 33 [.ref 26] S (fun o S' => o = .inl (some (.int 1)) ∧ rJ S' n err m g tl (nI (oc - 1)) (O (oc - 1)) 1 1 F O ∧ aq_fr S S' (fun q => q = 26)) := by
  refine ar_run (Nat.le_of_ble_eq_true rfl) (fun o S1 h => h.2.2.le) ?_
  refine ar_ld i_X3_close_0 rfl rfl ?_
  refine ar_gf i_X3_close_1 (h.1) rfl ?_
  refine ar_push i_X3_close_4 ?_
  refine ar_iff i_X3_close_5 rfl (nI_nlt (b := 1) ho (by omega)) ?_
  refine ar_ld i_X3_close_8 rfl rfl ?_
  refine ar_gf i_X3_close_9 (h.1) rfl ?_
  refine ar_ld i_X3_close_12 rfl rfl ?_
  refine ar_gf i_X3_close_13 (h.1) rfl ?_
  refine ar_len i_X3_close_16 (by decide) (h.2.2.2) ?_
  refine ar_iff i_X3_close_17 rfl (nI_nlt (a := 4) (b := oc) ho4 (by omega)) ?_
  refine ar_ld i_X3_close_20 rfl rfl ?_
  refine ar_gf i_X3_close_21 (h.1) rfl ?_
  refine ar_ift i_X3_close_24 rfl (by decide) ?_
  refine ar_ld i_X3_close_29 rfl rfl ?_
  refine ar_ar i_X3_close_30 rfl ?_
  refine ar_gf i_X3_close_31 (h.1) rfl ?_
  refine ar_push i_X3_close_34 ?_
  refine ar_ar i_X3_close_35 rfl ?_
  rw [nI_m1 ho]
  refine av_pf i_X3_close_36 (h.1) (Nat.le_of_ble_eq_true rfl) (rfl) rfl (fun S1 g1 k1 => ?_)
  have h1 := h.ob g1 k1
  refine ar_ld i_X3_close_39 rfl rfl ?_
  refine ar_ld i_X3_close_40 rfl rfl ?_
  refine ar_gf i_X3_close_41 (h1.1) rfl ?_
  refine ar_ld i_X3_close_44 rfl rfl ?_
  refine ar_gf i_X3_close_45 (h1.1) rfl ?_
  refine av_ldi i_X3_close_48 (h1.2.2.2) (by omega) (by omega) ?_
  refine av_pf i_X3_close_49 (h1.1) (Nat.le_of_ble_eq_true rfl) (rfl) rfl (fun S2 g2 k2 => ?_)
  have h2 := h1.ob g2 k2
  refine ar_ld i_X3_close_52 rfl rfl ?_
  refine ar_push i_X3_close_53 ?_
  refine av_pf i_X3_close_54 (h2.1) (Nat.le_of_ble_eq_true rfl) (Or.inr rfl) rfl (fun S3 g3 k3 => ?_)
  have h3 := h2.ob g3 k3
  refine ar_push i_X3_close_57 ?_
  exact ar_ret i_X3_close_58 ((Or.inr rfl)) ⟨rfl, h3, (k1.tr k2).tr k3⟩
theorem r_repeat_no (d : Nat) {S : aq_S} {n m : Nat} {err tl oc is mc x : Int32} {g F O : Nat → Int32} (h : rJ S n err m g tl oc is 0 mc F O) : aX (d + 3) 34 [.ref 26, .int x] S (fun o S' => o = .inl (some (.int 0)) ∧ S' = S) := by
  refine ar_run (Nat.le_of_ble_eq_true rfl) (fun o S1 h => aq_le_of (aq_le_refl S) h) ?_
  refine ar_ld i_X3_repeat_0 rfl rfl ?_
  refine ar_gf i_X3_repeat_1 (h.1) rfl ?_
  refine ar_iff i_X3_repeat_4 rfl (fun z => z rfl) ?_
  refine ar_push i_X3_repeat_7 ?_
  exact ar_ret i_X3_repeat_8 ((Or.inl rfl)) ⟨rfl, rfl⟩
/-- what is repeated -/
def rSrc (g : Nat → Int32) (s e : Nat) (t : Nat) : Int32 := g (s + t % (e - s))
theorem r_repeat (d : Nat) {S : aq_S} {n s x : Nat} {err oc mc : Int32} {F O : Nat → Int32} {st : Nat × (Nat → Int32) × Int32} (h : rJ S n err st.1 st.2.1 st.2.2 oc (nI s) 1 mc F O) (hs : s ≤ st.1) (hx : 1 ≤ x) (hx9 : x ≤ 9) : aX (d + 3) 34 [.ref 26, .int (nI x)] S (fun o S' => o = .inl (some (.int 1)) ∧ (∀ st', st' = aSeq (rSrc st.2.1 s st.1) ((x - 1) * (st.1 - s)) st → rJ S' n err st'.1 st'.2.1 st'.2.2 oc (nI s) 0 mc F O) ∧ aq_fr S S' (fun q => q = 26 ∨ q = 28 ∨ q = 29)) := by
  have hw := h.2.2.1
  have hm := hw.le
  refine ar_run (Nat.le_of_ble_eq_true rfl) (fun o S1 h => h.2.2.le) ?_
  refine ar_ld i_X3_repeat_0 rfl rfl ?_
  refine ar_gf i_X3_repeat_1 (h.1) rfl ?_
  refine ar_ift i_X3_repeat_4 rfl (by decide) ?_
  refine ar_ld i_X3_repeat_9 rfl rfl ?_
  refine ar_gf i_X3_repeat_10 (h.1) rfl ?_
  refine ar_cr i_X3_repeat_13 rfl ⟨_, _, _, rfl, hw.obj⟩ (Nat.le_of_ble_eq_true rfl) (w_size (d + 1) hw) ?_
  refine ar_st i_X3_repeat_16 rfl rfl ?_
  refine ar_push i_X3_repeat_17 ?_
  refine ar_st i_X3_repeat_18 rfl rfl ?_
  suffices key : ∀ j y (S1 : aq_S) (st' : Nat × (Nat → Int32) × Int32) (L4 : List (Nat × Value)), y + j = x → 1 ≤ y → (L4 = [] ∨ ∃ v, L4 = [(4, .int v)]) → st' = aSeq (rSrc st.2.1 s st.1) ((y - 1) * (st.1 - s)) st → rJ S1 n err st'.1 st'.2.1 st'.2.2 oc (nI s) 1 mc F O → aq_fr S S1 (fun q => q = 26 ∨ q = 28 ∨ q = 29) → aG (d + 2) 34 (fun o S' => o = .inl (some (.int 1)) ∧ (∀ st', st' = aSeq (rSrc st.2.1 s st.1) ((x - 1) * (st.1 - s)) st → rJ S' n err st'.1 st'.2.1 st'.2.2 oc (nI s) 0 mc F O) ∧ aq_fr S S' (fun q => q = 26 ∨ q = 28 ∨ q = 29)) 19 ((0, .ref 26) :: (1, .int (nI x)) :: (2, .int (nI st.1)) :: (3, .int (nI y)) :: L4) [] S1 from key (x - 1) 1 S st [] (by omega) (by omega) (Or.inl rfl) (by rw [Nat.sub_self, Nat.zero_mul]; rfl) h aq_fr.rf
  intro j
  induction j with
  | zero =>
    intro y S1 st' L4 hy hy1 hL he h1 hfr
    have hyx : y = x := by omega
    subst hyx
    refine ar_ld i_X3_repeat_19 rfl rfl ?_
    refine ar_ld i_X3_repeat_20 rfl rfl ?_
    refine ar_ift i_X3_repeat_21 rfl (nI_le (Nat.le_refl _) (by omega)) ?_
    refine ar_ld i_X3_repeat_61 rfl rfl ?_
    refine ar_push i_X3_repeat_62 ?_
    refine av_pf i_X3_repeat_63 (h1.1) (Nat.le_of_ble_eq_true rfl) (Or.inl rfl) rfl (fun S2 g2 k2 => ?_)
    refine ar_push i_X3_repeat_66 ?_
    exact ar_ret i_X3_repeat_67 ((Or.inr rfl)) ⟨rfl, fun st2 e2 => by rw [e2, ← he]; exact h1.ob g2 k2, hfr.tr (k2.mono (fun q z => Or.inl z))⟩
  | succ j ih =>
    intro y S1 st' L4 hy hy1 hL he h1 hfr
    refine ar_ld i_X3_repeat_19 rfl rfl ?_
    refine ar_ld i_X3_repeat_20 rfl rfl ?_
    refine ar_iff i_X3_repeat_21 rfl (nI_ge (by omega) (by omega)) ?_
    refine ar_ld i_X3_repeat_24 rfl rfl ?_
    refine ar_gf i_X3_repeat_25 (h1.1) rfl ?_
    have inner : ∀ a i (S1 : aq_S) (st' : Nat × (Nat → Int32) × Int32), s + i + a = st.1 → st' = aSeq (rSrc st.2.1 s st.1) ((y - 1) * (st.1 - s) + i) st → rJ S1 n err st'.1 st'.2.1 st'.2.2 oc (nI s) 1 mc F O → aq_fr S S1 (fun q => q = 26 ∨ q = 28 ∨ q = 29) → aG (d + 2) 34 (fun o S' => o = .inl (some (.int 1)) ∧ (∀ st', st' = aSeq (rSrc st.2.1 s st.1) ((x - 1) * (st.1 - s)) st → rJ S' n err st'.1 st'.2.1 st'.2.2 oc (nI s) 0 mc F O) ∧ aq_fr S S' (fun q => q = 26 ∨ q = 28 ∨ q = 29)) 30 [(0, .ref 26), (1, .int (nI x)), (2, .int (nI st.1)), (3, .int (nI y)), (4, .int (nI (s + i)))] [] S1 := by
      intro a
      induction a with
      | zero =>
        intro i S1 st' hi he h1 hfr
        refine ar_ld i_X3_repeat_30 rfl rfl ?_
        refine ar_ld i_X3_repeat_32 rfl rfl ?_
        refine ar_ift i_X3_repeat_33 rfl (nI_le (by omega) (by omega)) ?_
        refine ar_inc i_X3_repeat_55 rfl rfl ?_
        refine ar_go i_X3_repeat_58 ?_
        have := ih (y + 1) S1 st' [(4, .int (nI (s + i)))] (by omega) (by omega) (Or.inr ⟨_, rfl⟩) (by
          rw [he, show i = st.1 - s by omega, show (y - 1) * (st.1 - s) + (st.1 - s) = (y + 1 - 1) * (st.1 - s) by
            rw [show y + 1 - 1 = (y - 1) + 1 by omega, Nat.add_mul, Nat.one_mul]]) h1 hfr
        rw [← nI_1] at this
        exact this
      | succ a iha =>
        intro i S1 st' hi he h1 hfr
        have hle := aSeq_le (src := rSrc st.2.1 s st.1) hm ((y - 1) * (st.1 - s) + i)
        rw [← he] at hle
        have hat := aSeq_at (src := rSrc st.2.1 s st.1) hm (i := s + i) (by omega) ((y - 1) * (st.1 - s) + i)
        rw [← he] at hat
        have hsrc : rSrc st.2.1 s st.1 ((y - 1) * (st.1 - s) + i) = st.2.1 (s + i) := by
          unfold rSrc
          rw [Nat.mul_comm, Nat.mul_add_mod, Nat.mod_eq_of_lt (by omega)]
        refine ar_ld i_X3_repeat_30 rfl rfl ?_
        refine ar_ld i_X3_repeat_32 rfl rfl ?_
        refine ar_iff i_X3_repeat_33 rfl (nI_ge (by omega) (by omega)) ?_
        refine ar_ld i_X3_repeat_36 rfl rfl ?_
        refine ar_ld i_X3_repeat_37 rfl rfl ?_
        refine ar_gf i_X3_repeat_38 (h1.1) rfl ?_
        refine ar_ld i_X3_repeat_41 rfl rfl ?_
        refine ar_cr i_X3_repeat_43 rfl ⟨_, _, _, rfl, h1.2.2.1.obj⟩ (Nat.le_of_ble_eq_true rfl) (w_atj (d + 1) h1.2.2.1 (s + i) (by omega)) ?_
        rw [hat]
        refine av_cv i_X3_repeat_46 rfl ⟨_, _, _, rfl, h1.1⟩ (Nat.le_of_ble_eq_true rfl) (r_addSymbol d h1 (st.2.1 (s + i))) (fun S2 h2 => ?_)
        refine ar_inc i_X3_repeat_49 rfl rfl ?_
        refine ar_go i_X3_repeat_52 ?_
        have := iha (i + 1) S2 (aOne (st.2.1 (s + i)) st') (by omega) (by
          exact (congr (congrArg aOne hsrc.symm) he : aOne (st.2.1 (s + i)) st' = aOne _ (aSeq (rSrc st.2.1 s st.1) ((y - 1) * (st.1 - s) + i) st))) h2.1 (hfr.tr h2.2)
        rw [← Nat.add_assoc, ← nI_1] at this
        exact this
    rcases hL with e | ⟨v, e⟩
    · subst e
      refine ar_st i_X3_repeat_28 rfl rfl ?_
      exact inner (st.1 - s) 0 S1 st' (by omega) he h1 hfr
    · subst e
      refine ar_st i_X3_repeat_28 rfl rfl ?_
      exact inner (st.1 - s) 0 S1 st' (by omega) he h1 hfr
end
