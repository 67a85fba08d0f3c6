/-! ===== walks of HoleWords$Word over the abstract machine (laid by wip/whole/lx.py out of 20.word.lx) ===== -/
section
abbrev aX (d y : Nat) (As : List Value) (S : aq_S) (Q : aq_F) : Prop := aq_X aq_T aq_Nl d y As S Q
abbrev aG (d y : Nat) (Q : aq_F) (pc : Nat) (L : aq_L) (st : List Value) (S : aq_S) : Prop := aq_G aq_T aq_Nl d y Q pc L st S
theorem aq_le_refl (S : aq_S) : aq_le S S := ⟨Nat.le_refl _, Nat.le_refl _, Nat.le_refl _⟩
theorem aq_le_of {o : aq_O} {o1 : aq_O} {S S1 S2 : aq_S} (hl : aq_le S S2) (h : o = o1 ∧ S1 = S2) : aq_le S S1 := by
  obtain ⟨-, rfl⟩ := h
  exact hl
/-- what was written: P's cells at most -/
def aq_fr (S S' : aq_S) (P : Nat → Prop) : Prop := S'.1 = S.1 ∧ S'.2.1 = S.2.1 ∧ S'.2.2.1 = S.2.2.1 ∧ ∀ q, ¬ P q → S'.2.2.2 q = S.2.2.2 q
theorem aq_fr.rf {S : aq_S} {P : Nat → Prop} : aq_fr S S P := ⟨rfl, rfl, rfl, fun _ _ => rfl⟩
theorem aq_fr.tr {S S' S'' : aq_S} {P : Nat → Prop} (h : aq_fr S S' P) (k : aq_fr S' S'' P) : aq_fr S S'' P := ⟨k.1.trans h.1, k.2.1.trans h.2.1, k.2.2.1.trans h.2.2.1, fun q hq => (k.2.2.2 q hq).trans (h.2.2.2 q hq)⟩
theorem aq_fr.mono {S S' : aq_S} {P P' : Nat → Prop} (h : aq_fr S S' P) (hp : ∀ q, P q → P' q) : aq_fr S S' P' := ⟨h.1, h.2.1, h.2.2.1, fun q hq => h.2.2.2 q (fun z => hq (hp q z))⟩
theorem aq_fr.le {S S' : aq_S} {P : Nat → Prop} (h : aq_fr S S' P) : aq_le S S' := ⟨Nat.le_of_eq h.1.symm, Nat.le_of_eq h.2.1.symm, Nat.le_of_eq h.2.2.1.symm⟩
theorem aq_sg {S : aq_S} {a : Nat} {e : aq_E} : (aq_set S a e).2.2.2 a = some e := by simp [aq_set]
theorem aq_sn {S : aq_S} {a q : Nat} {e : aq_E} (h : q ≠ a) : (aq_set S a e).2.2.2 q = S.2.2.2 q := by
  have : Nat.beq q a = false := by
    cases hb : Nat.beq q a with
    | false => rfl
    | true => exact absurd (Nat.eq_of_beq_eq_true hb) h
  simp [aq_set, this]
theorem aq_fr.set {S : aq_S} {P : Nat → Prop} {a : Nat} {e : aq_E} (h : P a) : aq_fr S (aq_set S a e) P := ⟨rfl, rfl, rfl, fun q hq => aq_sn (fun z => hq (z ▸ h))⟩
/-! rows that name the state behind a write or a call -/
theorem av_pf {d y : Nat} {Q : aq_F} {pc n : Nat} {L : aq_L} {r : List Value} {S : aq_S} {ci kf ty a : Nat} {fs fs' : List Value} {v : Value} (hm : aq_T y pc = some (aq_pf ci kf ty n)) (ha : S.2.2.2 a = some (.inr (ci, fs))) (hk : kf < fs.length) (hv : aq_fit ty v) (hf : fs.set kf v = fs') (k : ∀ S2 : aq_S, S2.2.2.2 a = some (.inr (ci, fs')) → aq_fr S S2 (fun q => q = a) → aG d y Q n L r S2) : aG d y Q pc L (v :: .ref a :: r) S :=
  ar_pf hm ha hk hv hf rfl (k _ aq_sg (aq_fr.set rfl))
theorem av_sti {d y : Nat} {Q : aq_F} {pc n : Nat} {L : aq_L} {r : List Value} {S : aq_S} {a m j : Nat} {x : Int32} {f : Nat → Int32} (hm : aq_T y pc = some (aq_sti n)) (h0 : a ≠ 0) (ha : S.2.2.2 a = some (.inl (0, (m, .inl f)))) (hj : j < m) (hm2 : m < 2 ^ 31) (k : ∀ S2 : aq_S, S2.2.2.2 a = some (.inl (0, (m, .inl (upd f j x)))) → aq_fr S S2 (fun q => q = a) → aG d y Q n L r S2) : aG d y Q pc L (.int x :: .int (nI j) :: .ref a :: r) S := by
  refine ar_sti hm h0 ha (vp_in_nI hj hm2) rfl ?_
  rw [nI_clamp (by omega)]
  exact k _ aq_sg (aq_fr.set rfl)
theorem av_stz {d y : Nat} {Q : aq_F} {pc n : Nat} {L : aq_L} {r : List Value} {S : aq_S} {a m j : Nat} {x : Int32} {f : Nat → Int32} (hm : aq_T y pc = some (aq_stz n)) (h0 : a ≠ 0) (ha : S.2.2.2 a = some (.inl (3, (m, .inl f)))) (hj : j < m) (hm2 : m < 2 ^ 31) (hx : x = 0 ∨ x = 1) (k : ∀ S2 : aq_S, S2.2.2.2 a = some (.inl (3, (m, .inl (upd f j x)))) → aq_fr S S2 (fun q => q = a) → aG d y Q n L r S2) : aG d y Q pc L (.int x :: .int (nI j) :: .ref a :: r) S := by
  refine ar_stz hm h0 ha (vp_in_nI hj hm2) hx rfl ?_
  rw [nI_clamp (by omega)]
  exact k _ aq_sg (aq_fr.set rfl)
theorem av_stl {d y : Nat} {Q : aq_F} {pc n : Nat} {L : aq_L} {r : List Value} {S : aq_S} {a m j : Nat} {x : Int64} {f : Nat → Int64} (hm : aq_T y pc = some (aq_stl n)) (h0 : a ≠ 0) (ha : S.2.2.2 a = some (.inl (1, (m, .inr (.inl f))))) (hj : j < m) (hm2 : m < 2 ^ 31) (k : ∀ S2 : aq_S, S2.2.2.2 a = some (.inl (1, (m, .inr (.inl (vp_updL f j x))))) → aq_fr S S2 (fun q => q = a) → aG d y Q n L r S2) : aG d y Q pc L (.long x :: .int (nI j) :: .ref a :: r) S := by
  refine ar_stl hm h0 ha (vp_in_nI hj hm2) rfl ?_
  rw [nI_clamp (by omega)]
  exact k _ aq_sg (aq_fr.set rfl)
theorem av_std {d y : Nat} {Q : aq_F} {pc n : Nat} {L : aq_L} {r : List Value} {S : aq_S} {a m j : Nat} {x : UInt64} {f : Nat → UInt64} (hm : aq_T y pc = some (aq_std n)) (h0 : a ≠ 0) (ha : S.2.2.2 a = some (.inl (2, (m, .inr (.inr (.inr (.inl f))))))) (hj : j < m) (hm2 : m < 2 ^ 31) (k : ∀ S2 : aq_S, S2.2.2.2 a = some (.inl (2, (m, .inr (.inr (.inr (.inl (vf_upd f j x))))))) → aq_fr S S2 (fun q => q = a) → aG d y Q n L r S2) : aG d y Q pc L (.double x :: .int (nI j) :: .ref a :: r) S := by
  refine ar_std hm h0 ha (vp_in_nI hj hm2) rfl ?_
  rw [nI_clamp (by omega)]
  exact k _ aq_sg (aq_fr.set rfl)
theorem av_ldi {d y : Nat} {Q : aq_F} {pc n : Nat} {L : aq_L} {r : List Value} {S : aq_S} {kd a m j : Nat} {f : Nat → Int32} (hm : aq_T y pc = some (aq_ldi kd n)) (ha : S.2.2.2 a = some (.inl (kd, (m, .inl f)))) (hj : j < m) (hm2 : m < 2 ^ 31) (k : aG d y Q n L (.int (f j) :: r) S) : aG d y Q pc L (.int (nI j) :: .ref a :: r) S := by
  refine ar_ldi hm ha (vp_in_nI hj hm2) ?_
  rw [nI_clamp (by omega)]
  exact k
theorem av_ldl {d y : Nat} {Q : aq_F} {pc n : Nat} {L : aq_L} {r : List Value} {S : aq_S} {a m j : Nat} {f : Nat → Int64} (hm : aq_T y pc = some (aq_ldl n)) (ha : S.2.2.2 a = some (.inl (1, (m, .inr (.inl f))))) (hj : j < m) (hm2 : m < 2 ^ 31) (k : aG d y Q n L (.long (f j) :: r) S) : aG d y Q pc L (.int (nI j) :: .ref a :: r) S := by
  refine ar_ldl hm ha (vp_in_nI hj hm2) ?_
  rw [nI_clamp (by omega)]
  exact k
theorem av_ldd {d y : Nat} {Q : aq_F} {pc n : Nat} {L : aq_L} {r : List Value} {S : aq_S} {a m j : Nat} {f : Nat → UInt64} (hm : aq_T y pc = some (aq_ldd n)) (ha : S.2.2.2 a = some (.inl (2, (m, .inr (.inr (.inr (.inl f))))))) (hj : j < m) (hm2 : m < 2 ^ 31) (k : aG d y Q n L (.double (f j) :: r) S) : aG d y Q pc L (.int (nI j) :: .ref a :: r) S := by
  refine ar_ldd hm ha (vp_in_nI hj hm2) ?_
  rw [nI_clamp (by omega)]
  exact k
theorem av_lda {d y : Nat} {Q : aq_F} {pc n : Nat} {L : aq_L} {r : List Value} {S : aq_S} {kd a m j : Nat} {f : Nat → Option Nat} (hm : aq_T y pc = some (aq_lda kd n)) (ha : S.2.2.2 a = some (.inl (kd, (m, .inr (.inr (.inr (.inr f))))))) (hj : j < m) (hm2 : m < 2 ^ 31) (k : aG d y Q n L (va_rf (f j) :: r) S) : aG d y Q pc L (.int (nI j) :: .ref a :: r) S := by
  refine ar_lda hm ha (vp_in_nI hj hm2) ?_
  rw [nI_clamp (by omega)]
  exact k
theorem av_cv {d y : Nat} {Q : aq_F} {pc n : Nat} {L : aq_L} {st r : List Value} {S : aq_S} {y' nA : Nat} {rc : Option Nat} {As : List Value} {P : aq_S → Prop} (hm : aq_T y pc = some (aq_call y' nA rc n)) (hp : aq_pop nA st = some (As, r)) (hr : aq_rcv rc As S) (hc : (r.map fun v => v.category).sum ≤ 8) (hX : aX d y' As S (fun o S' => o = .inl none ∧ P S')) (k : ∀ S1, P S1 → aG d y Q n L r S1) : aG d y Q pc L st S :=
  ar_call hm hp hr hc hX (fun _ S1 h => by obtain ⟨h1, h2⟩ := h; cases h1; exact k S1 h2) (fun _ _ h => by obtain ⟨h1, h2⟩ := h; cases h1)
theorem av_cr {d y : Nat} {Q : aq_F} {pc n : Nat} {L : aq_L} {st r : List Value} {S : aq_S} {y' nA : Nat} {rc : Option Nat} {As : List Value} {v : Value} {P : aq_S → Prop} (hm : aq_T y pc = some (aq_call y' nA rc n)) (hp : aq_pop nA st = some (As, r)) (hr : aq_rcv rc As S) (hc : (r.map fun v => v.category).sum ≤ 8) (hX : aX d y' As S (fun o S' => o = .inl (some v) ∧ P S')) (k : ∀ S1, P S1 → aG d y Q n L (v :: r) S1) : aG d y Q pc L st S :=
  ar_call hm hp hr hc hX (fun _ S1 h => by obtain ⟨h1, h2⟩ := h; cases h1; exact k S1 h2) (fun _ _ h => by obtain ⟨h1, h2⟩ := h; cases h1)
/-- an answer of which a property is known -/
theorem av_ce {A : Type} {d y : Nat} {Q : aq_F} {pc n : Nat} {L : aq_L} {st r : List Value} {S : aq_S} {y' nA : Nat} {rc : Option Nat} {As : List Value} {v : A → Value} {P : A → aq_S → Prop} (hm : aq_T y pc = some (aq_call y' nA rc n)) (hp : aq_pop nA st = some (As, r)) (hr : aq_rcv rc As S) (hc : (r.map fun v => v.category).sum ≤ 8) (hX : aX d y' As S (fun o S' => ∃ z, o = .inl (some (v z)) ∧ P z S')) (k : ∀ z S1, P z S1 → aG d y Q n L (v z :: r) S1) : aG d y Q pc L st S :=
  ar_call hm hp hr hc hX (fun _ S1 h => by obtain ⟨z, h1, h2⟩ := h; cases h1; exact k z S1 h2) (fun _ _ h => by obtain ⟨z, h1, h2⟩ := h; cases h1)
/-- a word: the object at w, its row behind it -/
def rW (S : aq_S) (w n : Nat) (f : Nat → Int32) : Prop := S.2.2.2 w = some (.inr (5, [.ref (w + 1), .int (nI n)])) ∧ S.2.2.2 (w + 1) = some (.inl (0, (40, .inl f))) ∧ n ≤ 40 ∧ w ≠ 0
theorem rW.fr {S S' : aq_S} {w n : Nat} {f : Nat → Int32} {P : Nat → Prop} (h : rW S w n f) (k : aq_fr S S' P) (h1 : ¬ P w) (h2 : ¬ P (w + 1)) : rW S' w n f := ⟨(k.2.2.2 w h1).trans h.1, (k.2.2.2 (w + 1) h2).trans h.2.1, h.2.2⟩
/-- two words are one, or apart -/
theorem rW.apart {S : aq_S} {w v n m : Nat} {f g : Nat → Int32} (h : rW S w n f) (k : rW S v m g) : w ≠ v + 1 ∧ v ≠ w + 1 := by
  refine ⟨fun e => ?_, fun e => ?_⟩
  · have := h.1
    rw [e, k.2.1] at this
    cases this
  · have := k.1
    rw [e, h.2.1] at this
    cases this
def wat (n : Nat) (f : Nat → Int32) (i : Int32) : Int32 := if i < 0 then -1 else if nI n ≤ i then -1 else f i.toNatClampNeg
theorem wat_in {n j : Nat} {f : Nat → Int32} (h : j < n) (hn : n < 2 ^ 31) : wat n f (nI j) = f j := by
  unfold wat
  rw [if_neg (nI_pos (by omega)), if_neg (nI_ge h hn), nI_clamp (by omega)]
theorem wat_lo {n : Nat} {f : Nat → Int32} {i : Int32} (h : i < 0) : wat n f i = -1 := if_pos h
theorem wat_hi {n : Nat} {f : Nat → Int32} {i : Int32} (h : nI n ≤ i) : wat n f i = -1 := by
  unfold wat
  rw [if_pos h]
  split <;> rfl
theorem s_X5_size (d : Nat) {S : aq_S} {w n : Nat} {f : Nat → Int32} (hw : rW S w n f) : aX (d + 1) 49 [.ref w] S (fun o S' => o = .inl (some (.int (nI n))) ∧ S' = S) := by
  obtain ⟨h1, h2, hn, h0⟩ := hw
  refine ar_run (Nat.le_of_ble_eq_true rfl) (fun o S1 h => aq_le_of (aq_le_refl S) h) ?_
  refine ar_ld i_X5_size_0 rfl rfl ?_
  refine ar_gf i_X5_size_1 (h1) rfl ?_
  exact ar_ret i_X5_size_4 rfl ⟨rfl, rfl⟩
theorem s_X5_at (d : Nat) {S : aq_S} {w n : Nat} {f : Nat → Int32} (hw : rW S w n f) (i : Int32) : aX (d + 1) 50 [.ref w, .int i] S (fun o S' => o = .inl (some (.int (wat n f i))) ∧ S' = S) := by
  obtain ⟨h1, h2, hn, h0⟩ := hw
  refine ar_run (Nat.le_of_ble_eq_true rfl) (fun o S1 h => aq_le_of (aq_le_refl S) h) ?_
  refine ar_ld i_X5_at_0 rfl rfl ?_
  rcases pk_ix i (n := n) (by omega) with hi | hi | ⟨j, hj, rfl⟩
  · refine ar_ift i_X5_at_1 rfl (hi) ?_
    refine ar_push i_X5_at_21 ?_
    refine ar_go i_X5_at_22 ?_
    exact ar_ret i_X5_at_31 rfl ⟨by rw [wat_lo hi], rfl⟩
  · refine ar_if i_X5_at_1 rfl (fun c1 => ?_) (fun c1 => ?_)
    · refine ar_push i_X5_at_21 ?_
      refine ar_go i_X5_at_22 ?_
      exact ar_ret i_X5_at_31 rfl ⟨by rw [wat_hi hi], rfl⟩
    · refine ar_ld i_X5_at_4 rfl rfl ?_
      refine ar_ld i_X5_at_5 rfl rfl ?_
      refine ar_gf i_X5_at_6 (h1) rfl ?_
      refine ar_ift i_X5_at_9 rfl (hi) ?_
      refine ar_push i_X5_at_21 ?_
      refine ar_go i_X5_at_22 ?_
      exact ar_ret i_X5_at_31 rfl ⟨by rw [wat_hi hi], rfl⟩
  · refine ar_iff i_X5_at_1 rfl (nI_pos (by omega)) ?_
    refine ar_ld i_X5_at_4 rfl rfl ?_
    refine ar_ld i_X5_at_5 rfl rfl ?_
    refine ar_gf i_X5_at_6 (h1) rfl ?_
    refine ar_iff i_X5_at_9 rfl (nI_ge hj (by omega)) ?_
    refine ar_ld i_X5_at_12 rfl rfl ?_
    refine ar_ld i_X5_at_13 rfl rfl ?_
    refine ar_gf i_X5_at_14 (h1) rfl ?_
    refine ar_len i_X5_at_17 (by decide) (h2) ?_
    refine ar_ift i_X5_at_18 rfl (nI_lt (a := j) (b := 40) (by omega) (by omega)) ?_
    refine ar_ld i_X5_at_25 rfl rfl ?_
    refine ar_gf i_X5_at_26 (h1) rfl ?_
    refine ar_ld i_X5_at_29 rfl rfl ?_
    refine av_ldi i_X5_at_30 (h2) (by omega) (by omega) ?_
    exact ar_ret i_X5_at_31 rfl ⟨by rw [wat_in hj (by omega)], rfl⟩
/-- what put leaves of the row -/
def wput (n : Nat) (f : Nat → Int32) (i x : Int32) : Nat → Int32 := if i < 0 then f else if nI n ≤ i then f else upd f i.toNatClampNeg x
theorem s_X5_put (d : Nat) {S : aq_S} {w n : Nat} {f : Nat → Int32} (hw : rW S w n f) (i x : Int32) : aX (d + 1) 51 [.ref w, .int i, .int x] S (fun o S' => o = .inl none ∧ rW S' w n (wput n f i x) ∧ aq_fr S S' (fun q => q = w + 1)) := by
  have hw0 := hw
  obtain ⟨h1, h2, hn, h0⟩ := hw
  refine ar_run (Nat.le_of_ble_eq_true rfl) (fun o S1 h => h.2.2.le) ?_
  refine ar_ld i_X5_put_0 rfl rfl ?_
  rcases pk_ix i (n := n) (by omega) with hi | hi | ⟨j, hj, rfl⟩
  · have e : wput n f i x = f := if_pos hi
    rw [e]
    refine ar_ift i_X5_put_1 rfl (hi) ?_
    exact ar_retv i_X5_put_28 ⟨rfl, hw0, aq_fr.rf⟩
  · have e : wput n f i x = f := by
      unfold wput
      rw [if_pos hi]
      split <;> rfl
    rw [e]
    refine ar_if i_X5_put_1 rfl (fun c1 => ?_) (fun c1 => ?_)
    · exact ar_retv i_X5_put_28 ⟨rfl, hw0, aq_fr.rf⟩
    · refine ar_ld i_X5_put_4 rfl rfl ?_
      refine ar_ld i_X5_put_5 rfl rfl ?_
      refine ar_gf i_X5_put_6 (h1) rfl ?_
      refine ar_ift i_X5_put_9 rfl (hi) ?_
      exact ar_retv i_X5_put_28 ⟨rfl, hw0, aq_fr.rf⟩
  · have e : wput n f (nI j) x = upd f j x := by
      unfold wput
      rw [if_neg (nI_pos (by omega)), if_neg (nI_ge hj (by omega)), nI_clamp (by omega)]
    rw [e]
    refine ar_iff i_X5_put_1 rfl (nI_pos (by omega)) ?_
    refine ar_ld i_X5_put_4 rfl rfl ?_
    refine ar_ld i_X5_put_5 rfl rfl ?_
    refine ar_gf i_X5_put_6 (h1) rfl ?_
    refine ar_iff i_X5_put_9 rfl (nI_ge hj (by omega)) ?_
    refine ar_ld i_X5_put_12 rfl rfl ?_
    refine ar_ld i_X5_put_13 rfl rfl ?_
    refine ar_gf i_X5_put_14 (h1) rfl ?_
    refine ar_len i_X5_put_17 (by decide) (h2) ?_
    refine ar_iff i_X5_put_18 rfl (nI_ge (a := j) (b := 40) (by omega) (by omega)) ?_
    refine ar_ld i_X5_put_21 rfl rfl ?_
    refine ar_gf i_X5_put_22 (h1) rfl ?_
    refine ar_ld i_X5_put_25 rfl rfl ?_
    refine ar_ld i_X5_put_26 rfl rfl ?_
    refine av_sti i_X5_put_27 (by omega) (h2) (by omega) (by omega) (fun S2 g2 k2 => ?_)
    exact ar_retv i_X5_put_28 ⟨rfl, ⟨(k2.2.2.2 w (by omega)).trans h1, g2, hn, h0⟩, k2⟩
theorem s_X5_add (d : Nat) {S : aq_S} {w n : Nat} {f : Nat → Int32} (hw : rW S w n f) (x : Int32) (hn4 : n < 40) : aX (d + 1) 52 [.ref w, .int x] S (fun o S' => o = .inl (some (.int 1)) ∧ rW S' w (n + 1) (upd f n x) ∧ aq_fr S S' (fun q => q = w ∨ q = w + 1)) := by
  obtain ⟨h1, h2, hn, h0⟩ := hw
  refine ar_run (Nat.le_of_ble_eq_true rfl) (fun o S1 h => h.2.2.le) ?_
  refine ar_ld i_X5_add_0 rfl rfl ?_
  refine ar_gf i_X5_add_1 (h1) rfl ?_
  refine ar_iff i_X5_add_4 rfl (nI_pos (by omega)) ?_
  refine ar_ld i_X5_add_7 rfl rfl ?_
  refine ar_gf i_X5_add_8 (h1) rfl ?_
  refine ar_ld i_X5_add_11 rfl rfl ?_
  refine ar_gf i_X5_add_12 (h1) rfl ?_
  refine ar_len i_X5_add_15 (by decide) (h2) ?_
  refine ar_ift i_X5_add_16 rfl (nI_lt (a := n) (b := 40) (by omega) (by omega)) ?_
  refine ar_ld i_X5_add_21 rfl rfl ?_
  refine ar_gf i_X5_add_22 (h1) rfl ?_
  refine ar_ld i_X5_add_25 rfl rfl ?_
  refine ar_gf i_X5_add_26 (h1) rfl ?_
  refine ar_ld i_X5_add_29 rfl rfl ?_
  refine av_sti i_X5_add_30 (by omega) (h2) (by omega) (by omega) (fun S2 g2 k2 => ?_)
  have h1' := (k2.2.2.2 w (by omega)).trans h1
  refine ar_ld i_X5_add_31 rfl rfl ?_
  refine ar_ar i_X5_add_32 rfl ?_
  refine ar_gf i_X5_add_33 (h1') rfl ?_
  refine ar_push i_X5_add_36 ?_
  refine ar_ar i_X5_add_37 rfl ?_
  refine av_pf i_X5_add_38 (h1') (Nat.le_of_ble_eq_true rfl) (rfl) rfl (fun S3 g3 k3 => ?_)
  refine ar_push i_X5_add_41 ?_
  rw [nI_1] at g3
  exact ar_ret i_X5_add_42 ((Or.inr rfl)) ⟨rfl, ⟨g3, (k3.2.2.2 _ (by omega)).trans g2, by omega, h0⟩, (k2.mono (fun q h => Or.inr h)).tr (k3.mono (fun q h => Or.inl h))⟩
theorem s_X5_add_full (d : Nat) {S : aq_S} {w n : Nat} {f : Nat → Int32} (hw : rW S w n f) (x : Int32) (hn4 : n = 40) : aX (d + 1) 52 [.ref w, .int x] S (fun o S' => o = .inl (some (.int 0)) ∧ S' = S) := by
  obtain ⟨h1, h2, hn, h0⟩ := hw
  refine ar_run (Nat.le_of_ble_eq_true rfl) (fun o S1 h => aq_le_of (aq_le_refl S) h) ?_
  subst hn4
  refine ar_ld i_X5_add_0 rfl rfl ?_
  refine ar_gf i_X5_add_1 (h1) rfl ?_
  refine ar_iff i_X5_add_4 rfl (nI_pos (by omega)) ?_
  refine ar_ld i_X5_add_7 rfl rfl ?_
  refine ar_gf i_X5_add_8 (h1) rfl ?_
  refine ar_ld i_X5_add_11 rfl rfl ?_
  refine ar_gf i_X5_add_12 (h1) rfl ?_
  refine ar_len i_X5_add_15 (by decide) (h2) ?_
  refine ar_iff i_X5_add_16 rfl (nI_nlt (a := 40) (b := 40) (by omega) (by omega)) ?_
  refine ar_push i_X5_add_19 ?_
  exact ar_ret i_X5_add_20 ((Or.inl rfl)) ⟨rfl, rfl⟩
theorem s_X5_makeEmpty (d : Nat) {S : aq_S} {w n : Nat} {f : Nat → Int32} (hw : rW S w n f) : aX (d + 1) 53 [.ref w] S (fun o S' => o = .inl none ∧ rW S' w 0 f ∧ aq_fr S S' (fun q => q = w)) := by
  obtain ⟨h1, h2, hn, h0⟩ := hw
  refine ar_run (Nat.le_of_ble_eq_true rfl) (fun o S1 h => h.2.2.le) ?_
  refine ar_ld i_X5_makeEmpty_0 rfl rfl ?_
  refine ar_push i_X5_makeEmpty_1 ?_
  refine av_pf i_X5_makeEmpty_2 (h1) (Nat.le_of_ble_eq_true rfl) (rfl) rfl (fun S2 g2 k2 => ?_)
  exact ar_retv i_X5_makeEmpty_5 ⟨rfl, ⟨g2, (k2.2.2.2 _ (by omega)).trans h2, by omega, h0⟩, k2⟩
def wdf (a b : Int32) : Prop := ¬ a = -1 ∧ ¬ b = -1 ∧ ¬ a = b
theorem s_X6_differ (d : Nat) {S : aq_S} (a b : Int32) : aX (d + 1) 116 [.int a, .int b] S (fun o S' => (wdf a b → o = .inl (some (.int 1))) ∧ (¬ wdf a b → o = .inl (some (.int 0))) ∧ S' = S) := by
  refine ar_run (Nat.le_of_ble_eq_true rfl) (fun o S1 h => by obtain ⟨-, -, rfl⟩ := h; exact aq_le_refl _) ?_
  refine ar_ld i_X6_differ_0 rfl rfl ?_
  refine ar_push i_X6_differ_1 ?_
  refine ar_if i_X6_differ_2 rfl (fun c2 => ?_) (fun c2 => ?_)
  · refine ar_push i_X6_differ_19 ?_
    exact ar_ret i_X6_differ_20 ((Or.inl rfl)) ⟨fun z => absurd c2 z.1, fun _ => rfl, rfl⟩
  · refine ar_ld i_X6_differ_5 rfl rfl ?_
    refine ar_push i_X6_differ_6 ?_
    refine ar_if i_X6_differ_7 rfl (fun c7 => ?_) (fun c7 => ?_)
    · refine ar_push i_X6_differ_19 ?_
      exact ar_ret i_X6_differ_20 ((Or.inl rfl)) ⟨fun z => absurd c7 z.2.1, fun _ => rfl, rfl⟩
    · refine ar_ld i_X6_differ_10 rfl rfl ?_
      refine ar_ld i_X6_differ_11 rfl rfl ?_
      refine ar_if i_X6_differ_12 rfl (fun c12 => ?_) (fun c12 => ?_)
      · refine ar_push i_X6_differ_19 ?_
        exact ar_ret i_X6_differ_20 ((Or.inl rfl)) ⟨fun z => absurd c12 z.2.2, fun _ => rfl, rfl⟩
      · refine ar_push i_X6_differ_15 ?_
        refine ar_go i_X6_differ_16 ?_
        exact ar_ret i_X6_differ_20 ((Or.inr rfl)) ⟨fun _ => rfl, fun z => absurd ⟨c2, c7, c12⟩ z, rfl⟩
/-- a word's symbols, as far as it goes -/
def isW (S : aq_S) (w n : Nat) (g : Nat → Int32) : Prop := ∃ f, rW S w n f ∧ ∀ i, i < n → f i = g i
theorem isW.fr {S S' : aq_S} {w n : Nat} {g : Nat → Int32} {P : Nat → Prop} (h : isW S w n g) (k : aq_fr S S' P) (h1 : ¬ P w) (h2 : ¬ P (w + 1)) : isW S' w n g := by
  obtain ⟨f, hf, hg⟩ := h
  exact ⟨f, hf.fr k h1 h2, hg⟩
theorem isW.le {S : aq_S} {w n : Nat} {g : Nat → Int32} (h : isW S w n g) : n ≤ 40 := by
  obtain ⟨f, hf, hg⟩ := h
  exact hf.2.2.1
theorem isW.obj {S : aq_S} {w n : Nat} {g : Nat → Int32} (h : isW S w n g) : S.2.2.2 w = some (.inr (5, [.ref (w + 1), .int (nI n)])) := by
  obtain ⟨f, hf, hg⟩ := h
  exact hf.1
theorem isW.apart {S : aq_S} {w v n m : Nat} {f g : Nat → Int32} (h : isW S w n f) (k : isW S v m g) : w ≠ v + 1 ∧ v ≠ w + 1 := by
  obtain ⟨f1, hf, hg⟩ := h
  obtain ⟨f2, hf2, hg2⟩ := k
  exact hf.apart hf2
theorem isW.cg {S : aq_S} {w n : Nat} {f g : Nat → Int32} (h : isW S w n f) (e : ∀ i, i < n → f i = g i) : isW S w n g := by
  obtain ⟨f1, hf, hg⟩ := h
  exact ⟨f1, hf, fun i hi => (hg i hi).trans (e i hi)⟩
theorem nI_inj {a b : Nat} (ha : a < 2 ^ 31) (hb : b < 2 ^ 31) (h : nI a = nI b) : a = b := (nI_eq ha hb).mp h
theorem wat_cg {n : Nat} {f g : Nat → Int32} (hn : n < 2 ^ 31) (e : ∀ i, i < n → f i = g i) (i : Int32) : wat n f i = wat n g i := by
  rcases pk_ix i (n := n) hn with hi | hi | ⟨j, hj, rfl⟩
  · rw [wat_lo hi, wat_lo hi]
  · rw [wat_hi hi, wat_hi hi]
  · rw [wat_in hj hn, wat_in hj hn, e j hj]
theorem w_at (d : Nat) {S : aq_S} {w n : Nat} {g : Nat → Int32} (hw : isW S w n g) (i : Int32) : aX (d + 1) 50 [.ref w, .int i] S (fun o S' => o = .inl (some (.int (wat n g i))) ∧ S' = S) := by
  obtain ⟨f, hf, hg⟩ := hw
  have hn := hf.2.2.1
  rw [← wat_cg (by omega) hg]
  exact s_X5_at d hf i
theorem w_atj (d : Nat) {S : aq_S} {w n : Nat} {g : Nat → Int32} (hw : isW S w n g) (j : Nat) (hj : j < n) : aX (d + 1) 50 [.ref w, .int (nI j)] S (fun o S' => o = .inl (some (.int (g j))) ∧ S' = S) := by
  have hn := hw.le
  have := w_at d hw (nI j)
  rwa [wat_in hj (by omega)] at this
theorem w_size (d : Nat) {S : aq_S} {w n : Nat} {g : Nat → Int32} (hw : isW S w n g) : aX (d + 1) 49 [.ref w] S (fun o S' => o = .inl (some (.int (nI n))) ∧ S' = S) := by
  obtain ⟨f, hf, hg⟩ := hw
  exact s_X5_size d hf
theorem w_put (d : Nat) {S : aq_S} {w n : Nat} {g : Nat → Int32} (hw : isW S w n g) (j : Nat) (hj : j < n) (x : Int32) : aX (d + 1) 51 [.ref w, .int (nI j), .int x] S (fun o S' => o = .inl none ∧ isW S' w n (upd g j x) ∧ aq_fr S S' (fun q => q = w + 1)) := by
  obtain ⟨f, hf, hg⟩ := hw
  have hn := hf.2.2.1
  refine ar_weak (s_X5_put d hf (nI j) x) fun o S1 h => ⟨h.1, ⟨_, h.2.1, fun i hi => ?_⟩, h.2.2⟩
  unfold wput
  rw [if_neg (nI_pos (by omega)), if_neg (nI_ge hj (by omega)), nI_clamp (by omega)]
  unfold upd
  split
  · rfl
  · exact hg i hi
theorem w_add (d : Nat) {S : aq_S} {w n : Nat} {g : Nat → Int32} (hw : isW S w n g) (x : Int32) (hn4 : n < 40) : aX (d + 1) 52 [.ref w, .int x] S (fun o S' => o = .inl (some (.int 1)) ∧ isW S' w (n + 1) (upd g n x) ∧ aq_fr S S' (fun q => q = w ∨ q = w + 1)) := by
  obtain ⟨f, hf, hg⟩ := hw
  refine ar_weak (s_X5_add d hf x hn4) fun o S1 h => ⟨h.1, ⟨_, h.2.1, fun i hi => ?_⟩, h.2.2⟩
  unfold upd
  split
  · rfl
  · exact hg i (by omega)
theorem w_add_full (d : Nat) {S : aq_S} {w : Nat} {g : Nat → Int32} (hw : isW S w 40 g) (x : Int32) : aX (d + 1) 52 [.ref w, .int x] S (fun o S' => o = .inl (some (.int 0)) ∧ S' = S) := by
  obtain ⟨f, hf, hg⟩ := hw
  exact s_X5_add_full d hf x rfl
theorem w_makeEmpty (d : Nat) {S : aq_S} {w n : Nat} {g g' : Nat → Int32} (hw : isW S w n g) : aX (d + 1) 53 [.ref w] S (fun o S' => o = .inl none ∧ isW S' w 0 g' ∧ aq_fr S S' (fun q => q = w)) := by
  obtain ⟨f, hf, hg⟩ := hw
  exact ar_weak (s_X5_makeEmpty d hf) fun o S1 h => ⟨h.1, ⟨_, h.2.1, fun i hi => absurd hi (Nat.not_lt_zero i)⟩, h.2.2⟩
/-- a call of differ, by cases -/
theorem s_differ_t (d : Nat) {S : aq_S} {a b : Int32} (h : wdf a b) : aX (d + 1) 116 [.int a, .int b] S (fun o S' => o = .inl (some (.int 1)) ∧ S' = S) := ar_weak (s_X6_differ d a b) fun o S1 q => ⟨q.1 h, q.2.2⟩
theorem s_differ_f (d : Nat) {S : aq_S} {a b : Int32} (h : ¬ wdf a b) : aX (d + 1) 116 [.int a, .int b] S (fun o S' => o = .inl (some (.int 0)) ∧ S' = S) := ar_weak (s_X6_differ d a b) fun o S1 q => ⟨q.2.1 h, q.2.2⟩
/-- the number of holes among the first -/
def wholes (f : Nat → Int32) : Nat → Nat
  | 0 => 0
  | n + 1 => wholes f n + if f n = -1 then 1 else 0
theorem wholes_le (f : Nat → Int32) : ∀ n, wholes f n ≤ n
  | 0 => Nat.le_refl 0
  | n + 1 => by
    have := wholes_le f n
    unfold wholes
    split <;> omega
theorem wholes_y {f : Nat → Int32} {n : Nat} (h : f n = -1) : wholes f (n + 1) = wholes f n + 1 := by
  show wholes f n + _ = _
  rw [if_pos h]
theorem wholes_n {f : Nat → Int32} {n : Nat} (h : ¬ f n = -1) : wholes f (n + 1) = wholes f n := by
  show wholes f n + _ = _
  rw [if_neg h]
  rfl
theorem w_holeCount (d : Nat) {S : aq_S} {w n : Nat} {g : Nat → Int32} (hw : isW S w n g) : aX (d + 2) 57 [.ref w] S (fun o S' => o = .inl (some (.int (nI (wholes g n)))) ∧ S' = S) := by
  have h1 := hw.obj
  have hn := hw.le
  refine ar_run (Nat.le_of_ble_eq_true rfl) (fun o S1 h => aq_le_of (aq_le_refl S) h) ?_
  refine ar_push i_X5_holeCount_0 ?_
  refine ar_st i_X5_holeCount_1 rfl rfl ?_
  refine ar_push i_X5_holeCount_2 ?_
  refine ar_st i_X5_holeCount_3 rfl rfl ?_
  suffices key : ∀ j i, i + j = n → aG (d + 1) 57 (fun o S' => o = .inl (some (.int (nI (wholes g n)))) ∧ S' = S) 4 [(0, .ref w), (1, .int (nI (wholes g i))), (2, .int (nI i))] [] S from key n 0 (by omega)
  intro j
  induction j with
  | zero =>
    intro i hi
    refine ar_ld i_X5_holeCount_4 rfl rfl ?_
    refine ar_ld i_X5_holeCount_5 rfl rfl ?_
    refine ar_gf i_X5_holeCount_6 (h1) rfl ?_
    refine ar_ift i_X5_holeCount_9 rfl (nI_le (by omega) (by omega)) ?_
    refine ar_ld i_X5_holeCount_30 rfl rfl ?_
    exact ar_ret i_X5_holeCount_31 rfl ⟨by rw [show i = n by omega], rfl⟩
  | succ j ih =>
    intro i hi
    have := ih (i + 1) (by omega)
    rw [← nI_1] at this
    refine ar_ld i_X5_holeCount_4 rfl rfl ?_
    refine ar_ld i_X5_holeCount_5 rfl rfl ?_
    refine ar_gf i_X5_holeCount_6 (h1) rfl ?_
    refine ar_iff i_X5_holeCount_9 rfl (nI_ge (by omega) (by omega)) ?_
    refine ar_ld i_X5_holeCount_12 rfl rfl ?_
    refine ar_ld i_X5_holeCount_13 rfl rfl ?_
    refine ar_cr i_X5_holeCount_14 rfl ⟨_, _, _, rfl, (h1)⟩ (Nat.le_of_ble_eq_true rfl) (w_atj d hw i (by omega)) ?_
    refine ar_push i_X5_holeCount_17 ?_
    refine ar_if i_X5_holeCount_18 rfl (fun c18 => ?_) (fun c18 => ?_)
    · refine ar_inc i_X5_holeCount_24 rfl rfl ?_
      refine ar_go i_X5_holeCount_27 ?_
      rw [wholes_n c18] at this
      exact this
    · refine ar_inc i_X5_holeCount_21 rfl rfl ?_
      refine ar_inc i_X5_holeCount_24 rfl rfl ?_
      refine ar_go i_X5_holeCount_27 ?_
      rw [wholes_y (Classical.byContradiction c18), ← nI_1] at this
      exact this
end
