/-! ===== the helpers of the law (printed by wip/whole/mkL.py) ===== -/
section
/-- the row for the answer -/
def oA (S : aq_S) : Prop := ∃ f, S.2.2.2 71 = some (.inl (1, (1, .inr (.inl f))))
def oV (S : aq_S) (v : Int64) : Prop := ∃ f, S.2.2.2 71 = some (.inl (1, (1, .inr (.inl f)))) ∧ f 0 = v
theorem oA.fr {S S' : aq_S} {P : Nat → Prop} (h : oA S) (q : aq_fr S S' P) (h1 : ¬ P 71) : oA S' := by
  obtain ⟨f, hf⟩ := h
  exact ⟨f, (q.2.2.2 _ h1).trans hf⟩
theorem oA.th {S : aq_S} (h : oA S) : oA (aq_thrown S) := h
theorem l_setLetters (d : Nat) {S : aq_S} {hs : Int32} {a0 : Int32} {v : Int32} {P : aq_S → Prop} (h : hX S hs) (hP : ∀ S', P S' → aq_le S S' ∧ oA S') (hc : aX d 67 [.ref 1, .int a0] S (fun o S' => o = .inl (some (.int v)) ∧ P S')) : aX (d + 1) 212 [.ref 1, .int a0, .ref 71] S (fun o S' => o = .inl (some (.int 0)) ∧ ∃ S1, P S1 ∧ aq_fr S1 S' (fun q => q = 71) ∧ oV S' v.toInt64) := by
  refine ar_run (Nat.le_of_ble_eq_true rfl) (fun o S1 h => by obtain ⟨-, S2, p, q, -⟩ := h; have a := (hP S2 p).1; have b := q.le; exact ⟨Nat.le_trans a.1 b.1, Nat.le_trans a.2.1 b.2.1, Nat.le_trans a.2.2 b.2.2⟩) ?_
  refine ar_ld i_L_setLetters_0 rfl rfl ?_
  refine ar_push i_L_setLetters_1 ?_
  refine ar_ld i_L_setLetters_2 rfl rfl ?_
  refine ar_ld i_L_setLetters_3 rfl rfl ?_
  refine ar_callh i_L_setLetters_4 rfl ⟨_, _, _, rfl, h⟩ (Nat.le_of_ble_eq_true rfl) hc (fun w S1 hq => ?_) (fun E S1 hq => by obtain ⟨h1, -⟩ := hq; cases h1)
  obtain ⟨h1, h2⟩ := hq
  cases h1
  obtain ⟨f, hf⟩ := (hP S1 h2).2
  refine ar_ar i_L_setLetters_7 rfl ?_
  refine av_stl i_L_setLetters_8 (j := 0) (by omega) hf (by omega) (by omega) (fun S2 g2 k2 => ?_)
  refine ar_go i_L_setLetters_9 ?_
  refine ar_push i_L_setLetters_15 ?_
  exact ar_ret i_L_setLetters_16 rfl ⟨rfl, S1, h2, k2, _, g2, updL_eq⟩
theorem l_setLetters_x (d : Nat) {S : aq_S} {hs : Int32} {a0 : Int32} {E : String} {c : Int32} {P : aq_S → Prop} (h : hX S hs) (hP : ∀ S', P S' → aq_le S S') (hE : ([("java/lang/IllegalArgumentException", 1)] : List (String × Int32)).lookup E = some c) (hc : aX d 67 [.ref 1, .int a0] S (fun o S' => o = .inr E ∧ P S')) : aX (d + 1) 212 [.ref 1, .int a0, .ref 71] S (fun o S' => o = .inl (some (.int c)) ∧ P S') := by
  refine ar_run (Nat.le_of_ble_eq_true rfl) (fun o S1 h => hP S1 h.2) ?_
  refine ar_ld i_L_setLetters_0 rfl rfl ?_
  refine ar_push i_L_setLetters_1 ?_
  refine ar_ld i_L_setLetters_2 rfl rfl ?_
  refine ar_ld i_L_setLetters_3 rfl rfl ?_
  exact ar_callh i_L_setLetters_4 rfl ⟨_, _, _, rfl, h⟩ (Nat.le_of_ble_eq_true rfl) hc (fun w S1 hq => by obtain ⟨h1, -⟩ := hq; cases h1) (fun E' S1 hq => by obtain ⟨h1, h2⟩ := hq; cases h1; exact ⟨c, hE, rfl, h2⟩)
theorem l_append (d : Nat) {S : aq_S} {hs : Int32} {a0 : Int32} {a1 : Int32} {v : Int32} {P : aq_S → Prop} (h : hX S hs) (hP : ∀ S', P S' → aq_le S S' ∧ oA S') (hc : aX d 68 [.ref 1, .int a0, .int a1] S (fun o S' => o = .inl (some (.int v)) ∧ P S')) : aX (d + 1) 213 [.ref 1, .int a0, .int a1, .ref 71] S (fun o S' => o = .inl (some (.int 0)) ∧ ∃ S1, P S1 ∧ aq_fr S1 S' (fun q => q = 71) ∧ oV S' v.toInt64) := by
  refine ar_run (Nat.le_of_ble_eq_true rfl) (fun o S1 h => by obtain ⟨-, S2, p, q, -⟩ := h; have a := (hP S2 p).1; have b := q.le; exact ⟨Nat.le_trans a.1 b.1, Nat.le_trans a.2.1 b.2.1, Nat.le_trans a.2.2 b.2.2⟩) ?_
  refine ar_ld i_L_append_0 rfl rfl ?_
  refine ar_push i_L_append_1 ?_
  refine ar_ld i_L_append_2 rfl rfl ?_
  refine ar_ld i_L_append_3 rfl rfl ?_
  refine ar_ld i_L_append_4 rfl rfl ?_
  refine ar_callh i_L_append_5 rfl ⟨_, _, _, rfl, h⟩ (Nat.le_of_ble_eq_true rfl) hc (fun w S1 hq => ?_) (fun E S1 hq => by obtain ⟨h1, -⟩ := hq; cases h1)
  obtain ⟨h1, h2⟩ := hq
  cases h1
  obtain ⟨f, hf⟩ := (hP S1 h2).2
  refine ar_ar i_L_append_8 rfl ?_
  refine av_stl i_L_append_9 (j := 0) (by omega) hf (by omega) (by omega) (fun S2 g2 k2 => ?_)
  refine ar_go i_L_append_10 ?_
  refine ar_push i_L_append_21 ?_
  exact ar_ret i_L_append_22 rfl ⟨rfl, S1, h2, k2, _, g2, updL_eq⟩
theorem l_append_x (d : Nat) {S : aq_S} {hs : Int32} {a0 : Int32} {a1 : Int32} {E : String} {c : Int32} {P : aq_S → Prop} (h : hX S hs) (hP : ∀ S', P S' → aq_le S S') (hE : ([("java/lang/IllegalArgumentException", 1), ("java/lang/IllegalStateException", 2)] : List (String × Int32)).lookup E = some c) (hc : aX d 68 [.ref 1, .int a0, .int a1] S (fun o S' => o = .inr E ∧ P S')) : aX (d + 1) 213 [.ref 1, .int a0, .int a1, .ref 71] S (fun o S' => o = .inl (some (.int c)) ∧ P S') := by
  refine ar_run (Nat.le_of_ble_eq_true rfl) (fun o S1 h => hP S1 h.2) ?_
  refine ar_ld i_L_append_0 rfl rfl ?_
  refine ar_push i_L_append_1 ?_
  refine ar_ld i_L_append_2 rfl rfl ?_
  refine ar_ld i_L_append_3 rfl rfl ?_
  refine ar_ld i_L_append_4 rfl rfl ?_
  exact ar_callh i_L_append_5 rfl ⟨_, _, _, rfl, h⟩ (Nat.le_of_ble_eq_true rfl) hc (fun w S1 hq => by obtain ⟨h1, -⟩ := hq; cases h1) (fun E' S1 hq => by obtain ⟨h1, h2⟩ := hq; cases h1; exact ⟨c, hE, rfl, h2⟩)
theorem l_feed (d : Nat) {S : aq_S} {hs : Int32} {a0 : Int32} {v : Int32} {P : aq_S → Prop} (h : hX S hs) (hP : ∀ S', P S' → aq_le S S' ∧ oA S') (hc : aX d 69 [.ref 1, .int a0] S (fun o S' => o = .inl (some (.int v)) ∧ P S')) : aX (d + 1) 214 [.ref 1, .int a0, .ref 71] S (fun o S' => o = .inl (some (.int 0)) ∧ ∃ S1, P S1 ∧ aq_fr S1 S' (fun q => q = 71) ∧ oV S' v.toInt64) := by
  refine ar_run (Nat.le_of_ble_eq_true rfl) (fun o S1 h => by obtain ⟨-, S2, p, q, -⟩ := h; have a := (hP S2 p).1; have b := q.le; exact ⟨Nat.le_trans a.1 b.1, Nat.le_trans a.2.1 b.2.1, Nat.le_trans a.2.2 b.2.2⟩) ?_
  refine ar_ld i_L_feed_0 rfl rfl ?_
  refine ar_push i_L_feed_1 ?_
  refine ar_ld i_L_feed_2 rfl rfl ?_
  refine ar_ld i_L_feed_3 rfl rfl ?_
  refine ar_callh i_L_feed_4 rfl ⟨_, _, _, rfl, h⟩ (Nat.le_of_ble_eq_true rfl) hc (fun w S1 hq => ?_) (fun E S1 hq => by obtain ⟨h1, -⟩ := hq; cases h1)
  obtain ⟨h1, h2⟩ := hq
  cases h1
  obtain ⟨f, hf⟩ := (hP S1 h2).2
  refine ar_ar i_L_feed_7 rfl ?_
  refine av_stl i_L_feed_8 (j := 0) (by omega) hf (by omega) (by omega) (fun S2 g2 k2 => ?_)
  refine ar_go i_L_feed_9 ?_
  refine ar_push i_L_feed_18 ?_
  exact ar_ret i_L_feed_19 rfl ⟨rfl, S1, h2, k2, _, g2, updL_eq⟩
theorem l_feed_x (d : Nat) {S : aq_S} {hs : Int32} {a0 : Int32} {E : String} {c : Int32} {P : aq_S → Prop} (h : hX S hs) (hP : ∀ S', P S' → aq_le S S') (hE : ([("java/lang/IllegalArgumentException", 1), ("java/lang/IllegalStateException", 2)] : List (String × Int32)).lookup E = some c) (hc : aX d 69 [.ref 1, .int a0] S (fun o S' => o = .inr E ∧ P S')) : aX (d + 1) 214 [.ref 1, .int a0, .ref 71] S (fun o S' => o = .inl (some (.int c)) ∧ P S') := by
  refine ar_run (Nat.le_of_ble_eq_true rfl) (fun o S1 h => hP S1 h.2) ?_
  refine ar_ld i_L_feed_0 rfl rfl ?_
  refine ar_push i_L_feed_1 ?_
  refine ar_ld i_L_feed_2 rfl rfl ?_
  refine ar_ld i_L_feed_3 rfl rfl ?_
  exact ar_callh i_L_feed_4 rfl ⟨_, _, _, rfl, h⟩ (Nat.le_of_ble_eq_true rfl) hc (fun w S1 hq => by obtain ⟨h1, -⟩ := hq; cases h1) (fun E' S1 hq => by obtain ⟨h1, h2⟩ := hq; cases h1; exact ⟨c, hE, rfl, h2⟩)
theorem l_parseWord (d : Nat) {S : aq_S} {hs : Int32} {a0 : Int32} {v : Int32} {P : aq_S → Prop} (h : hX S hs) (hP : ∀ S', P S' → aq_le S S' ∧ oA S') (hc : aX d 70 [.ref 1, .int a0] S (fun o S' => o = .inl (some (.int v)) ∧ P S')) : aX (d + 1) 215 [.ref 1, .int a0, .ref 71] S (fun o S' => o = .inl (some (.int 0)) ∧ ∃ S1, P S1 ∧ aq_fr S1 S' (fun q => q = 71) ∧ oV S' v.toInt64) := by
  refine ar_run (Nat.le_of_ble_eq_true rfl) (fun o S1 h => by obtain ⟨-, S2, p, q, -⟩ := h; have a := (hP S2 p).1; have b := q.le; exact ⟨Nat.le_trans a.1 b.1, Nat.le_trans a.2.1 b.2.1, Nat.le_trans a.2.2 b.2.2⟩) ?_
  refine ar_ld i_L_parseWord_0 rfl rfl ?_
  refine ar_push i_L_parseWord_1 ?_
  refine ar_ld i_L_parseWord_2 rfl rfl ?_
  refine ar_ld i_L_parseWord_3 rfl rfl ?_
  refine ar_callh i_L_parseWord_4 rfl ⟨_, _, _, rfl, h⟩ (Nat.le_of_ble_eq_true rfl) hc (fun w S1 hq => ?_) (fun E S1 hq => by obtain ⟨h1, -⟩ := hq; cases h1)
  obtain ⟨h1, h2⟩ := hq
  cases h1
  obtain ⟨f, hf⟩ := (hP S1 h2).2
  refine ar_ar i_L_parseWord_7 rfl ?_
  refine av_stl i_L_parseWord_8 (j := 0) (by omega) hf (by omega) (by omega) (fun S2 g2 k2 => ?_)
  refine ar_go i_L_parseWord_9 ?_
  refine ar_push i_L_parseWord_18 ?_
  exact ar_ret i_L_parseWord_19 rfl ⟨rfl, S1, h2, k2, _, g2, updL_eq⟩
theorem l_parseWord_x (d : Nat) {S : aq_S} {hs : Int32} {a0 : Int32} {E : String} {c : Int32} {P : aq_S → Prop} (h : hX S hs) (hP : ∀ S', P S' → aq_le S S') (hE : ([("java/lang/IllegalArgumentException", 1), ("java/lang/IllegalStateException", 2)] : List (String × Int32)).lookup E = some c) (hc : aX d 70 [.ref 1, .int a0] S (fun o S' => o = .inr E ∧ P S')) : aX (d + 1) 215 [.ref 1, .int a0, .ref 71] S (fun o S' => o = .inl (some (.int c)) ∧ P S') := by
  refine ar_run (Nat.le_of_ble_eq_true rfl) (fun o S1 h => hP S1 h.2) ?_
  refine ar_ld i_L_parseWord_0 rfl rfl ?_
  refine ar_push i_L_parseWord_1 ?_
  refine ar_ld i_L_parseWord_2 rfl rfl ?_
  refine ar_ld i_L_parseWord_3 rfl rfl ?_
  exact ar_callh i_L_parseWord_4 rfl ⟨_, _, _, rfl, h⟩ (Nat.le_of_ble_eq_true rfl) hc (fun w S1 hq => by obtain ⟨h1, -⟩ := hq; cases h1) (fun E' S1 hq => by obtain ⟨h1, h2⟩ := hq; cases h1; exact ⟨c, hE, rfl, h2⟩)
theorem l_errorPosition (d : Nat) {S : aq_S} {hs : Int32}  {v : Int32} {P : aq_S → Prop} (h : hX S hs) (hP : ∀ S', P S' → aq_le S S' ∧ oA S') (hc : aX d 71 [.ref 1] S (fun o S' => o = .inl (some (.int v)) ∧ P S')) : aX (d + 1) 216 [.ref 1, .ref 71] S (fun o S' => o = .inl (some (.int 0)) ∧ ∃ S1, P S1 ∧ aq_fr S1 S' (fun q => q = 71) ∧ oV S' v.toInt64) := by
  refine ar_run (Nat.le_of_ble_eq_true rfl) (fun o S1 h => by obtain ⟨-, S2, p, q, -⟩ := h; have a := (hP S2 p).1; have b := q.le; exact ⟨Nat.le_trans a.1 b.1, Nat.le_trans a.2.1 b.2.1, Nat.le_trans a.2.2 b.2.2⟩) ?_
  refine ar_ld i_L_errorPosition_0 rfl rfl ?_
  refine ar_push i_L_errorPosition_1 ?_
  refine ar_ld i_L_errorPosition_2 rfl rfl ?_
  refine ar_callh i_L_errorPosition_3 rfl ⟨_, _, _, rfl, h⟩ (Nat.le_of_ble_eq_true rfl) hc (fun w S1 hq => ?_) (fun E S1 hq => by obtain ⟨h1, -⟩ := hq; cases h1)
  obtain ⟨h1, h2⟩ := hq
  cases h1
  obtain ⟨f, hf⟩ := (hP S1 h2).2
  refine ar_ar i_L_errorPosition_6 rfl ?_
  refine av_stl i_L_errorPosition_7 (j := 0) (by omega) hf (by omega) (by omega) (fun S2 g2 k2 => ?_)
  refine ar_go i_L_errorPosition_8 ?_
  refine ar_push i_L_errorPosition_14 ?_
  exact ar_ret i_L_errorPosition_15 rfl ⟨rfl, S1, h2, k2, _, g2, updL_eq⟩
theorem l_errorPosition_x (d : Nat) {S : aq_S} {hs : Int32}  {E : String} {c : Int32} {P : aq_S → Prop} (h : hX S hs) (hP : ∀ S', P S' → aq_le S S') (hE : ([("java/util/NoSuchElementException", 1)] : List (String × Int32)).lookup E = some c) (hc : aX d 71 [.ref 1] S (fun o S' => o = .inr E ∧ P S')) : aX (d + 1) 216 [.ref 1, .ref 71] S (fun o S' => o = .inl (some (.int c)) ∧ P S') := by
  refine ar_run (Nat.le_of_ble_eq_true rfl) (fun o S1 h => hP S1 h.2) ?_
  refine ar_ld i_L_errorPosition_0 rfl rfl ?_
  refine ar_push i_L_errorPosition_1 ?_
  refine ar_ld i_L_errorPosition_2 rfl rfl ?_
  exact ar_callh i_L_errorPosition_3 rfl ⟨_, _, _, rfl, h⟩ (Nat.le_of_ble_eq_true rfl) hc (fun w S1 hq => by obtain ⟨h1, -⟩ := hq; cases h1) (fun E' S1 hq => by obtain ⟨h1, h2⟩ := hq; cases h1; exact ⟨c, hE, rfl, h2⟩)
theorem l_length (d : Nat) {S : aq_S} {hs : Int32} {a0 : Int32} {v : Int32} {P : aq_S → Prop} (h : hX S hs) (hP : ∀ S', P S' → aq_le S S' ∧ oA S') (hc : aX d 72 [.ref 1, .int a0] S (fun o S' => o = .inl (some (.int v)) ∧ P S')) : aX (d + 1) 217 [.ref 1, .int a0, .ref 71] S (fun o S' => o = .inl (some (.int 0)) ∧ ∃ S1, P S1 ∧ aq_fr S1 S' (fun q => q = 71) ∧ oV S' v.toInt64) := by
  refine ar_run (Nat.le_of_ble_eq_true rfl) (fun o S1 h => by obtain ⟨-, S2, p, q, -⟩ := h; have a := (hP S2 p).1; have b := q.le; exact ⟨Nat.le_trans a.1 b.1, Nat.le_trans a.2.1 b.2.1, Nat.le_trans a.2.2 b.2.2⟩) ?_
  refine ar_ld i_L_length_0 rfl rfl ?_
  refine ar_push i_L_length_1 ?_
  refine ar_ld i_L_length_2 rfl rfl ?_
  refine ar_ld i_L_length_3 rfl rfl ?_
  refine ar_callh i_L_length_4 rfl ⟨_, _, _, rfl, h⟩ (Nat.le_of_ble_eq_true rfl) hc (fun w S1 hq => ?_) (fun E S1 hq => by obtain ⟨h1, -⟩ := hq; cases h1)
  obtain ⟨h1, h2⟩ := hq
  cases h1
  obtain ⟨f, hf⟩ := (hP S1 h2).2
  refine ar_ar i_L_length_7 rfl ?_
  refine av_stl i_L_length_8 (j := 0) (by omega) hf (by omega) (by omega) (fun S2 g2 k2 => ?_)
  refine ar_go i_L_length_9 ?_
  refine ar_push i_L_length_15 ?_
  exact ar_ret i_L_length_16 rfl ⟨rfl, S1, h2, k2, _, g2, updL_eq⟩
theorem l_length_x (d : Nat) {S : aq_S} {hs : Int32} {a0 : Int32} {E : String} {c : Int32} {P : aq_S → Prop} (h : hX S hs) (hP : ∀ S', P S' → aq_le S S') (hE : ([("java/lang/IllegalArgumentException", 1)] : List (String × Int32)).lookup E = some c) (hc : aX d 72 [.ref 1, .int a0] S (fun o S' => o = .inr E ∧ P S')) : aX (d + 1) 217 [.ref 1, .int a0, .ref 71] S (fun o S' => o = .inl (some (.int c)) ∧ P S') := by
  refine ar_run (Nat.le_of_ble_eq_true rfl) (fun o S1 h => hP S1 h.2) ?_
  refine ar_ld i_L_length_0 rfl rfl ?_
  refine ar_push i_L_length_1 ?_
  refine ar_ld i_L_length_2 rfl rfl ?_
  refine ar_ld i_L_length_3 rfl rfl ?_
  exact ar_callh i_L_length_4 rfl ⟨_, _, _, rfl, h⟩ (Nat.le_of_ble_eq_true rfl) hc (fun w S1 hq => by obtain ⟨h1, -⟩ := hq; cases h1) (fun E' S1 hq => by obtain ⟨h1, h2⟩ := hq; cases h1; exact ⟨c, hE, rfl, h2⟩)
theorem l_symbol (d : Nat) {S : aq_S} {hs : Int32} {a0 : Int32} {a1 : Int32} {v : Int32} {P : aq_S → Prop} (h : hX S hs) (hP : ∀ S', P S' → aq_le S S' ∧ oA S') (hc : aX d 73 [.ref 1, .int a0, .int a1] S (fun o S' => o = .inl (some (.int v)) ∧ P S')) : aX (d + 1) 218 [.ref 1, .int a0, .int a1, .ref 71] S (fun o S' => o = .inl (some (.int 0)) ∧ ∃ S1, P S1 ∧ aq_fr S1 S' (fun q => q = 71) ∧ oV S' v.toInt64) := by
  refine ar_run (Nat.le_of_ble_eq_true rfl) (fun o S1 h => by obtain ⟨-, S2, p, q, -⟩ := h; have a := (hP S2 p).1; have b := q.le; exact ⟨Nat.le_trans a.1 b.1, Nat.le_trans a.2.1 b.2.1, Nat.le_trans a.2.2 b.2.2⟩) ?_
  refine ar_ld i_L_symbol_0 rfl rfl ?_
  refine ar_push i_L_symbol_1 ?_
  refine ar_ld i_L_symbol_2 rfl rfl ?_
  refine ar_ld i_L_symbol_3 rfl rfl ?_
  refine ar_ld i_L_symbol_4 rfl rfl ?_
  refine ar_callh i_L_symbol_5 rfl ⟨_, _, _, rfl, h⟩ (Nat.le_of_ble_eq_true rfl) hc (fun w S1 hq => ?_) (fun E S1 hq => by obtain ⟨h1, -⟩ := hq; cases h1)
  obtain ⟨h1, h2⟩ := hq
  cases h1
  obtain ⟨f, hf⟩ := (hP S1 h2).2
  refine ar_ar i_L_symbol_8 rfl ?_
  refine av_stl i_L_symbol_9 (j := 0) (by omega) hf (by omega) (by omega) (fun S2 g2 k2 => ?_)
  refine ar_go i_L_symbol_10 ?_
  refine ar_push i_L_symbol_21 ?_
  exact ar_ret i_L_symbol_22 rfl ⟨rfl, S1, h2, k2, _, g2, updL_eq⟩
theorem l_symbol_x (d : Nat) {S : aq_S} {hs : Int32} {a0 : Int32} {a1 : Int32} {E : String} {c : Int32} {P : aq_S → Prop} (h : hX S hs) (hP : ∀ S', P S' → aq_le S S') (hE : ([("java/lang/IllegalArgumentException", 1), ("java/lang/IndexOutOfBoundsException", 2)] : List (String × Int32)).lookup E = some c) (hc : aX d 73 [.ref 1, .int a0, .int a1] S (fun o S' => o = .inr E ∧ P S')) : aX (d + 1) 218 [.ref 1, .int a0, .int a1, .ref 71] S (fun o S' => o = .inl (some (.int c)) ∧ P S') := by
  refine ar_run (Nat.le_of_ble_eq_true rfl) (fun o S1 h => hP S1 h.2) ?_
  refine ar_ld i_L_symbol_0 rfl rfl ?_
  refine ar_push i_L_symbol_1 ?_
  refine ar_ld i_L_symbol_2 rfl rfl ?_
  refine ar_ld i_L_symbol_3 rfl rfl ?_
  refine ar_ld i_L_symbol_4 rfl rfl ?_
  exact ar_callh i_L_symbol_5 rfl ⟨_, _, _, rfl, h⟩ (Nat.le_of_ble_eq_true rfl) hc (fun w S1 hq => by obtain ⟨h1, -⟩ := hq; cases h1) (fun E' S1 hq => by obtain ⟨h1, h2⟩ := hq; cases h1; exact ⟨c, hE, rfl, h2⟩)
theorem l_setSymbol (d : Nat) {S : aq_S} {hs : Int32} {a0 : Int32} {a1 : Int32} {a2 : Int32} {v : Int32} {P : aq_S → Prop} (h : hX S hs) (hP : ∀ S', P S' → aq_le S S' ∧ oA S') (hc : aX d 74 [.ref 1, .int a0, .int a1, .int a2] S (fun o S' => o = .inl (some (.int v)) ∧ P S')) : aX (d + 1) 219 [.ref 1, .int a0, .int a1, .int a2, .ref 71] S (fun o S' => o = .inl (some (.int 0)) ∧ ∃ S1, P S1 ∧ aq_fr S1 S' (fun q => q = 71) ∧ oV S' v.toInt64) := by
  refine ar_run (Nat.le_of_ble_eq_true rfl) (fun o S1 h => by obtain ⟨-, S2, p, q, -⟩ := h; have a := (hP S2 p).1; have b := q.le; exact ⟨Nat.le_trans a.1 b.1, Nat.le_trans a.2.1 b.2.1, Nat.le_trans a.2.2 b.2.2⟩) ?_
  refine ar_ld i_L_setSymbol_0 rfl rfl ?_
  refine ar_push i_L_setSymbol_2 ?_
  refine ar_ld i_L_setSymbol_3 rfl rfl ?_
  refine ar_ld i_L_setSymbol_4 rfl rfl ?_
  refine ar_ld i_L_setSymbol_5 rfl rfl ?_
  refine ar_ld i_L_setSymbol_6 rfl rfl ?_
  refine ar_callh i_L_setSymbol_7 rfl ⟨_, _, _, rfl, h⟩ (Nat.le_of_ble_eq_true rfl) hc (fun w S1 hq => ?_) (fun E S1 hq => by obtain ⟨h1, -⟩ := hq; cases h1)
  obtain ⟨h1, h2⟩ := hq
  cases h1
  obtain ⟨f, hf⟩ := (hP S1 h2).2
  refine ar_ar i_L_setSymbol_10 rfl ?_
  refine av_stl i_L_setSymbol_11 (j := 0) (by omega) hf (by omega) (by omega) (fun S2 g2 k2 => ?_)
  refine ar_go i_L_setSymbol_12 ?_
  refine ar_push i_L_setSymbol_23 ?_
  exact ar_ret i_L_setSymbol_24 rfl ⟨rfl, S1, h2, k2, _, g2, updL_eq⟩
theorem l_setSymbol_x (d : Nat) {S : aq_S} {hs : Int32} {a0 : Int32} {a1 : Int32} {a2 : Int32} {E : String} {c : Int32} {P : aq_S → Prop} (h : hX S hs) (hP : ∀ S', P S' → aq_le S S') (hE : ([("java/lang/IllegalArgumentException", 1), ("java/lang/IndexOutOfBoundsException", 2)] : List (String × Int32)).lookup E = some c) (hc : aX d 74 [.ref 1, .int a0, .int a1, .int a2] S (fun o S' => o = .inr E ∧ P S')) : aX (d + 1) 219 [.ref 1, .int a0, .int a1, .int a2, .ref 71] S (fun o S' => o = .inl (some (.int c)) ∧ P S') := by
  refine ar_run (Nat.le_of_ble_eq_true rfl) (fun o S1 h => hP S1 h.2) ?_
  refine ar_ld i_L_setSymbol_0 rfl rfl ?_
  refine ar_push i_L_setSymbol_2 ?_
  refine ar_ld i_L_setSymbol_3 rfl rfl ?_
  refine ar_ld i_L_setSymbol_4 rfl rfl ?_
  refine ar_ld i_L_setSymbol_5 rfl rfl ?_
  refine ar_ld i_L_setSymbol_6 rfl rfl ?_
  exact ar_callh i_L_setSymbol_7 rfl ⟨_, _, _, rfl, h⟩ (Nat.le_of_ble_eq_true rfl) hc (fun w S1 hq => by obtain ⟨h1, -⟩ := hq; cases h1) (fun E' S1 hq => by obtain ⟨h1, h2⟩ := hq; cases h1; exact ⟨c, hE, rfl, h2⟩)
theorem l_clear (d : Nat) {S : aq_S} {hs : Int32} {a0 : Int32} {v : Int32} {P : aq_S → Prop} (h : hX S hs) (hP : ∀ S', P S' → aq_le S S' ∧ oA S') (hc : aX d 75 [.ref 1, .int a0] S (fun o S' => o = .inl (some (.int v)) ∧ P S')) : aX (d + 1) 220 [.ref 1, .int a0, .ref 71] S (fun o S' => o = .inl (some (.int 0)) ∧ ∃ S1, P S1 ∧ aq_fr S1 S' (fun q => q = 71) ∧ oV S' v.toInt64) := by
  refine ar_run (Nat.le_of_ble_eq_true rfl) (fun o S1 h => by obtain ⟨-, S2, p, q, -⟩ := h; have a := (hP S2 p).1; have b := q.le; exact ⟨Nat.le_trans a.1 b.1, Nat.le_trans a.2.1 b.2.1, Nat.le_trans a.2.2 b.2.2⟩) ?_
  refine ar_ld i_L_clear_0 rfl rfl ?_
  refine ar_push i_L_clear_1 ?_
  refine ar_ld i_L_clear_2 rfl rfl ?_
  refine ar_ld i_L_clear_3 rfl rfl ?_
  refine ar_callh i_L_clear_4 rfl ⟨_, _, _, rfl, h⟩ (Nat.le_of_ble_eq_true rfl) hc (fun w S1 hq => ?_) (fun E S1 hq => by obtain ⟨h1, -⟩ := hq; cases h1)
  obtain ⟨h1, h2⟩ := hq
  cases h1
  obtain ⟨f, hf⟩ := (hP S1 h2).2
  refine ar_ar i_L_clear_7 rfl ?_
  refine av_stl i_L_clear_8 (j := 0) (by omega) hf (by omega) (by omega) (fun S2 g2 k2 => ?_)
  refine ar_go i_L_clear_9 ?_
  refine ar_push i_L_clear_15 ?_
  exact ar_ret i_L_clear_16 rfl ⟨rfl, S1, h2, k2, _, g2, updL_eq⟩
theorem l_clear_x (d : Nat) {S : aq_S} {hs : Int32} {a0 : Int32} {E : String} {c : Int32} {P : aq_S → Prop} (h : hX S hs) (hP : ∀ S', P S' → aq_le S S') (hE : ([("java/lang/IllegalArgumentException", 1)] : List (String × Int32)).lookup E = some c) (hc : aX d 75 [.ref 1, .int a0] S (fun o S' => o = .inr E ∧ P S')) : aX (d + 1) 220 [.ref 1, .int a0, .ref 71] S (fun o S' => o = .inl (some (.int c)) ∧ P S') := by
  refine ar_run (Nat.le_of_ble_eq_true rfl) (fun o S1 h => hP S1 h.2) ?_
  refine ar_ld i_L_clear_0 rfl rfl ?_
  refine ar_push i_L_clear_1 ?_
  refine ar_ld i_L_clear_2 rfl rfl ?_
  refine ar_ld i_L_clear_3 rfl rfl ?_
  exact ar_callh i_L_clear_4 rfl ⟨_, _, _, rfl, h⟩ (Nat.le_of_ble_eq_true rfl) hc (fun w S1 hq => by obtain ⟨h1, -⟩ := hq; cases h1) (fun E' S1 hq => by obtain ⟨h1, h2⟩ := hq; cases h1; exact ⟨c, hE, rfl, h2⟩)
theorem l_concatenate (d : Nat) {S : aq_S} {hs : Int32} {a0 : Int32} {a1 : Int32} {v : Int32} {P : aq_S → Prop} (h : hX S hs) (hP : ∀ S', P S' → aq_le S S' ∧ oA S') (hc : aX d 76 [.ref 1, .int a0, .int a1] S (fun o S' => o = .inl (some (.int v)) ∧ P S')) : aX (d + 1) 221 [.ref 1, .int a0, .int a1, .ref 71] S (fun o S' => o = .inl (some (.int 0)) ∧ ∃ S1, P S1 ∧ aq_fr S1 S' (fun q => q = 71) ∧ oV S' v.toInt64) := by
  refine ar_run (Nat.le_of_ble_eq_true rfl) (fun o S1 h => by obtain ⟨-, S2, p, q, -⟩ := h; have a := (hP S2 p).1; have b := q.le; exact ⟨Nat.le_trans a.1 b.1, Nat.le_trans a.2.1 b.2.1, Nat.le_trans a.2.2 b.2.2⟩) ?_
  refine ar_ld i_L_concatenate_0 rfl rfl ?_
  refine ar_push i_L_concatenate_1 ?_
  refine ar_ld i_L_concatenate_2 rfl rfl ?_
  refine ar_ld i_L_concatenate_3 rfl rfl ?_
  refine ar_ld i_L_concatenate_4 rfl rfl ?_
  refine ar_callh i_L_concatenate_5 rfl ⟨_, _, _, rfl, h⟩ (Nat.le_of_ble_eq_true rfl) hc (fun w S1 hq => ?_) (fun E S1 hq => by obtain ⟨h1, -⟩ := hq; cases h1)
  obtain ⟨h1, h2⟩ := hq
  cases h1
  obtain ⟨f, hf⟩ := (hP S1 h2).2
  refine ar_ar i_L_concatenate_8 rfl ?_
  refine av_stl i_L_concatenate_9 (j := 0) (by omega) hf (by omega) (by omega) (fun S2 g2 k2 => ?_)
  refine ar_go i_L_concatenate_10 ?_
  refine ar_push i_L_concatenate_21 ?_
  exact ar_ret i_L_concatenate_22 rfl ⟨rfl, S1, h2, k2, _, g2, updL_eq⟩
theorem l_concatenate_x (d : Nat) {S : aq_S} {hs : Int32} {a0 : Int32} {a1 : Int32} {E : String} {c : Int32} {P : aq_S → Prop} (h : hX S hs) (hP : ∀ S', P S' → aq_le S S') (hE : ([("java/lang/IllegalArgumentException", 1), ("java/lang/IllegalStateException", 2)] : List (String × Int32)).lookup E = some c) (hc : aX d 76 [.ref 1, .int a0, .int a1] S (fun o S' => o = .inr E ∧ P S')) : aX (d + 1) 221 [.ref 1, .int a0, .int a1, .ref 71] S (fun o S' => o = .inl (some (.int c)) ∧ P S') := by
  refine ar_run (Nat.le_of_ble_eq_true rfl) (fun o S1 h => hP S1 h.2) ?_
  refine ar_ld i_L_concatenate_0 rfl rfl ?_
  refine ar_push i_L_concatenate_1 ?_
  refine ar_ld i_L_concatenate_2 rfl rfl ?_
  refine ar_ld i_L_concatenate_3 rfl rfl ?_
  refine ar_ld i_L_concatenate_4 rfl rfl ?_
  exact ar_callh i_L_concatenate_5 rfl ⟨_, _, _, rfl, h⟩ (Nat.le_of_ble_eq_true rfl) hc (fun w S1 hq => by obtain ⟨h1, -⟩ := hq; cases h1) (fun E' S1 hq => by obtain ⟨h1, h2⟩ := hq; cases h1; exact ⟨c, hE, rfl, h2⟩)
theorem l_reverse (d : Nat) {S : aq_S} {hs : Int32} {a0 : Int32} {v : Int32} {P : aq_S → Prop} (h : hX S hs) (hP : ∀ S', P S' → aq_le S S' ∧ oA S') (hc : aX d 77 [.ref 1, .int a0] S (fun o S' => o = .inl (some (.int v)) ∧ P S')) : aX (d + 1) 222 [.ref 1, .int a0, .ref 71] S (fun o S' => o = .inl (some (.int 0)) ∧ ∃ S1, P S1 ∧ aq_fr S1 S' (fun q => q = 71) ∧ oV S' (if v = 0 then 0 else 1)) := by
  refine ar_run (Nat.le_of_ble_eq_true rfl) (fun o S1 h => by obtain ⟨-, S2, p, q, -⟩ := h; have a := (hP S2 p).1; have b := q.le; exact ⟨Nat.le_trans a.1 b.1, Nat.le_trans a.2.1 b.2.1, Nat.le_trans a.2.2 b.2.2⟩) ?_
  refine ar_ld i_L_reverse_0 rfl rfl ?_
  refine ar_push i_L_reverse_1 ?_
  refine ar_ld i_L_reverse_2 rfl rfl ?_
  refine ar_ld i_L_reverse_3 rfl rfl ?_
  refine ar_callh i_L_reverse_4 rfl ⟨_, _, _, rfl, h⟩ (Nat.le_of_ble_eq_true rfl) hc (fun w S1 hq => ?_) (fun E S1 hq => by obtain ⟨h1, -⟩ := hq; cases h1)
  obtain ⟨h1, h2⟩ := hq
  cases h1
  obtain ⟨f, hf⟩ := (hP S1 h2).2
  by_cases hv : v = 0
  · refine ar_ift i_L_reverse_7 rfl (hv) ?_
    refine ar_push i_L_reverse_14 ?_
    refine av_stl i_L_reverse_15 (j := 0) (by omega) hf (by omega) (by omega) (fun S2 g2 k2 => ?_)
    refine ar_go i_L_reverse_16 ?_
    refine ar_push i_L_reverse_22 ?_
    exact ar_ret i_L_reverse_23 rfl ⟨rfl, S1, h2, k2, _, g2, by rw [updL_eq, if_pos hv]⟩
  · refine ar_iff i_L_reverse_7 rfl (hv) ?_
    refine ar_push i_L_reverse_10 ?_
    refine ar_go i_L_reverse_11 ?_
    refine av_stl i_L_reverse_15 (j := 0) (by omega) hf (by omega) (by omega) (fun S2 g2 k2 => ?_)
    refine ar_go i_L_reverse_16 ?_
    refine ar_push i_L_reverse_22 ?_
    exact ar_ret i_L_reverse_23 rfl ⟨rfl, S1, h2, k2, _, g2, by rw [updL_eq, if_neg hv]⟩
theorem l_reverse_x (d : Nat) {S : aq_S} {hs : Int32} {a0 : Int32} {E : String} {c : Int32} {P : aq_S → Prop} (h : hX S hs) (hP : ∀ S', P S' → aq_le S S') (hE : ([("java/lang/IllegalArgumentException", 1)] : List (String × Int32)).lookup E = some c) (hc : aX d 77 [.ref 1, .int a0] S (fun o S' => o = .inr E ∧ P S')) : aX (d + 1) 222 [.ref 1, .int a0, .ref 71] S (fun o S' => o = .inl (some (.int c)) ∧ P S') := by
  refine ar_run (Nat.le_of_ble_eq_true rfl) (fun o S1 h => hP S1 h.2) ?_
  refine ar_ld i_L_reverse_0 rfl rfl ?_
  refine ar_push i_L_reverse_1 ?_
  refine ar_ld i_L_reverse_2 rfl rfl ?_
  refine ar_ld i_L_reverse_3 rfl rfl ?_
  exact ar_callh i_L_reverse_4 rfl ⟨_, _, _, rfl, h⟩ (Nat.le_of_ble_eq_true rfl) hc (fun w S1 hq => by obtain ⟨h1, -⟩ := hq; cases h1) (fun E' S1 hq => by obtain ⟨h1, h2⟩ := hq; cases h1; exact ⟨c, hE, rfl, h2⟩)
theorem l_rotate (d : Nat) {S : aq_S} {hs : Int32} {a0 : Int32} {a1 : Int32} {v : Int32} {P : aq_S → Prop} (h : hX S hs) (hP : ∀ S', P S' → aq_le S S' ∧ oA S') (hc : aX d 78 [.ref 1, .int a0, .int a1] S (fun o S' => o = .inl (some (.int v)) ∧ P S')) : aX (d + 1) 223 [.ref 1, .int a0, .int a1, .ref 71] S (fun o S' => o = .inl (some (.int 0)) ∧ ∃ S1, P S1 ∧ aq_fr S1 S' (fun q => q = 71) ∧ oV S' (if v = 0 then 0 else 1)) := by
  refine ar_run (Nat.le_of_ble_eq_true rfl) (fun o S1 h => by obtain ⟨-, S2, p, q, -⟩ := h; have a := (hP S2 p).1; have b := q.le; exact ⟨Nat.le_trans a.1 b.1, Nat.le_trans a.2.1 b.2.1, Nat.le_trans a.2.2 b.2.2⟩) ?_
  refine ar_ld i_L_rotate_0 rfl rfl ?_
  refine ar_push i_L_rotate_1 ?_
  refine ar_ld i_L_rotate_2 rfl rfl ?_
  refine ar_ld i_L_rotate_3 rfl rfl ?_
  refine ar_ld i_L_rotate_4 rfl rfl ?_
  refine ar_callh i_L_rotate_5 rfl ⟨_, _, _, rfl, h⟩ (Nat.le_of_ble_eq_true rfl) hc (fun w S1 hq => ?_) (fun E S1 hq => by obtain ⟨h1, -⟩ := hq; cases h1)
  obtain ⟨h1, h2⟩ := hq
  cases h1
  obtain ⟨f, hf⟩ := (hP S1 h2).2
  by_cases hv : v = 0
  · refine ar_ift i_L_rotate_8 rfl (hv) ?_
    refine ar_push i_L_rotate_15 ?_
    refine av_stl i_L_rotate_16 (j := 0) (by omega) hf (by omega) (by omega) (fun S2 g2 k2 => ?_)
    refine ar_go i_L_rotate_17 ?_
    refine ar_push i_L_rotate_28 ?_
    exact ar_ret i_L_rotate_29 rfl ⟨rfl, S1, h2, k2, _, g2, by rw [updL_eq, if_pos hv]⟩
  · refine ar_iff i_L_rotate_8 rfl (hv) ?_
    refine ar_push i_L_rotate_11 ?_
    refine ar_go i_L_rotate_12 ?_
    refine av_stl i_L_rotate_16 (j := 0) (by omega) hf (by omega) (by omega) (fun S2 g2 k2 => ?_)
    refine ar_go i_L_rotate_17 ?_
    refine ar_push i_L_rotate_28 ?_
    exact ar_ret i_L_rotate_29 rfl ⟨rfl, S1, h2, k2, _, g2, by rw [updL_eq, if_neg hv]⟩
theorem l_rotate_x (d : Nat) {S : aq_S} {hs : Int32} {a0 : Int32} {a1 : Int32} {E : String} {c : Int32} {P : aq_S → Prop} (h : hX S hs) (hP : ∀ S', P S' → aq_le S S') (hE : ([("java/lang/IllegalArgumentException", 1), ("java/lang/IndexOutOfBoundsException", 2)] : List (String × Int32)).lookup E = some c) (hc : aX d 78 [.ref 1, .int a0, .int a1] S (fun o S' => o = .inr E ∧ P S')) : aX (d + 1) 223 [.ref 1, .int a0, .int a1, .ref 71] S (fun o S' => o = .inl (some (.int c)) ∧ P S') := by
  refine ar_run (Nat.le_of_ble_eq_true rfl) (fun o S1 h => hP S1 h.2) ?_
  refine ar_ld i_L_rotate_0 rfl rfl ?_
  refine ar_push i_L_rotate_1 ?_
  refine ar_ld i_L_rotate_2 rfl rfl ?_
  refine ar_ld i_L_rotate_3 rfl rfl ?_
  refine ar_ld i_L_rotate_4 rfl rfl ?_
  exact ar_callh i_L_rotate_5 rfl ⟨_, _, _, rfl, h⟩ (Nat.le_of_ble_eq_true rfl) hc (fun w S1 hq => by obtain ⟨h1, -⟩ := hq; cases h1) (fun E' S1 hq => by obtain ⟨h1, h2⟩ := hq; cases h1; exact ⟨c, hE, rfl, h2⟩)
theorem l_holes (d : Nat) {S : aq_S} {hs : Int32} {a0 : Int32} {v : Int32} {P : aq_S → Prop} (h : hX S hs) (hP : ∀ S', P S' → aq_le S S' ∧ oA S') (hc : aX d 79 [.ref 1, .int a0] S (fun o S' => o = .inl (some (.int v)) ∧ P S')) : aX (d + 1) 224 [.ref 1, .int a0, .ref 71] S (fun o S' => o = .inl (some (.int 0)) ∧ ∃ S1, P S1 ∧ aq_fr S1 S' (fun q => q = 71) ∧ oV S' v.toInt64) := by
  refine ar_run (Nat.le_of_ble_eq_true rfl) (fun o S1 h => by obtain ⟨-, S2, p, q, -⟩ := h; have a := (hP S2 p).1; have b := q.le; exact ⟨Nat.le_trans a.1 b.1, Nat.le_trans a.2.1 b.2.1, Nat.le_trans a.2.2 b.2.2⟩) ?_
  refine ar_ld i_L_holes_0 rfl rfl ?_
  refine ar_push i_L_holes_1 ?_
  refine ar_ld i_L_holes_2 rfl rfl ?_
  refine ar_ld i_L_holes_3 rfl rfl ?_
  refine ar_callh i_L_holes_4 rfl ⟨_, _, _, rfl, h⟩ (Nat.le_of_ble_eq_true rfl) hc (fun w S1 hq => ?_) (fun E S1 hq => by obtain ⟨h1, -⟩ := hq; cases h1)
  obtain ⟨h1, h2⟩ := hq
  cases h1
  obtain ⟨f, hf⟩ := (hP S1 h2).2
  refine ar_ar i_L_holes_7 rfl ?_
  refine av_stl i_L_holes_8 (j := 0) (by omega) hf (by omega) (by omega) (fun S2 g2 k2 => ?_)
  refine ar_go i_L_holes_9 ?_
  refine ar_push i_L_holes_15 ?_
  exact ar_ret i_L_holes_16 rfl ⟨rfl, S1, h2, k2, _, g2, updL_eq⟩
theorem l_holes_x (d : Nat) {S : aq_S} {hs : Int32} {a0 : Int32} {E : String} {c : Int32} {P : aq_S → Prop} (h : hX S hs) (hP : ∀ S', P S' → aq_le S S') (hE : ([("java/lang/IllegalArgumentException", 1)] : List (String × Int32)).lookup E = some c) (hc : aX d 79 [.ref 1, .int a0] S (fun o S' => o = .inr E ∧ P S')) : aX (d + 1) 224 [.ref 1, .int a0, .ref 71] S (fun o S' => o = .inl (some (.int c)) ∧ P S') := by
  refine ar_run (Nat.le_of_ble_eq_true rfl) (fun o S1 h => hP S1 h.2) ?_
  refine ar_ld i_L_holes_0 rfl rfl ?_
  refine ar_push i_L_holes_1 ?_
  refine ar_ld i_L_holes_2 rfl rfl ?_
  refine ar_ld i_L_holes_3 rfl rfl ?_
  exact ar_callh i_L_holes_4 rfl ⟨_, _, _, rfl, h⟩ (Nat.le_of_ble_eq_true rfl) hc (fun w S1 hq => by obtain ⟨h1, -⟩ := hq; cases h1) (fun E' S1 hq => by obtain ⟨h1, h2⟩ := hq; cases h1; exact ⟨c, hE, rfl, h2⟩)
theorem l_isCompatible (d : Nat) {S : aq_S} {hs : Int32} {a0 : Int32} {a1 : Int32} {v : Int32} {P : aq_S → Prop} (h : hX S hs) (hP : ∀ S', P S' → aq_le S S' ∧ oA S') (hc : aX d 80 [.ref 1, .int a0, .int a1] S (fun o S' => o = .inl (some (.int v)) ∧ P S')) : aX (d + 1) 225 [.ref 1, .int a0, .int a1, .ref 71] S (fun o S' => o = .inl (some (.int 0)) ∧ ∃ S1, P S1 ∧ aq_fr S1 S' (fun q => q = 71) ∧ oV S' (if v = 0 then 0 else 1)) := by
  refine ar_run (Nat.le_of_ble_eq_true rfl) (fun o S1 h => by obtain ⟨-, S2, p, q, -⟩ := h; have a := (hP S2 p).1; have b := q.le; exact ⟨Nat.le_trans a.1 b.1, Nat.le_trans a.2.1 b.2.1, Nat.le_trans a.2.2 b.2.2⟩) ?_
  refine ar_ld i_L_isCompatible_0 rfl rfl ?_
  refine ar_push i_L_isCompatible_1 ?_
  refine ar_ld i_L_isCompatible_2 rfl rfl ?_
  refine ar_ld i_L_isCompatible_3 rfl rfl ?_
  refine ar_ld i_L_isCompatible_4 rfl rfl ?_
  refine ar_callh i_L_isCompatible_5 rfl ⟨_, _, _, rfl, h⟩ (Nat.le_of_ble_eq_true rfl) hc (fun w S1 hq => ?_) (fun E S1 hq => by obtain ⟨h1, -⟩ := hq; cases h1)
  obtain ⟨h1, h2⟩ := hq
  cases h1
  obtain ⟨f, hf⟩ := (hP S1 h2).2
  by_cases hv : v = 0
  · refine ar_ift i_L_isCompatible_8 rfl (hv) ?_
    refine ar_push i_L_isCompatible_15 ?_
    refine av_stl i_L_isCompatible_16 (j := 0) (by omega) hf (by omega) (by omega) (fun S2 g2 k2 => ?_)
    refine ar_go i_L_isCompatible_17 ?_
    refine ar_push i_L_isCompatible_24 ?_
    exact ar_ret i_L_isCompatible_25 rfl ⟨rfl, S1, h2, k2, _, g2, by rw [updL_eq, if_pos hv]⟩
  · refine ar_iff i_L_isCompatible_8 rfl (hv) ?_
    refine ar_push i_L_isCompatible_11 ?_
    refine ar_go i_L_isCompatible_12 ?_
    refine av_stl i_L_isCompatible_16 (j := 0) (by omega) hf (by omega) (by omega) (fun S2 g2 k2 => ?_)
    refine ar_go i_L_isCompatible_17 ?_
    refine ar_push i_L_isCompatible_24 ?_
    exact ar_ret i_L_isCompatible_25 rfl ⟨rfl, S1, h2, k2, _, g2, by rw [updL_eq, if_neg hv]⟩
theorem l_isCompatible_x (d : Nat) {S : aq_S} {hs : Int32} {a0 : Int32} {a1 : Int32} {E : String} {c : Int32} {P : aq_S → Prop} (h : hX S hs) (hP : ∀ S', P S' → aq_le S S') (hE : ([("java/lang/IllegalArgumentException", 1)] : List (String × Int32)).lookup E = some c) (hc : aX d 80 [.ref 1, .int a0, .int a1] S (fun o S' => o = .inr E ∧ P S')) : aX (d + 1) 225 [.ref 1, .int a0, .int a1, .ref 71] S (fun o S' => o = .inl (some (.int c)) ∧ P S') := by
  refine ar_run (Nat.le_of_ble_eq_true rfl) (fun o S1 h => hP S1 h.2) ?_
  refine ar_ld i_L_isCompatible_0 rfl rfl ?_
  refine ar_push i_L_isCompatible_1 ?_
  refine ar_ld i_L_isCompatible_2 rfl rfl ?_
  refine ar_ld i_L_isCompatible_3 rfl rfl ?_
  refine ar_ld i_L_isCompatible_4 rfl rfl ?_
  exact ar_callh i_L_isCompatible_5 rfl ⟨_, _, _, rfl, h⟩ (Nat.le_of_ble_eq_true rfl) hc (fun w S1 hq => by obtain ⟨h1, -⟩ := hq; cases h1) (fun E' S1 hq => by obtain ⟨h1, h2⟩ := hq; cases h1; exact ⟨c, hE, rfl, h2⟩)
theorem l_isContained (d : Nat) {S : aq_S} {hs : Int32} {a0 : Int32} {a1 : Int32} {v : Int32} {P : aq_S → Prop} (h : hX S hs) (hP : ∀ S', P S' → aq_le S S' ∧ oA S') (hc : aX d 81 [.ref 1, .int a0, .int a1] S (fun o S' => o = .inl (some (.int v)) ∧ P S')) : aX (d + 1) 226 [.ref 1, .int a0, .int a1, .ref 71] S (fun o S' => o = .inl (some (.int 0)) ∧ ∃ S1, P S1 ∧ aq_fr S1 S' (fun q => q = 71) ∧ oV S' (if v = 0 then 0 else 1)) := by
  refine ar_run (Nat.le_of_ble_eq_true rfl) (fun o S1 h => by obtain ⟨-, S2, p, q, -⟩ := h; have a := (hP S2 p).1; have b := q.le; exact ⟨Nat.le_trans a.1 b.1, Nat.le_trans a.2.1 b.2.1, Nat.le_trans a.2.2 b.2.2⟩) ?_
  refine ar_ld i_L_isContained_0 rfl rfl ?_
  refine ar_push i_L_isContained_1 ?_
  refine ar_ld i_L_isContained_2 rfl rfl ?_
  refine ar_ld i_L_isContained_3 rfl rfl ?_
  refine ar_ld i_L_isContained_4 rfl rfl ?_
  refine ar_callh i_L_isContained_5 rfl ⟨_, _, _, rfl, h⟩ (Nat.le_of_ble_eq_true rfl) hc (fun w S1 hq => ?_) (fun E S1 hq => by obtain ⟨h1, -⟩ := hq; cases h1)
  obtain ⟨h1, h2⟩ := hq
  cases h1
  obtain ⟨f, hf⟩ := (hP S1 h2).2
  by_cases hv : v = 0
  · refine ar_ift i_L_isContained_8 rfl (hv) ?_
    refine ar_push i_L_isContained_15 ?_
    refine av_stl i_L_isContained_16 (j := 0) (by omega) hf (by omega) (by omega) (fun S2 g2 k2 => ?_)
    refine ar_go i_L_isContained_17 ?_
    refine ar_push i_L_isContained_24 ?_
    exact ar_ret i_L_isContained_25 rfl ⟨rfl, S1, h2, k2, _, g2, by rw [updL_eq, if_pos hv]⟩
  · refine ar_iff i_L_isContained_8 rfl (hv) ?_
    refine ar_push i_L_isContained_11 ?_
    refine ar_go i_L_isContained_12 ?_
    refine av_stl i_L_isContained_16 (j := 0) (by omega) hf (by omega) (by omega) (fun S2 g2 k2 => ?_)
    refine ar_go i_L_isContained_17 ?_
    refine ar_push i_L_isContained_24 ?_
    exact ar_ret i_L_isContained_25 rfl ⟨rfl, S1, h2, k2, _, g2, by rw [updL_eq, if_neg hv]⟩
theorem l_isContained_x (d : Nat) {S : aq_S} {hs : Int32} {a0 : Int32} {a1 : Int32} {E : String} {c : Int32} {P : aq_S → Prop} (h : hX S hs) (hP : ∀ S', P S' → aq_le S S') (hE : ([("java/lang/IllegalArgumentException", 1)] : List (String × Int32)).lookup E = some c) (hc : aX d 81 [.ref 1, .int a0, .int a1] S (fun o S' => o = .inr E ∧ P S')) : aX (d + 1) 226 [.ref 1, .int a0, .int a1, .ref 71] S (fun o S' => o = .inl (some (.int c)) ∧ P S') := by
  refine ar_run (Nat.le_of_ble_eq_true rfl) (fun o S1 h => hP S1 h.2) ?_
  refine ar_ld i_L_isContained_0 rfl rfl ?_
  refine ar_push i_L_isContained_1 ?_
  refine ar_ld i_L_isContained_2 rfl rfl ?_
  refine ar_ld i_L_isContained_3 rfl rfl ?_
  refine ar_ld i_L_isContained_4 rfl rfl ?_
  exact ar_callh i_L_isContained_5 rfl ⟨_, _, _, rfl, h⟩ (Nat.le_of_ble_eq_true rfl) hc (fun w S1 hq => by obtain ⟨h1, -⟩ := hq; cases h1) (fun E' S1 hq => by obtain ⟨h1, h2⟩ := hq; cases h1; exact ⟨c, hE, rfl, h2⟩)
theorem l_conflict (d : Nat) {S : aq_S} {hs : Int32} {a0 : Int32} {a1 : Int32} {v : Int32} {P : aq_S → Prop} (h : hX S hs) (hP : ∀ S', P S' → aq_le S S' ∧ oA S') (hc : aX d 82 [.ref 1, .int a0, .int a1] S (fun o S' => o = .inl (some (.int v)) ∧ P S')) : aX (d + 1) 227 [.ref 1, .int a0, .int a1, .ref 71] S (fun o S' => o = .inl (some (.int 0)) ∧ ∃ S1, P S1 ∧ aq_fr S1 S' (fun q => q = 71) ∧ oV S' v.toInt64) := by
  refine ar_run (Nat.le_of_ble_eq_true rfl) (fun o S1 h => by obtain ⟨-, S2, p, q, -⟩ := h; have a := (hP S2 p).1; have b := q.le; exact ⟨Nat.le_trans a.1 b.1, Nat.le_trans a.2.1 b.2.1, Nat.le_trans a.2.2 b.2.2⟩) ?_
  refine ar_ld i_L_conflict_0 rfl rfl ?_
  refine ar_push i_L_conflict_1 ?_
  refine ar_ld i_L_conflict_2 rfl rfl ?_
  refine ar_ld i_L_conflict_3 rfl rfl ?_
  refine ar_ld i_L_conflict_4 rfl rfl ?_
  refine ar_callh i_L_conflict_5 rfl ⟨_, _, _, rfl, h⟩ (Nat.le_of_ble_eq_true rfl) hc (fun w S1 hq => ?_) (fun E S1 hq => by obtain ⟨h1, -⟩ := hq; cases h1)
  obtain ⟨h1, h2⟩ := hq
  cases h1
  obtain ⟨f, hf⟩ := (hP S1 h2).2
  refine ar_ar i_L_conflict_8 rfl ?_
  refine av_stl i_L_conflict_9 (j := 0) (by omega) hf (by omega) (by omega) (fun S2 g2 k2 => ?_)
  refine ar_go i_L_conflict_10 ?_
  refine ar_push i_L_conflict_21 ?_
  exact ar_ret i_L_conflict_22 rfl ⟨rfl, S1, h2, k2, _, g2, updL_eq⟩
theorem l_conflict_x (d : Nat) {S : aq_S} {hs : Int32} {a0 : Int32} {a1 : Int32} {E : String} {c : Int32} {P : aq_S → Prop} (h : hX S hs) (hP : ∀ S', P S' → aq_le S S') (hE : ([("java/lang/IllegalArgumentException", 1), ("java/lang/IllegalStateException", 2)] : List (String × Int32)).lookup E = some c) (hc : aX d 82 [.ref 1, .int a0, .int a1] S (fun o S' => o = .inr E ∧ P S')) : aX (d + 1) 227 [.ref 1, .int a0, .int a1, .ref 71] S (fun o S' => o = .inl (some (.int c)) ∧ P S') := by
  refine ar_run (Nat.le_of_ble_eq_true rfl) (fun o S1 h => hP S1 h.2) ?_
  refine ar_ld i_L_conflict_0 rfl rfl ?_
  refine ar_push i_L_conflict_1 ?_
  refine ar_ld i_L_conflict_2 rfl rfl ?_
  refine ar_ld i_L_conflict_3 rfl rfl ?_
  refine ar_ld i_L_conflict_4 rfl rfl ?_
  exact ar_callh i_L_conflict_5 rfl ⟨_, _, _, rfl, h⟩ (Nat.le_of_ble_eq_true rfl) hc (fun w S1 hq => by obtain ⟨h1, -⟩ := hq; cases h1) (fun E' S1 hq => by obtain ⟨h1, h2⟩ := hq; cases h1; exact ⟨c, hE, rfl, h2⟩)
theorem l_join (d : Nat) {S : aq_S} {hs : Int32} {a0 : Int32} {a1 : Int32} {a2 : Int32} {v : Int32} {P : aq_S → Prop} (h : hX S hs) (hP : ∀ S', P S' → aq_le S S' ∧ oA S') (hc : aX d 83 [.ref 1, .int a0, .int a1, .int a2] S (fun o S' => o = .inl (some (.int v)) ∧ P S')) : aX (d + 1) 228 [.ref 1, .int a0, .int a1, .int a2, .ref 71] S (fun o S' => o = .inl (some (.int 0)) ∧ ∃ S1, P S1 ∧ aq_fr S1 S' (fun q => q = 71) ∧ oV S' v.toInt64) := by
  refine ar_run (Nat.le_of_ble_eq_true rfl) (fun o S1 h => by obtain ⟨-, S2, p, q, -⟩ := h; have a := (hP S2 p).1; have b := q.le; exact ⟨Nat.le_trans a.1 b.1, Nat.le_trans a.2.1 b.2.1, Nat.le_trans a.2.2 b.2.2⟩) ?_
  refine ar_ld i_L_join_0 rfl rfl ?_
  refine ar_push i_L_join_2 ?_
  refine ar_ld i_L_join_3 rfl rfl ?_
  refine ar_ld i_L_join_4 rfl rfl ?_
  refine ar_ld i_L_join_5 rfl rfl ?_
  refine ar_ld i_L_join_6 rfl rfl ?_
  refine ar_callh i_L_join_7 rfl ⟨_, _, _, rfl, h⟩ (Nat.le_of_ble_eq_true rfl) hc (fun w S1 hq => ?_) (fun E S1 hq => by obtain ⟨h1, -⟩ := hq; cases h1)
  obtain ⟨h1, h2⟩ := hq
  cases h1
  obtain ⟨f, hf⟩ := (hP S1 h2).2
  refine ar_ar i_L_join_10 rfl ?_
  refine av_stl i_L_join_11 (j := 0) (by omega) hf (by omega) (by omega) (fun S2 g2 k2 => ?_)
  refine ar_go i_L_join_12 ?_
  refine ar_push i_L_join_23 ?_
  exact ar_ret i_L_join_24 rfl ⟨rfl, S1, h2, k2, _, g2, updL_eq⟩
theorem l_join_x (d : Nat) {S : aq_S} {hs : Int32} {a0 : Int32} {a1 : Int32} {a2 : Int32} {E : String} {c : Int32} {P : aq_S → Prop} (h : hX S hs) (hP : ∀ S', P S' → aq_le S S') (hE : ([("java/lang/IllegalArgumentException", 1), ("java/lang/IllegalStateException", 2)] : List (String × Int32)).lookup E = some c) (hc : aX d 83 [.ref 1, .int a0, .int a1, .int a2] S (fun o S' => o = .inr E ∧ P S')) : aX (d + 1) 228 [.ref 1, .int a0, .int a1, .int a2, .ref 71] S (fun o S' => o = .inl (some (.int c)) ∧ P S') := by
  refine ar_run (Nat.le_of_ble_eq_true rfl) (fun o S1 h => hP S1 h.2) ?_
  refine ar_ld i_L_join_0 rfl rfl ?_
  refine ar_push i_L_join_2 ?_
  refine ar_ld i_L_join_3 rfl rfl ?_
  refine ar_ld i_L_join_4 rfl rfl ?_
  refine ar_ld i_L_join_5 rfl rfl ?_
  refine ar_ld i_L_join_6 rfl rfl ?_
  exact ar_callh i_L_join_7 rfl ⟨_, _, _, rfl, h⟩ (Nat.le_of_ble_eq_true rfl) hc (fun w S1 hq => by obtain ⟨h1, -⟩ := hq; cases h1) (fun E' S1 hq => by obtain ⟨h1, h2⟩ := hq; cases h1; exact ⟨c, hE, rfl, h2⟩)
theorem l_isPeriod (d : Nat) {S : aq_S} {hs : Int32} {a0 : Int32} {a1 : Int32} {a2 : Int32} {v : Int32} {P : aq_S → Prop} (h : hX S hs) (hP : ∀ S', P S' → aq_le S S' ∧ oA S') (hc : aX d 84 [.ref 1, .int a0, .int a1, .int a2] S (fun o S' => o = .inl (some (.int v)) ∧ P S')) : aX (d + 1) 229 [.ref 1, .int a0, .int a1, .int a2, .ref 71] S (fun o S' => o = .inl (some (.int 0)) ∧ ∃ S1, P S1 ∧ aq_fr S1 S' (fun q => q = 71) ∧ oV S' (if v = 0 then 0 else 1)) := by
  refine ar_run (Nat.le_of_ble_eq_true rfl) (fun o S1 h => by obtain ⟨-, S2, p, q, -⟩ := h; have a := (hP S2 p).1; have b := q.le; exact ⟨Nat.le_trans a.1 b.1, Nat.le_trans a.2.1 b.2.1, Nat.le_trans a.2.2 b.2.2⟩) ?_
  refine ar_ld i_L_isPeriod_0 rfl rfl ?_
  refine ar_push i_L_isPeriod_2 ?_
  refine ar_ld i_L_isPeriod_3 rfl rfl ?_
  refine ar_ld i_L_isPeriod_4 rfl rfl ?_
  refine ar_ld i_L_isPeriod_5 rfl rfl ?_
  refine ar_ld i_L_isPeriod_6 rfl rfl ?_
  refine ar_callh i_L_isPeriod_7 rfl ⟨_, _, _, rfl, h⟩ (Nat.le_of_ble_eq_true rfl) hc (fun w S1 hq => ?_) (fun E S1 hq => by obtain ⟨h1, -⟩ := hq; cases h1)
  obtain ⟨h1, h2⟩ := hq
  cases h1
  obtain ⟨f, hf⟩ := (hP S1 h2).2
  by_cases hv : v = 0
  · refine ar_ift i_L_isPeriod_10 rfl (hv) ?_
    refine ar_push i_L_isPeriod_17 ?_
    refine av_stl i_L_isPeriod_18 (j := 0) (by omega) hf (by omega) (by omega) (fun S2 g2 k2 => ?_)
    refine ar_go i_L_isPeriod_19 ?_
    refine ar_push i_L_isPeriod_26 ?_
    exact ar_ret i_L_isPeriod_27 rfl ⟨rfl, S1, h2, k2, _, g2, by rw [updL_eq, if_pos hv]⟩
  · refine ar_iff i_L_isPeriod_10 rfl (hv) ?_
    refine ar_push i_L_isPeriod_13 ?_
    refine ar_go i_L_isPeriod_14 ?_
    refine av_stl i_L_isPeriod_18 (j := 0) (by omega) hf (by omega) (by omega) (fun S2 g2 k2 => ?_)
    refine ar_go i_L_isPeriod_19 ?_
    refine ar_push i_L_isPeriod_26 ?_
    exact ar_ret i_L_isPeriod_27 rfl ⟨rfl, S1, h2, k2, _, g2, by rw [updL_eq, if_neg hv]⟩
theorem l_isPeriod_x (d : Nat) {S : aq_S} {hs : Int32} {a0 : Int32} {a1 : Int32} {a2 : Int32} {E : String} {c : Int32} {P : aq_S → Prop} (h : hX S hs) (hP : ∀ S', P S' → aq_le S S') (hE : ([("java/lang/IllegalArgumentException", 1)] : List (String × Int32)).lookup E = some c) (hc : aX d 84 [.ref 1, .int a0, .int a1, .int a2] S (fun o S' => o = .inr E ∧ P S')) : aX (d + 1) 229 [.ref 1, .int a0, .int a1, .int a2, .ref 71] S (fun o S' => o = .inl (some (.int c)) ∧ P S') := by
  refine ar_run (Nat.le_of_ble_eq_true rfl) (fun o S1 h => hP S1 h.2) ?_
  refine ar_ld i_L_isPeriod_0 rfl rfl ?_
  refine ar_push i_L_isPeriod_2 ?_
  refine ar_ld i_L_isPeriod_3 rfl rfl ?_
  refine ar_ld i_L_isPeriod_4 rfl rfl ?_
  refine ar_ld i_L_isPeriod_5 rfl rfl ?_
  refine ar_ld i_L_isPeriod_6 rfl rfl ?_
  exact ar_callh i_L_isPeriod_7 rfl ⟨_, _, _, rfl, h⟩ (Nat.le_of_ble_eq_true rfl) hc (fun w S1 hq => by obtain ⟨h1, -⟩ := hq; cases h1) (fun E' S1 hq => by obtain ⟨h1, h2⟩ := hq; cases h1; exact ⟨c, hE, rfl, h2⟩)
theorem l_smallestPeriod (d : Nat) {S : aq_S} {hs : Int32} {a0 : Int32} {a1 : Int32} {v : Int32} {P : aq_S → Prop} (h : hX S hs) (hP : ∀ S', P S' → aq_le S S' ∧ oA S') (hc : aX d 85 [.ref 1, .int a0, .int a1] S (fun o S' => o = .inl (some (.int v)) ∧ P S')) : aX (d + 1) 230 [.ref 1, .int a0, .int a1, .ref 71] S (fun o S' => o = .inl (some (.int 0)) ∧ ∃ S1, P S1 ∧ aq_fr S1 S' (fun q => q = 71) ∧ oV S' v.toInt64) := by
  refine ar_run (Nat.le_of_ble_eq_true rfl) (fun o S1 h => by obtain ⟨-, S2, p, q, -⟩ := h; have a := (hP S2 p).1; have b := q.le; exact ⟨Nat.le_trans a.1 b.1, Nat.le_trans a.2.1 b.2.1, Nat.le_trans a.2.2 b.2.2⟩) ?_
  refine ar_ld i_L_smallestPeriod_0 rfl rfl ?_
  refine ar_push i_L_smallestPeriod_1 ?_
  refine ar_ld i_L_smallestPeriod_2 rfl rfl ?_
  refine ar_ld i_L_smallestPeriod_3 rfl rfl ?_
  refine ar_ld i_L_smallestPeriod_4 rfl rfl ?_
  refine ar_callh i_L_smallestPeriod_5 rfl ⟨_, _, _, rfl, h⟩ (Nat.le_of_ble_eq_true rfl) hc (fun w S1 hq => ?_) (fun E S1 hq => by obtain ⟨h1, -⟩ := hq; cases h1)
  obtain ⟨h1, h2⟩ := hq
  cases h1
  obtain ⟨f, hf⟩ := (hP S1 h2).2
  refine ar_ar i_L_smallestPeriod_8 rfl ?_
  refine av_stl i_L_smallestPeriod_9 (j := 0) (by omega) hf (by omega) (by omega) (fun S2 g2 k2 => ?_)
  refine ar_go i_L_smallestPeriod_10 ?_
  refine ar_push i_L_smallestPeriod_21 ?_
  exact ar_ret i_L_smallestPeriod_22 rfl ⟨rfl, S1, h2, k2, _, g2, updL_eq⟩
theorem l_smallestPeriod_x (d : Nat) {S : aq_S} {hs : Int32} {a0 : Int32} {a1 : Int32} {E : String} {c : Int32} {P : aq_S → Prop} (h : hX S hs) (hP : ∀ S', P S' → aq_le S S') (hE : ([("java/lang/IllegalArgumentException", 1), ("java/util/NoSuchElementException", 2)] : List (String × Int32)).lookup E = some c) (hc : aX d 85 [.ref 1, .int a0, .int a1] S (fun o S' => o = .inr E ∧ P S')) : aX (d + 1) 230 [.ref 1, .int a0, .int a1, .ref 71] S (fun o S' => o = .inl (some (.int c)) ∧ P S') := by
  refine ar_run (Nat.le_of_ble_eq_true rfl) (fun o S1 h => hP S1 h.2) ?_
  refine ar_ld i_L_smallestPeriod_0 rfl rfl ?_
  refine ar_push i_L_smallestPeriod_1 ?_
  refine ar_ld i_L_smallestPeriod_2 rfl rfl ?_
  refine ar_ld i_L_smallestPeriod_3 rfl rfl ?_
  refine ar_ld i_L_smallestPeriod_4 rfl rfl ?_
  exact ar_callh i_L_smallestPeriod_5 rfl ⟨_, _, _, rfl, h⟩ (Nat.le_of_ble_eq_true rfl) hc (fun w S1 hq => by obtain ⟨h1, -⟩ := hq; cases h1) (fun E' S1 hq => by obtain ⟨h1, h2⟩ := hq; cases h1; exact ⟨c, hE, rfl, h2⟩)
theorem l_periodBound (d : Nat) {S : aq_S} {hs : Int32} {a0 : Int32} {a1 : Int32} {a2 : Int32} {v : Int32} {P : aq_S → Prop} (h : hX S hs) (hP : ∀ S', P S' → aq_le S S' ∧ oA S') (hc : aX d 86 [.ref 1, .int a0, .int a1, .int a2] S (fun o S' => o = .inl (some (.int v)) ∧ P S')) : aX (d + 1) 231 [.ref 1, .int a0, .int a1, .int a2, .ref 71] S (fun o S' => o = .inl (some (.int 0)) ∧ ∃ S1, P S1 ∧ aq_fr S1 S' (fun q => q = 71) ∧ oV S' v.toInt64) := by
  refine ar_run (Nat.le_of_ble_eq_true rfl) (fun o S1 h => by obtain ⟨-, S2, p, q, -⟩ := h; have a := (hP S2 p).1; have b := q.le; exact ⟨Nat.le_trans a.1 b.1, Nat.le_trans a.2.1 b.2.1, Nat.le_trans a.2.2 b.2.2⟩) ?_
  refine ar_ld i_L_periodBound_0 rfl rfl ?_
  refine ar_push i_L_periodBound_2 ?_
  refine ar_ld i_L_periodBound_3 rfl rfl ?_
  refine ar_ld i_L_periodBound_4 rfl rfl ?_
  refine ar_ld i_L_periodBound_5 rfl rfl ?_
  refine ar_ld i_L_periodBound_6 rfl rfl ?_
  refine ar_callh i_L_periodBound_7 rfl ⟨_, _, _, rfl, h⟩ (Nat.le_of_ble_eq_true rfl) hc (fun w S1 hq => ?_) (fun E S1 hq => by obtain ⟨h1, -⟩ := hq; cases h1)
  obtain ⟨h1, h2⟩ := hq
  cases h1
  obtain ⟨f, hf⟩ := (hP S1 h2).2
  refine ar_ar i_L_periodBound_10 rfl ?_
  refine av_stl i_L_periodBound_11 (j := 0) (by omega) hf (by omega) (by omega) (fun S2 g2 k2 => ?_)
  refine ar_go i_L_periodBound_12 ?_
  refine ar_push i_L_periodBound_19 ?_
  exact ar_ret i_L_periodBound_20 rfl ⟨rfl, S1, h2, k2, _, g2, updL_eq⟩
theorem l_periodBound_x (d : Nat) {S : aq_S} {hs : Int32} {a0 : Int32} {a1 : Int32} {a2 : Int32} {E : String} {c : Int32} {P : aq_S → Prop} (h : hX S hs) (hP : ∀ S', P S' → aq_le S S') (hE : ([("java/lang/IllegalArgumentException", 1)] : List (String × Int32)).lookup E = some c) (hc : aX d 86 [.ref 1, .int a0, .int a1, .int a2] S (fun o S' => o = .inr E ∧ P S')) : aX (d + 1) 231 [.ref 1, .int a0, .int a1, .int a2, .ref 71] S (fun o S' => o = .inl (some (.int c)) ∧ P S') := by
  refine ar_run (Nat.le_of_ble_eq_true rfl) (fun o S1 h => hP S1 h.2) ?_
  refine ar_ld i_L_periodBound_0 rfl rfl ?_
  refine ar_push i_L_periodBound_2 ?_
  refine ar_ld i_L_periodBound_3 rfl rfl ?_
  refine ar_ld i_L_periodBound_4 rfl rfl ?_
  refine ar_ld i_L_periodBound_5 rfl rfl ?_
  refine ar_ld i_L_periodBound_6 rfl rfl ?_
  exact ar_callh i_L_periodBound_7 rfl ⟨_, _, _, rfl, h⟩ (Nat.le_of_ble_eq_true rfl) hc (fun w S1 hq => by obtain ⟨h1, -⟩ := hq; cases h1) (fun E' S1 hq => by obtain ⟨h1, h2⟩ := hq; cases h1; exact ⟨c, hE, rfl, h2⟩)
theorem l_longestBorder (d : Nat) {S : aq_S} {hs : Int32} {a0 : Int32} {v : Int32} {P : aq_S → Prop} (h : hX S hs) (hP : ∀ S', P S' → aq_le S S' ∧ oA S') (hc : aX d 87 [.ref 1, .int a0] S (fun o S' => o = .inl (some (.int v)) ∧ P S')) : aX (d + 1) 232 [.ref 1, .int a0, .ref 71] S (fun o S' => o = .inl (some (.int 0)) ∧ ∃ S1, P S1 ∧ aq_fr S1 S' (fun q => q = 71) ∧ oV S' v.toInt64) := by
  refine ar_run (Nat.le_of_ble_eq_true rfl) (fun o S1 h => by obtain ⟨-, S2, p, q, -⟩ := h; have a := (hP S2 p).1; have b := q.le; exact ⟨Nat.le_trans a.1 b.1, Nat.le_trans a.2.1 b.2.1, Nat.le_trans a.2.2 b.2.2⟩) ?_
  refine ar_ld i_L_longestBorder_0 rfl rfl ?_
  refine ar_push i_L_longestBorder_1 ?_
  refine ar_ld i_L_longestBorder_2 rfl rfl ?_
  refine ar_ld i_L_longestBorder_3 rfl rfl ?_
  refine ar_callh i_L_longestBorder_4 rfl ⟨_, _, _, rfl, h⟩ (Nat.le_of_ble_eq_true rfl) hc (fun w S1 hq => ?_) (fun E S1 hq => by obtain ⟨h1, -⟩ := hq; cases h1)
  obtain ⟨h1, h2⟩ := hq
  cases h1
  obtain ⟨f, hf⟩ := (hP S1 h2).2
  refine ar_ar i_L_longestBorder_7 rfl ?_
  refine av_stl i_L_longestBorder_8 (j := 0) (by omega) hf (by omega) (by omega) (fun S2 g2 k2 => ?_)
  refine ar_go i_L_longestBorder_9 ?_
  refine ar_push i_L_longestBorder_15 ?_
  exact ar_ret i_L_longestBorder_16 rfl ⟨rfl, S1, h2, k2, _, g2, updL_eq⟩
theorem l_longestBorder_x (d : Nat) {S : aq_S} {hs : Int32} {a0 : Int32} {E : String} {c : Int32} {P : aq_S → Prop} (h : hX S hs) (hP : ∀ S', P S' → aq_le S S') (hE : ([("java/lang/IllegalArgumentException", 1)] : List (String × Int32)).lookup E = some c) (hc : aX d 87 [.ref 1, .int a0] S (fun o S' => o = .inr E ∧ P S')) : aX (d + 1) 232 [.ref 1, .int a0, .ref 71] S (fun o S' => o = .inl (some (.int c)) ∧ P S') := by
  refine ar_run (Nat.le_of_ble_eq_true rfl) (fun o S1 h => hP S1 h.2) ?_
  refine ar_ld i_L_longestBorder_0 rfl rfl ?_
  refine ar_push i_L_longestBorder_1 ?_
  refine ar_ld i_L_longestBorder_2 rfl rfl ?_
  refine ar_ld i_L_longestBorder_3 rfl rfl ?_
  exact ar_callh i_L_longestBorder_4 rfl ⟨_, _, _, rfl, h⟩ (Nat.le_of_ble_eq_true rfl) hc (fun w S1 hq => by obtain ⟨h1, -⟩ := hq; cases h1) (fun E' S1 hq => by obtain ⟨h1, h2⟩ := hq; cases h1; exact ⟨c, hE, rfl, h2⟩)
theorem l_isPrimitive (d : Nat) {S : aq_S} {hs : Int32} {a0 : Int32} {v : Int32} {P : aq_S → Prop} (h : hX S hs) (hP : ∀ S', P S' → aq_le S S' ∧ oA S') (hc : aX d 88 [.ref 1, .int a0] S (fun o S' => o = .inl (some (.int v)) ∧ P S')) : aX (d + 1) 233 [.ref 1, .int a0, .ref 71] S (fun o S' => o = .inl (some (.int 0)) ∧ ∃ S1, P S1 ∧ aq_fr S1 S' (fun q => q = 71) ∧ oV S' (if v = 0 then 0 else 1)) := by
  refine ar_run (Nat.le_of_ble_eq_true rfl) (fun o S1 h => by obtain ⟨-, S2, p, q, -⟩ := h; have a := (hP S2 p).1; have b := q.le; exact ⟨Nat.le_trans a.1 b.1, Nat.le_trans a.2.1 b.2.1, Nat.le_trans a.2.2 b.2.2⟩) ?_
  refine ar_ld i_L_isPrimitive_0 rfl rfl ?_
  refine ar_push i_L_isPrimitive_1 ?_
  refine ar_ld i_L_isPrimitive_2 rfl rfl ?_
  refine ar_ld i_L_isPrimitive_3 rfl rfl ?_
  refine ar_callh i_L_isPrimitive_4 rfl ⟨_, _, _, rfl, h⟩ (Nat.le_of_ble_eq_true rfl) hc (fun w S1 hq => ?_) (fun E S1 hq => by obtain ⟨h1, -⟩ := hq; cases h1)
  obtain ⟨h1, h2⟩ := hq
  cases h1
  obtain ⟨f, hf⟩ := (hP S1 h2).2
  by_cases hv : v = 0
  · refine ar_ift i_L_isPrimitive_7 rfl (hv) ?_
    refine ar_push i_L_isPrimitive_14 ?_
    refine av_stl i_L_isPrimitive_15 (j := 0) (by omega) hf (by omega) (by omega) (fun S2 g2 k2 => ?_)
    refine ar_go i_L_isPrimitive_16 ?_
    refine ar_push i_L_isPrimitive_22 ?_
    exact ar_ret i_L_isPrimitive_23 rfl ⟨rfl, S1, h2, k2, _, g2, by rw [updL_eq, if_pos hv]⟩
  · refine ar_iff i_L_isPrimitive_7 rfl (hv) ?_
    refine ar_push i_L_isPrimitive_10 ?_
    refine ar_go i_L_isPrimitive_11 ?_
    refine av_stl i_L_isPrimitive_15 (j := 0) (by omega) hf (by omega) (by omega) (fun S2 g2 k2 => ?_)
    refine ar_go i_L_isPrimitive_16 ?_
    refine ar_push i_L_isPrimitive_22 ?_
    exact ar_ret i_L_isPrimitive_23 rfl ⟨rfl, S1, h2, k2, _, g2, by rw [updL_eq, if_neg hv]⟩
theorem l_isPrimitive_x (d : Nat) {S : aq_S} {hs : Int32} {a0 : Int32} {E : String} {c : Int32} {P : aq_S → Prop} (h : hX S hs) (hP : ∀ S', P S' → aq_le S S') (hE : ([("java/lang/IllegalArgumentException", 1)] : List (String × Int32)).lookup E = some c) (hc : aX d 88 [.ref 1, .int a0] S (fun o S' => o = .inr E ∧ P S')) : aX (d + 1) 233 [.ref 1, .int a0, .ref 71] S (fun o S' => o = .inl (some (.int c)) ∧ P S') := by
  refine ar_run (Nat.le_of_ble_eq_true rfl) (fun o S1 h => hP S1 h.2) ?_
  refine ar_ld i_L_isPrimitive_0 rfl rfl ?_
  refine ar_push i_L_isPrimitive_1 ?_
  refine ar_ld i_L_isPrimitive_2 rfl rfl ?_
  refine ar_ld i_L_isPrimitive_3 rfl rfl ?_
  exact ar_callh i_L_isPrimitive_4 rfl ⟨_, _, _, rfl, h⟩ (Nat.le_of_ble_eq_true rfl) hc (fun w S1 hq => by obtain ⟨h1, -⟩ := hq; cases h1) (fun E' S1 hq => by obtain ⟨h1, h2⟩ := hq; cases h1; exact ⟨c, hE, rfl, h2⟩)
theorem l_exponent (d : Nat) {S : aq_S} {hs : Int32} {a0 : Int32} {v : Int32} {P : aq_S → Prop} (h : hX S hs) (hP : ∀ S', P S' → aq_le S S' ∧ oA S') (hc : aX d 89 [.ref 1, .int a0] S (fun o S' => o = .inl (some (.int v)) ∧ P S')) : aX (d + 1) 234 [.ref 1, .int a0, .ref 71] S (fun o S' => o = .inl (some (.int 0)) ∧ ∃ S1, P S1 ∧ aq_fr S1 S' (fun q => q = 71) ∧ oV S' v.toInt64) := by
  refine ar_run (Nat.le_of_ble_eq_true rfl) (fun o S1 h => by obtain ⟨-, S2, p, q, -⟩ := h; have a := (hP S2 p).1; have b := q.le; exact ⟨Nat.le_trans a.1 b.1, Nat.le_trans a.2.1 b.2.1, Nat.le_trans a.2.2 b.2.2⟩) ?_
  refine ar_ld i_L_exponent_0 rfl rfl ?_
  refine ar_push i_L_exponent_1 ?_
  refine ar_ld i_L_exponent_2 rfl rfl ?_
  refine ar_ld i_L_exponent_3 rfl rfl ?_
  refine ar_callh i_L_exponent_4 rfl ⟨_, _, _, rfl, h⟩ (Nat.le_of_ble_eq_true rfl) hc (fun w S1 hq => ?_) (fun E S1 hq => by obtain ⟨h1, -⟩ := hq; cases h1)
  obtain ⟨h1, h2⟩ := hq
  cases h1
  obtain ⟨f, hf⟩ := (hP S1 h2).2
  refine ar_ar i_L_exponent_7 rfl ?_
  refine av_stl i_L_exponent_8 (j := 0) (by omega) hf (by omega) (by omega) (fun S2 g2 k2 => ?_)
  refine ar_go i_L_exponent_9 ?_
  refine ar_push i_L_exponent_18 ?_
  exact ar_ret i_L_exponent_19 rfl ⟨rfl, S1, h2, k2, _, g2, updL_eq⟩
theorem l_exponent_x (d : Nat) {S : aq_S} {hs : Int32} {a0 : Int32} {E : String} {c : Int32} {P : aq_S → Prop} (h : hX S hs) (hP : ∀ S', P S' → aq_le S S') (hE : ([("java/lang/IllegalArgumentException", 1), ("java/util/NoSuchElementException", 2)] : List (String × Int32)).lookup E = some c) (hc : aX d 89 [.ref 1, .int a0] S (fun o S' => o = .inr E ∧ P S')) : aX (d + 1) 234 [.ref 1, .int a0, .ref 71] S (fun o S' => o = .inl (some (.int c)) ∧ P S') := by
  refine ar_run (Nat.le_of_ble_eq_true rfl) (fun o S1 h => hP S1 h.2) ?_
  refine ar_ld i_L_exponent_0 rfl rfl ?_
  refine ar_push i_L_exponent_1 ?_
  refine ar_ld i_L_exponent_2 rfl rfl ?_
  refine ar_ld i_L_exponent_3 rfl rfl ?_
  exact ar_callh i_L_exponent_4 rfl ⟨_, _, _, rfl, h⟩ (Nat.le_of_ble_eq_true rfl) hc (fun w S1 hq => by obtain ⟨h1, -⟩ := hq; cases h1) (fun E' S1 hq => by obtain ⟨h1, h2⟩ := hq; cases h1; exact ⟨c, hE, rfl, h2⟩)
theorem l_completionCount (d : Nat) {S : aq_S} {hs : Int32} {a0 : Int32} {v : Int64} {P : aq_S → Prop} (h : hX S hs) (hP : ∀ S', P S' → aq_le S S' ∧ oA S') (hc : aX d 90 [.ref 1, .int a0] S (fun o S' => o = .inl (some (.long v)) ∧ P S')) : aX (d + 1) 235 [.ref 1, .int a0, .ref 71] S (fun o S' => o = .inl (some (.int 0)) ∧ ∃ S1, P S1 ∧ aq_fr S1 S' (fun q => q = 71) ∧ oV S' v) := by
  refine ar_run (Nat.le_of_ble_eq_true rfl) (fun o S1 h => by obtain ⟨-, S2, p, q, -⟩ := h; have a := (hP S2 p).1; have b := q.le; exact ⟨Nat.le_trans a.1 b.1, Nat.le_trans a.2.1 b.2.1, Nat.le_trans a.2.2 b.2.2⟩) ?_
  refine ar_ld i_L_completionCount_0 rfl rfl ?_
  refine ar_push i_L_completionCount_1 ?_
  refine ar_ld i_L_completionCount_2 rfl rfl ?_
  refine ar_ld i_L_completionCount_3 rfl rfl ?_
  refine ar_callh i_L_completionCount_4 rfl ⟨_, _, _, rfl, h⟩ (Nat.le_of_ble_eq_true rfl) hc (fun w S1 hq => ?_) (fun E S1 hq => by obtain ⟨h1, -⟩ := hq; cases h1)
  obtain ⟨h1, h2⟩ := hq
  cases h1
  obtain ⟨f, hf⟩ := (hP S1 h2).2
  refine av_stl i_L_completionCount_7 (j := 0) (by omega) hf (by omega) (by omega) (fun S2 g2 k2 => ?_)
  refine ar_go i_L_completionCount_8 ?_
  refine ar_push i_L_completionCount_17 ?_
  exact ar_ret i_L_completionCount_18 rfl ⟨rfl, S1, h2, k2, _, g2, updL_eq⟩
theorem l_completionCount_x (d : Nat) {S : aq_S} {hs : Int32} {a0 : Int32} {E : String} {c : Int32} {P : aq_S → Prop} (h : hX S hs) (hP : ∀ S', P S' → aq_le S S') (hE : ([("java/lang/IllegalArgumentException", 1), ("java/lang/ArithmeticException", 2)] : List (String × Int32)).lookup E = some c) (hc : aX d 90 [.ref 1, .int a0] S (fun o S' => o = .inr E ∧ P S')) : aX (d + 1) 235 [.ref 1, .int a0, .ref 71] S (fun o S' => o = .inl (some (.int c)) ∧ P S') := by
  refine ar_run (Nat.le_of_ble_eq_true rfl) (fun o S1 h => hP S1 h.2) ?_
  refine ar_ld i_L_completionCount_0 rfl rfl ?_
  refine ar_push i_L_completionCount_1 ?_
  refine ar_ld i_L_completionCount_2 rfl rfl ?_
  refine ar_ld i_L_completionCount_3 rfl rfl ?_
  exact ar_callh i_L_completionCount_4 rfl ⟨_, _, _, rfl, h⟩ (Nat.le_of_ble_eq_true rfl) hc (fun w S1 hq => by obtain ⟨h1, -⟩ := hq; cases h1) (fun E' S1 hq => by obtain ⟨h1, h2⟩ := hq; cases h1; exact ⟨c, hE, rfl, h2⟩)
theorem l_complete (d : Nat) {S : aq_S} {hs : Int32} {a0 : Int32} {a1 : Int64} {a2 : Int32} {v : Int32} {P : aq_S → Prop} (h : hX S hs) (hP : ∀ S', P S' → aq_le S S' ∧ oA S') (hc : aX d 91 [.ref 1, .int a0, .long a1, .int a2] S (fun o S' => o = .inl (some (.int v)) ∧ P S')) : aX (d + 1) 236 [.ref 1, .int a0, .long a1, .int a2, .ref 71] S (fun o S' => o = .inl (some (.int 0)) ∧ ∃ S1, P S1 ∧ aq_fr S1 S' (fun q => q = 71) ∧ oV S' v.toInt64) := by
  refine ar_run (Nat.le_of_ble_eq_true rfl) (fun o S1 h => by obtain ⟨-, S2, p, q, -⟩ := h; have a := (hP S2 p).1; have b := q.le; exact ⟨Nat.le_trans a.1 b.1, Nat.le_trans a.2.1 b.2.1, Nat.le_trans a.2.2 b.2.2⟩) ?_
  refine ar_ld i_L_complete_0 rfl rfl ?_
  refine ar_push i_L_complete_2 ?_
  refine ar_ld i_L_complete_3 rfl rfl ?_
  refine ar_ld i_L_complete_4 rfl rfl ?_
  refine ar_ld i_L_complete_5 rfl rfl ?_
  refine ar_ld i_L_complete_6 rfl rfl ?_
  refine ar_callh i_L_complete_8 rfl ⟨_, _, _, rfl, h⟩ (Nat.le_of_ble_eq_true rfl) hc (fun w S1 hq => ?_) (fun E S1 hq => by obtain ⟨h1, -⟩ := hq; cases h1)
  obtain ⟨h1, h2⟩ := hq
  cases h1
  obtain ⟨f, hf⟩ := (hP S1 h2).2
  refine ar_ar i_L_complete_11 rfl ?_
  refine av_stl i_L_complete_12 (j := 0) (by omega) hf (by omega) (by omega) (fun S2 g2 k2 => ?_)
  refine ar_go i_L_complete_13 ?_
  refine ar_push i_L_complete_28 ?_
  exact ar_ret i_L_complete_29 rfl ⟨rfl, S1, h2, k2, _, g2, updL_eq⟩
theorem l_complete_x (d : Nat) {S : aq_S} {hs : Int32} {a0 : Int32} {a1 : Int64} {a2 : Int32} {E : String} {c : Int32} {P : aq_S → Prop} (h : hX S hs) (hP : ∀ S', P S' → aq_le S S') (hE : ([("java/lang/IllegalArgumentException", 1), ("java/lang/ArithmeticException", 2), ("java/util/NoSuchElementException", 3)] : List (String × Int32)).lookup E = some c) (hc : aX d 91 [.ref 1, .int a0, .long a1, .int a2] S (fun o S' => o = .inr E ∧ P S')) : aX (d + 1) 236 [.ref 1, .int a0, .long a1, .int a2, .ref 71] S (fun o S' => o = .inl (some (.int c)) ∧ P S') := by
  refine ar_run (Nat.le_of_ble_eq_true rfl) (fun o S1 h => hP S1 h.2) ?_
  refine ar_ld i_L_complete_0 rfl rfl ?_
  refine ar_push i_L_complete_2 ?_
  refine ar_ld i_L_complete_3 rfl rfl ?_
  refine ar_ld i_L_complete_4 rfl rfl ?_
  refine ar_ld i_L_complete_5 rfl rfl ?_
  refine ar_ld i_L_complete_6 rfl rfl ?_
  exact ar_callh i_L_complete_8 rfl ⟨_, _, _, rfl, h⟩ (Nat.le_of_ble_eq_true rfl) hc (fun w S1 hq => by obtain ⟨h1, -⟩ := hq; cases h1) (fun E' S1 hq => by obtain ⟨h1, h2⟩ := hq; cases h1; exact ⟨c, hE, rfl, h2⟩)
theorem l_primitiveCompletions (d : Nat) {S : aq_S} {hs : Int32} {a0 : Int32} {v : Int32} {P : aq_S → Prop} (h : hX S hs) (hP : ∀ S', P S' → aq_le S S' ∧ oA S') (hc : aX d 92 [.ref 1, .int a0] S (fun o S' => o = .inl (some (.int v)) ∧ P S')) : aX (d + 1) 237 [.ref 1, .int a0, .ref 71] S (fun o S' => o = .inl (some (.int 0)) ∧ ∃ S1, P S1 ∧ aq_fr S1 S' (fun q => q = 71) ∧ oV S' v.toInt64) := by
  refine ar_run (Nat.le_of_ble_eq_true rfl) (fun o S1 h => by obtain ⟨-, S2, p, q, -⟩ := h; have a := (hP S2 p).1; have b := q.le; exact ⟨Nat.le_trans a.1 b.1, Nat.le_trans a.2.1 b.2.1, Nat.le_trans a.2.2 b.2.2⟩) ?_
  refine ar_ld i_L_primitiveCompletions_0 rfl rfl ?_
  refine ar_push i_L_primitiveCompletions_1 ?_
  refine ar_ld i_L_primitiveCompletions_2 rfl rfl ?_
  refine ar_ld i_L_primitiveCompletions_3 rfl rfl ?_
  refine ar_callh i_L_primitiveCompletions_4 rfl ⟨_, _, _, rfl, h⟩ (Nat.le_of_ble_eq_true rfl) hc (fun w S1 hq => ?_) (fun E S1 hq => by obtain ⟨h1, -⟩ := hq; cases h1)
  obtain ⟨h1, h2⟩ := hq
  cases h1
  obtain ⟨f, hf⟩ := (hP S1 h2).2
  refine ar_ar i_L_primitiveCompletions_7 rfl ?_
  refine av_stl i_L_primitiveCompletions_8 (j := 0) (by omega) hf (by omega) (by omega) (fun S2 g2 k2 => ?_)
  refine ar_go i_L_primitiveCompletions_9 ?_
  refine ar_push i_L_primitiveCompletions_18 ?_
  exact ar_ret i_L_primitiveCompletions_19 rfl ⟨rfl, S1, h2, k2, _, g2, updL_eq⟩
theorem l_primitiveCompletions_x (d : Nat) {S : aq_S} {hs : Int32} {a0 : Int32} {E : String} {c : Int32} {P : aq_S → Prop} (h : hX S hs) (hP : ∀ S', P S' → aq_le S S') (hE : ([("java/lang/IllegalArgumentException", 1), ("java/lang/IllegalStateException", 2)] : List (String × Int32)).lookup E = some c) (hc : aX d 92 [.ref 1, .int a0] S (fun o S' => o = .inr E ∧ P S')) : aX (d + 1) 237 [.ref 1, .int a0, .ref 71] S (fun o S' => o = .inl (some (.int c)) ∧ P S') := by
  refine ar_run (Nat.le_of_ble_eq_true rfl) (fun o S1 h => hP S1 h.2) ?_
  refine ar_ld i_L_primitiveCompletions_0 rfl rfl ?_
  refine ar_push i_L_primitiveCompletions_1 ?_
  refine ar_ld i_L_primitiveCompletions_2 rfl rfl ?_
  refine ar_ld i_L_primitiveCompletions_3 rfl rfl ?_
  exact ar_callh i_L_primitiveCompletions_4 rfl ⟨_, _, _, rfl, h⟩ (Nat.le_of_ble_eq_true rfl) hc (fun w S1 hq => by obtain ⟨h1, -⟩ := hq; cases h1) (fun E' S1 hq => by obtain ⟨h1, h2⟩ := hq; cases h1; exact ⟨c, hE, rfl, h2⟩)
theorem l_complexity (d : Nat) {S : aq_S} {hs : Int32} {a0 : Int32} {a1 : Int32} {v : Int32} {P : aq_S → Prop} (h : hX S hs) (hP : ∀ S', P S' → aq_le S S' ∧ oA S') (hc : aX d 93 [.ref 1, .int a0, .int a1] S (fun o S' => o = .inl (some (.int v)) ∧ P S')) : aX (d + 1) 238 [.ref 1, .int a0, .int a1, .ref 71] S (fun o S' => o = .inl (some (.int 0)) ∧ ∃ S1, P S1 ∧ aq_fr S1 S' (fun q => q = 71) ∧ oV S' v.toInt64) := by
  refine ar_run (Nat.le_of_ble_eq_true rfl) (fun o S1 h => by obtain ⟨-, S2, p, q, -⟩ := h; have a := (hP S2 p).1; have b := q.le; exact ⟨Nat.le_trans a.1 b.1, Nat.le_trans a.2.1 b.2.1, Nat.le_trans a.2.2 b.2.2⟩) ?_
  refine ar_ld i_L_complexity_0 rfl rfl ?_
  refine ar_push i_L_complexity_1 ?_
  refine ar_ld i_L_complexity_2 rfl rfl ?_
  refine ar_ld i_L_complexity_3 rfl rfl ?_
  refine ar_ld i_L_complexity_4 rfl rfl ?_
  refine ar_callh i_L_complexity_5 rfl ⟨_, _, _, rfl, h⟩ (Nat.le_of_ble_eq_true rfl) hc (fun w S1 hq => ?_) (fun E S1 hq => by obtain ⟨h1, -⟩ := hq; cases h1)
  obtain ⟨h1, h2⟩ := hq
  cases h1
  obtain ⟨f, hf⟩ := (hP S1 h2).2
  refine ar_ar i_L_complexity_8 rfl ?_
  refine av_stl i_L_complexity_9 (j := 0) (by omega) hf (by omega) (by omega) (fun S2 g2 k2 => ?_)
  refine ar_go i_L_complexity_10 ?_
  refine ar_push i_L_complexity_17 ?_
  exact ar_ret i_L_complexity_18 rfl ⟨rfl, S1, h2, k2, _, g2, updL_eq⟩
theorem l_complexity_x (d : Nat) {S : aq_S} {hs : Int32} {a0 : Int32} {a1 : Int32} {E : String} {c : Int32} {P : aq_S → Prop} (h : hX S hs) (hP : ∀ S', P S' → aq_le S S') (hE : ([("java/lang/IllegalArgumentException", 1)] : List (String × Int32)).lookup E = some c) (hc : aX d 93 [.ref 1, .int a0, .int a1] S (fun o S' => o = .inr E ∧ P S')) : aX (d + 1) 238 [.ref 1, .int a0, .int a1, .ref 71] S (fun o S' => o = .inl (some (.int c)) ∧ P S') := by
  refine ar_run (Nat.le_of_ble_eq_true rfl) (fun o S1 h => hP S1 h.2) ?_
  refine ar_ld i_L_complexity_0 rfl rfl ?_
  refine ar_push i_L_complexity_1 ?_
  refine ar_ld i_L_complexity_2 rfl rfl ?_
  refine ar_ld i_L_complexity_3 rfl rfl ?_
  refine ar_ld i_L_complexity_4 rfl rfl ?_
  exact ar_callh i_L_complexity_5 rfl ⟨_, _, _, rfl, h⟩ (Nat.le_of_ble_eq_true rfl) hc (fun w S1 hq => by obtain ⟨h1, -⟩ := hq; cases h1) (fun E' S1 hq => by obtain ⟨h1, h2⟩ := hq; cases h1; exact ⟨c, hE, rfl, h2⟩)
theorem l_occurrences (d : Nat) {S : aq_S} {hs : Int32} {a0 : Int32} {a1 : Int32} {v : Int32} {P : aq_S → Prop} (h : hX S hs) (hP : ∀ S', P S' → aq_le S S' ∧ oA S') (hc : aX d 94 [.ref 1, .int a0, .int a1] S (fun o S' => o = .inl (some (.int v)) ∧ P S')) : aX (d + 1) 239 [.ref 1, .int a0, .int a1, .ref 71] S (fun o S' => o = .inl (some (.int 0)) ∧ ∃ S1, P S1 ∧ aq_fr S1 S' (fun q => q = 71) ∧ oV S' v.toInt64) := by
  refine ar_run (Nat.le_of_ble_eq_true rfl) (fun o S1 h => by obtain ⟨-, S2, p, q, -⟩ := h; have a := (hP S2 p).1; have b := q.le; exact ⟨Nat.le_trans a.1 b.1, Nat.le_trans a.2.1 b.2.1, Nat.le_trans a.2.2 b.2.2⟩) ?_
  refine ar_ld i_L_occurrences_0 rfl rfl ?_
  refine ar_push i_L_occurrences_1 ?_
  refine ar_ld i_L_occurrences_2 rfl rfl ?_
  refine ar_ld i_L_occurrences_3 rfl rfl ?_
  refine ar_ld i_L_occurrences_4 rfl rfl ?_
  refine ar_callh i_L_occurrences_5 rfl ⟨_, _, _, rfl, h⟩ (Nat.le_of_ble_eq_true rfl) hc (fun w S1 hq => ?_) (fun E S1 hq => by obtain ⟨h1, -⟩ := hq; cases h1)
  obtain ⟨h1, h2⟩ := hq
  cases h1
  obtain ⟨f, hf⟩ := (hP S1 h2).2
  refine ar_ar i_L_occurrences_8 rfl ?_
  refine av_stl i_L_occurrences_9 (j := 0) (by omega) hf (by omega) (by omega) (fun S2 g2 k2 => ?_)
  refine ar_go i_L_occurrences_10 ?_
  refine ar_push i_L_occurrences_17 ?_
  exact ar_ret i_L_occurrences_18 rfl ⟨rfl, S1, h2, k2, _, g2, updL_eq⟩
theorem l_occurrences_x (d : Nat) {S : aq_S} {hs : Int32} {a0 : Int32} {a1 : Int32} {E : String} {c : Int32} {P : aq_S → Prop} (h : hX S hs) (hP : ∀ S', P S' → aq_le S S') (hE : ([("java/lang/IllegalArgumentException", 1)] : List (String × Int32)).lookup E = some c) (hc : aX d 94 [.ref 1, .int a0, .int a1] S (fun o S' => o = .inr E ∧ P S')) : aX (d + 1) 239 [.ref 1, .int a0, .int a1, .ref 71] S (fun o S' => o = .inl (some (.int c)) ∧ P S') := by
  refine ar_run (Nat.le_of_ble_eq_true rfl) (fun o S1 h => hP S1 h.2) ?_
  refine ar_ld i_L_occurrences_0 rfl rfl ?_
  refine ar_push i_L_occurrences_1 ?_
  refine ar_ld i_L_occurrences_2 rfl rfl ?_
  refine ar_ld i_L_occurrences_3 rfl rfl ?_
  refine ar_ld i_L_occurrences_4 rfl rfl ?_
  exact ar_callh i_L_occurrences_5 rfl ⟨_, _, _, rfl, h⟩ (Nat.le_of_ble_eq_true rfl) hc (fun w S1 hq => by obtain ⟨h1, -⟩ := hq; cases h1) (fun E' S1 hq => by obtain ⟨h1, h2⟩ := hq; cases h1; exact ⟨c, hE, rfl, h2⟩)
theorem l_addPattern (d : Nat) {S : aq_S} {hs : Int32} {a0 : Int32} {v : Int32} {P : aq_S → Prop} (h : hX S hs) (hP : ∀ S', P S' → aq_le S S' ∧ oA S') (hc : aX d 95 [.ref 1, .int a0] S (fun o S' => o = .inl (some (.int v)) ∧ P S')) : aX (d + 1) 240 [.ref 1, .int a0, .ref 71] S (fun o S' => o = .inl (some (.int 0)) ∧ ∃ S1, P S1 ∧ aq_fr S1 S' (fun q => q = 71) ∧ oV S' v.toInt64) := by
  refine ar_run (Nat.le_of_ble_eq_true rfl) (fun o S1 h => by obtain ⟨-, S2, p, q, -⟩ := h; have a := (hP S2 p).1; have b := q.le; exact ⟨Nat.le_trans a.1 b.1, Nat.le_trans a.2.1 b.2.1, Nat.le_trans a.2.2 b.2.2⟩) ?_
  refine ar_ld i_L_addPattern_0 rfl rfl ?_
  refine ar_push i_L_addPattern_1 ?_
  refine ar_ld i_L_addPattern_2 rfl rfl ?_
  refine ar_ld i_L_addPattern_3 rfl rfl ?_
  refine ar_callh i_L_addPattern_4 rfl ⟨_, _, _, rfl, h⟩ (Nat.le_of_ble_eq_true rfl) hc (fun w S1 hq => ?_) (fun E S1 hq => by obtain ⟨h1, -⟩ := hq; cases h1)
  obtain ⟨h1, h2⟩ := hq
  cases h1
  obtain ⟨f, hf⟩ := (hP S1 h2).2
  refine ar_ar i_L_addPattern_7 rfl ?_
  refine av_stl i_L_addPattern_8 (j := 0) (by omega) hf (by omega) (by omega) (fun S2 g2 k2 => ?_)
  refine ar_go i_L_addPattern_9 ?_
  refine ar_push i_L_addPattern_18 ?_
  exact ar_ret i_L_addPattern_19 rfl ⟨rfl, S1, h2, k2, _, g2, updL_eq⟩
theorem l_addPattern_x (d : Nat) {S : aq_S} {hs : Int32} {a0 : Int32} {E : String} {c : Int32} {P : aq_S → Prop} (h : hX S hs) (hP : ∀ S', P S' → aq_le S S') (hE : ([("java/lang/IllegalArgumentException", 1), ("java/lang/IllegalStateException", 2)] : List (String × Int32)).lookup E = some c) (hc : aX d 95 [.ref 1, .int a0] S (fun o S' => o = .inr E ∧ P S')) : aX (d + 1) 240 [.ref 1, .int a0, .ref 71] S (fun o S' => o = .inl (some (.int c)) ∧ P S') := by
  refine ar_run (Nat.le_of_ble_eq_true rfl) (fun o S1 h => hP S1 h.2) ?_
  refine ar_ld i_L_addPattern_0 rfl rfl ?_
  refine ar_push i_L_addPattern_1 ?_
  refine ar_ld i_L_addPattern_2 rfl rfl ?_
  refine ar_ld i_L_addPattern_3 rfl rfl ?_
  exact ar_callh i_L_addPattern_4 rfl ⟨_, _, _, rfl, h⟩ (Nat.le_of_ble_eq_true rfl) hc (fun w S1 hq => by obtain ⟨h1, -⟩ := hq; cases h1) (fun E' S1 hq => by obtain ⟨h1, h2⟩ := hq; cases h1; exact ⟨c, hE, rfl, h2⟩)
theorem l_removePattern (d : Nat) {S : aq_S} {hs : Int32} {a0 : Int32} {v : Int32} {P : aq_S → Prop} (h : hX S hs) (hP : ∀ S', P S' → aq_le S S' ∧ oA S') (hc : aX d 96 [.ref 1, .int a0] S (fun o S' => o = .inl (some (.int v)) ∧ P S')) : aX (d + 1) 241 [.ref 1, .int a0, .ref 71] S (fun o S' => o = .inl (some (.int 0)) ∧ ∃ S1, P S1 ∧ aq_fr S1 S' (fun q => q = 71) ∧ oV S' v.toInt64) := by
  refine ar_run (Nat.le_of_ble_eq_true rfl) (fun o S1 h => by obtain ⟨-, S2, p, q, -⟩ := h; have a := (hP S2 p).1; have b := q.le; exact ⟨Nat.le_trans a.1 b.1, Nat.le_trans a.2.1 b.2.1, Nat.le_trans a.2.2 b.2.2⟩) ?_
  refine ar_ld i_L_removePattern_0 rfl rfl ?_
  refine ar_push i_L_removePattern_1 ?_
  refine ar_ld i_L_removePattern_2 rfl rfl ?_
  refine ar_ld i_L_removePattern_3 rfl rfl ?_
  refine ar_callh i_L_removePattern_4 rfl ⟨_, _, _, rfl, h⟩ (Nat.le_of_ble_eq_true rfl) hc (fun w S1 hq => ?_) (fun E S1 hq => by obtain ⟨h1, -⟩ := hq; cases h1)
  obtain ⟨h1, h2⟩ := hq
  cases h1
  obtain ⟨f, hf⟩ := (hP S1 h2).2
  refine ar_ar i_L_removePattern_7 rfl ?_
  refine av_stl i_L_removePattern_8 (j := 0) (by omega) hf (by omega) (by omega) (fun S2 g2 k2 => ?_)
  refine ar_go i_L_removePattern_9 ?_
  refine ar_push i_L_removePattern_15 ?_
  exact ar_ret i_L_removePattern_16 rfl ⟨rfl, S1, h2, k2, _, g2, updL_eq⟩
theorem l_removePattern_x (d : Nat) {S : aq_S} {hs : Int32} {a0 : Int32} {E : String} {c : Int32} {P : aq_S → Prop} (h : hX S hs) (hP : ∀ S', P S' → aq_le S S') (hE : ([("java/lang/IndexOutOfBoundsException", 1)] : List (String × Int32)).lookup E = some c) (hc : aX d 96 [.ref 1, .int a0] S (fun o S' => o = .inr E ∧ P S')) : aX (d + 1) 241 [.ref 1, .int a0, .ref 71] S (fun o S' => o = .inl (some (.int c)) ∧ P S') := by
  refine ar_run (Nat.le_of_ble_eq_true rfl) (fun o S1 h => hP S1 h.2) ?_
  refine ar_ld i_L_removePattern_0 rfl rfl ?_
  refine ar_push i_L_removePattern_1 ?_
  refine ar_ld i_L_removePattern_2 rfl rfl ?_
  refine ar_ld i_L_removePattern_3 rfl rfl ?_
  exact ar_callh i_L_removePattern_4 rfl ⟨_, _, _, rfl, h⟩ (Nat.le_of_ble_eq_true rfl) hc (fun w S1 hq => by obtain ⟨h1, -⟩ := hq; cases h1) (fun E' S1 hq => by obtain ⟨h1, h2⟩ := hq; cases h1; exact ⟨c, hE, rfl, h2⟩)
theorem l_avoids (d : Nat) {S : aq_S} {hs : Int32} {a0 : Int32} {v : Int32} {P : aq_S → Prop} (h : hX S hs) (hP : ∀ S', P S' → aq_le S S' ∧ oA S') (hc : aX d 98 [.ref 1, .int a0] S (fun o S' => o = .inl (some (.int v)) ∧ P S')) : aX (d + 1) 242 [.ref 1, .int a0, .ref 71] S (fun o S' => o = .inl (some (.int 0)) ∧ ∃ S1, P S1 ∧ aq_fr S1 S' (fun q => q = 71) ∧ oV S' (if v = 0 then 0 else 1)) := by
  refine ar_run (Nat.le_of_ble_eq_true rfl) (fun o S1 h => by obtain ⟨-, S2, p, q, -⟩ := h; have a := (hP S2 p).1; have b := q.le; exact ⟨Nat.le_trans a.1 b.1, Nat.le_trans a.2.1 b.2.1, Nat.le_trans a.2.2 b.2.2⟩) ?_
  refine ar_ld i_L_avoids_0 rfl rfl ?_
  refine ar_push i_L_avoids_1 ?_
  refine ar_ld i_L_avoids_2 rfl rfl ?_
  refine ar_ld i_L_avoids_3 rfl rfl ?_
  refine ar_callh i_L_avoids_4 rfl ⟨_, _, _, rfl, h⟩ (Nat.le_of_ble_eq_true rfl) hc (fun w S1 hq => ?_) (fun E S1 hq => by obtain ⟨h1, -⟩ := hq; cases h1)
  obtain ⟨h1, h2⟩ := hq
  cases h1
  obtain ⟨f, hf⟩ := (hP S1 h2).2
  by_cases hv : v = 0
  · refine ar_ift i_L_avoids_7 rfl (hv) ?_
    refine ar_push i_L_avoids_14 ?_
    refine av_stl i_L_avoids_15 (j := 0) (by omega) hf (by omega) (by omega) (fun S2 g2 k2 => ?_)
    refine ar_go i_L_avoids_16 ?_
    refine ar_push i_L_avoids_22 ?_
    exact ar_ret i_L_avoids_23 rfl ⟨rfl, S1, h2, k2, _, g2, by rw [updL_eq, if_pos hv]⟩
  · refine ar_iff i_L_avoids_7 rfl (hv) ?_
    refine ar_push i_L_avoids_10 ?_
    refine ar_go i_L_avoids_11 ?_
    refine av_stl i_L_avoids_15 (j := 0) (by omega) hf (by omega) (by omega) (fun S2 g2 k2 => ?_)
    refine ar_go i_L_avoids_16 ?_
    refine ar_push i_L_avoids_22 ?_
    exact ar_ret i_L_avoids_23 rfl ⟨rfl, S1, h2, k2, _, g2, by rw [updL_eq, if_neg hv]⟩
theorem l_avoids_x (d : Nat) {S : aq_S} {hs : Int32} {a0 : Int32} {E : String} {c : Int32} {P : aq_S → Prop} (h : hX S hs) (hP : ∀ S', P S' → aq_le S S') (hE : ([("java/lang/IllegalArgumentException", 1)] : List (String × Int32)).lookup E = some c) (hc : aX d 98 [.ref 1, .int a0] S (fun o S' => o = .inr E ∧ P S')) : aX (d + 1) 242 [.ref 1, .int a0, .ref 71] S (fun o S' => o = .inl (some (.int c)) ∧ P S') := by
  refine ar_run (Nat.le_of_ble_eq_true rfl) (fun o S1 h => hP S1 h.2) ?_
  refine ar_ld i_L_avoids_0 rfl rfl ?_
  refine ar_push i_L_avoids_1 ?_
  refine ar_ld i_L_avoids_2 rfl rfl ?_
  refine ar_ld i_L_avoids_3 rfl rfl ?_
  exact ar_callh i_L_avoids_4 rfl ⟨_, _, _, rfl, h⟩ (Nat.le_of_ble_eq_true rfl) hc (fun w S1 hq => by obtain ⟨h1, -⟩ := hq; cases h1) (fun E' S1 hq => by obtain ⟨h1, h2⟩ := hq; cases h1; exact ⟨c, hE, rfl, h2⟩)
theorem l_longestAvoiding (d : Nat) {S : aq_S} {hs : Int32}  {v : Int32} {P : aq_S → Prop} (h : hX S hs) (hP : ∀ S', P S' → aq_le S S' ∧ oA S') (hc : aX d 101 [.ref 1] S (fun o S' => o = .inl (some (.int v)) ∧ P S')) : aX (d + 1) 243 [.ref 1, .ref 71] S (fun o S' => o = .inl (some (.int 0)) ∧ ∃ S1, P S1 ∧ aq_fr S1 S' (fun q => q = 71) ∧ oV S' v.toInt64) := by
  refine ar_run (Nat.le_of_ble_eq_true rfl) (fun o S1 h => by obtain ⟨-, S2, p, q, -⟩ := h; have a := (hP S2 p).1; have b := q.le; exact ⟨Nat.le_trans a.1 b.1, Nat.le_trans a.2.1 b.2.1, Nat.le_trans a.2.2 b.2.2⟩) ?_
  refine ar_ld i_L_longestAvoiding_0 rfl rfl ?_
  refine ar_push i_L_longestAvoiding_1 ?_
  refine ar_ld i_L_longestAvoiding_2 rfl rfl ?_
  refine ar_callh i_L_longestAvoiding_3 rfl ⟨_, _, _, rfl, h⟩ (Nat.le_of_ble_eq_true rfl) hc (fun w S1 hq => ?_) (fun E S1 hq => by obtain ⟨h1, -⟩ := hq; cases h1)
  obtain ⟨h1, h2⟩ := hq
  cases h1
  obtain ⟨f, hf⟩ := (hP S1 h2).2
  refine ar_ar i_L_longestAvoiding_6 rfl ?_
  refine av_stl i_L_longestAvoiding_7 (j := 0) (by omega) hf (by omega) (by omega) (fun S2 g2 k2 => ?_)
  refine ar_go i_L_longestAvoiding_8 ?_
  refine ar_push i_L_longestAvoiding_14 ?_
  exact ar_ret i_L_longestAvoiding_15 rfl ⟨rfl, S1, h2, k2, _, g2, updL_eq⟩
theorem l_longestAvoiding_x (d : Nat) {S : aq_S} {hs : Int32}  {E : String} {c : Int32} {P : aq_S → Prop} (h : hX S hs) (hP : ∀ S', P S' → aq_le S S') (hE : ([("java/util/NoSuchElementException", 1)] : List (String × Int32)).lookup E = some c) (hc : aX d 101 [.ref 1] S (fun o S' => o = .inr E ∧ P S')) : aX (d + 1) 243 [.ref 1, .ref 71] S (fun o S' => o = .inl (some (.int c)) ∧ P S') := by
  refine ar_run (Nat.le_of_ble_eq_true rfl) (fun o S1 h => hP S1 h.2) ?_
  refine ar_ld i_L_longestAvoiding_0 rfl rfl ?_
  refine ar_push i_L_longestAvoiding_1 ?_
  refine ar_ld i_L_longestAvoiding_2 rfl rfl ?_
  exact ar_callh i_L_longestAvoiding_3 rfl ⟨_, _, _, rfl, h⟩ (Nat.le_of_ble_eq_true rfl) hc (fun w S1 hq => by obtain ⟨h1, -⟩ := hq; cases h1) (fun E' S1 hq => by obtain ⟨h1, h2⟩ := hq; cases h1; exact ⟨c, hE, rfl, h2⟩)
theorem l_countAvoiding (d : Nat) {S : aq_S} {hs : Int32} {a0 : Int32} {v : Int64} {P : aq_S → Prop} (h : hX S hs) (hP : ∀ S', P S' → aq_le S S' ∧ oA S') (hc : aX d 102 [.ref 1, .int a0] S (fun o S' => o = .inl (some (.long v)) ∧ P S')) : aX (d + 1) 244 [.ref 1, .int a0, .ref 71] S (fun o S' => o = .inl (some (.int 0)) ∧ ∃ S1, P S1 ∧ aq_fr S1 S' (fun q => q = 71) ∧ oV S' v) := by
  refine ar_run (Nat.le_of_ble_eq_true rfl) (fun o S1 h => by obtain ⟨-, S2, p, q, -⟩ := h; have a := (hP S2 p).1; have b := q.le; exact ⟨Nat.le_trans a.1 b.1, Nat.le_trans a.2.1 b.2.1, Nat.le_trans a.2.2 b.2.2⟩) ?_
  refine ar_ld i_L_countAvoiding_0 rfl rfl ?_
  refine ar_push i_L_countAvoiding_1 ?_
  refine ar_ld i_L_countAvoiding_2 rfl rfl ?_
  refine ar_ld i_L_countAvoiding_3 rfl rfl ?_
  refine ar_callh i_L_countAvoiding_4 rfl ⟨_, _, _, rfl, h⟩ (Nat.le_of_ble_eq_true rfl) hc (fun w S1 hq => ?_) (fun E S1 hq => by obtain ⟨h1, -⟩ := hq; cases h1)
  obtain ⟨h1, h2⟩ := hq
  cases h1
  obtain ⟨f, hf⟩ := (hP S1 h2).2
  refine av_stl i_L_countAvoiding_7 (j := 0) (by omega) hf (by omega) (by omega) (fun S2 g2 k2 => ?_)
  refine ar_go i_L_countAvoiding_8 ?_
  refine ar_push i_L_countAvoiding_14 ?_
  exact ar_ret i_L_countAvoiding_15 rfl ⟨rfl, S1, h2, k2, _, g2, updL_eq⟩
theorem l_countAvoiding_x (d : Nat) {S : aq_S} {hs : Int32} {a0 : Int32} {E : String} {c : Int32} {P : aq_S → Prop} (h : hX S hs) (hP : ∀ S', P S' → aq_le S S') (hE : ([("java/lang/IllegalArgumentException", 1)] : List (String × Int32)).lookup E = some c) (hc : aX d 102 [.ref 1, .int a0] S (fun o S' => o = .inr E ∧ P S')) : aX (d + 1) 244 [.ref 1, .int a0, .ref 71] S (fun o S' => o = .inl (some (.int c)) ∧ P S') := by
  refine ar_run (Nat.le_of_ble_eq_true rfl) (fun o S1 h => hP S1 h.2) ?_
  refine ar_ld i_L_countAvoiding_0 rfl rfl ?_
  refine ar_push i_L_countAvoiding_1 ?_
  refine ar_ld i_L_countAvoiding_2 rfl rfl ?_
  refine ar_ld i_L_countAvoiding_3 rfl rfl ?_
  exact ar_callh i_L_countAvoiding_4 rfl ⟨_, _, _, rfl, h⟩ (Nat.le_of_ble_eq_true rfl) hc (fun w S1 hq => by obtain ⟨h1, -⟩ := hq; cases h1) (fun E' S1 hq => by obtain ⟨h1, h2⟩ := hq; cases h1; exact ⟨c, hE, rfl, h2⟩)
theorem l_avoidingCycle (d : Nat) {S : aq_S} {hs : Int32} {a0 : Int32} {v : Int32} {P : aq_S → Prop} (h : hX S hs) (hP : ∀ S', P S' → aq_le S S' ∧ oA S') (hc : aX d 103 [.ref 1, .int a0] S (fun o S' => o = .inl (some (.int v)) ∧ P S')) : aX (d + 1) 245 [.ref 1, .int a0, .ref 71] S (fun o S' => o = .inl (some (.int 0)) ∧ ∃ S1, P S1 ∧ aq_fr S1 S' (fun q => q = 71) ∧ oV S' v.toInt64) := by
  refine ar_run (Nat.le_of_ble_eq_true rfl) (fun o S1 h => by obtain ⟨-, S2, p, q, -⟩ := h; have a := (hP S2 p).1; have b := q.le; exact ⟨Nat.le_trans a.1 b.1, Nat.le_trans a.2.1 b.2.1, Nat.le_trans a.2.2 b.2.2⟩) ?_
  refine ar_ld i_L_avoidingCycle_0 rfl rfl ?_
  refine ar_push i_L_avoidingCycle_1 ?_
  refine ar_ld i_L_avoidingCycle_2 rfl rfl ?_
  refine ar_ld i_L_avoidingCycle_3 rfl rfl ?_
  refine ar_callh i_L_avoidingCycle_4 rfl ⟨_, _, _, rfl, h⟩ (Nat.le_of_ble_eq_true rfl) hc (fun w S1 hq => ?_) (fun E S1 hq => by obtain ⟨h1, -⟩ := hq; cases h1)
  obtain ⟨h1, h2⟩ := hq
  cases h1
  obtain ⟨f, hf⟩ := (hP S1 h2).2
  refine ar_ar i_L_avoidingCycle_7 rfl ?_
  refine av_stl i_L_avoidingCycle_8 (j := 0) (by omega) hf (by omega) (by omega) (fun S2 g2 k2 => ?_)
  refine ar_go i_L_avoidingCycle_9 ?_
  refine ar_push i_L_avoidingCycle_18 ?_
  exact ar_ret i_L_avoidingCycle_19 rfl ⟨rfl, S1, h2, k2, _, g2, updL_eq⟩
theorem l_avoidingCycle_x (d : Nat) {S : aq_S} {hs : Int32} {a0 : Int32} {E : String} {c : Int32} {P : aq_S → Prop} (h : hX S hs) (hP : ∀ S', P S' → aq_le S S') (hE : ([("java/lang/IllegalArgumentException", 1), ("java/util/NoSuchElementException", 2)] : List (String × Int32)).lookup E = some c) (hc : aX d 103 [.ref 1, .int a0] S (fun o S' => o = .inr E ∧ P S')) : aX (d + 1) 245 [.ref 1, .int a0, .ref 71] S (fun o S' => o = .inl (some (.int c)) ∧ P S') := by
  refine ar_run (Nat.le_of_ble_eq_true rfl) (fun o S1 h => hP S1 h.2) ?_
  refine ar_ld i_L_avoidingCycle_0 rfl rfl ?_
  refine ar_push i_L_avoidingCycle_1 ?_
  refine ar_ld i_L_avoidingCycle_2 rfl rfl ?_
  refine ar_ld i_L_avoidingCycle_3 rfl rfl ?_
  exact ar_callh i_L_avoidingCycle_4 rfl ⟨_, _, _, rfl, h⟩ (Nat.le_of_ble_eq_true rfl) hc (fun w S1 hq => by obtain ⟨h1, -⟩ := hq; cases h1) (fun E' S1 hq => by obtain ⟨h1, h2⟩ := hq; cases h1; exact ⟨c, hE, rfl, h2⟩)
theorem l_newRow (d : Nat) {S : aq_S} {hs : Int32} {a0 : Int32} {a1 : Int32} {a2 : Int32} {v : Int32} {P : aq_S → Prop} (h : hX S hs) (hP : ∀ S', P S' → aq_le S S' ∧ oA S') (hc : aX d 104 [.ref 1, .int a0, .int a1, .int a2] S (fun o S' => o = .inl (some (.int v)) ∧ P S')) : aX (d + 1) 246 [.ref 1, .int a0, .int a1, .int a2, .ref 71] S (fun o S' => o = .inl (some (.int 0)) ∧ ∃ S1, P S1 ∧ aq_fr S1 S' (fun q => q = 71) ∧ oV S' v.toInt64) := by
  refine ar_run (Nat.le_of_ble_eq_true rfl) (fun o S1 h => by obtain ⟨-, S2, p, q, -⟩ := h; have a := (hP S2 p).1; have b := q.le; exact ⟨Nat.le_trans a.1 b.1, Nat.le_trans a.2.1 b.2.1, Nat.le_trans a.2.2 b.2.2⟩) ?_
  refine ar_ld i_L_newRow_0 rfl rfl ?_
  refine ar_push i_L_newRow_2 ?_
  refine ar_ld i_L_newRow_3 rfl rfl ?_
  refine ar_ld i_L_newRow_4 rfl rfl ?_
  refine ar_ld i_L_newRow_5 rfl rfl ?_
  refine ar_ld i_L_newRow_6 rfl rfl ?_
  refine ar_callh i_L_newRow_7 rfl ⟨_, _, _, rfl, h⟩ (Nat.le_of_ble_eq_true rfl) hc (fun w S1 hq => ?_) (fun E S1 hq => by obtain ⟨h1, -⟩ := hq; cases h1)
  obtain ⟨h1, h2⟩ := hq
  cases h1
  obtain ⟨f, hf⟩ := (hP S1 h2).2
  refine ar_ar i_L_newRow_10 rfl ?_
  refine av_stl i_L_newRow_11 (j := 0) (by omega) hf (by omega) (by omega) (fun S2 g2 k2 => ?_)
  refine ar_go i_L_newRow_12 ?_
  refine ar_push i_L_newRow_19 ?_
  exact ar_ret i_L_newRow_20 rfl ⟨rfl, S1, h2, k2, _, g2, updL_eq⟩
theorem l_newRow_x (d : Nat) {S : aq_S} {hs : Int32} {a0 : Int32} {a1 : Int32} {a2 : Int32} {E : String} {c : Int32} {P : aq_S → Prop} (h : hX S hs) (hP : ∀ S', P S' → aq_le S S') (hE : ([("java/lang/IllegalArgumentException", 1)] : List (String × Int32)).lookup E = some c) (hc : aX d 104 [.ref 1, .int a0, .int a1, .int a2] S (fun o S' => o = .inr E ∧ P S')) : aX (d + 1) 246 [.ref 1, .int a0, .int a1, .int a2, .ref 71] S (fun o S' => o = .inl (some (.int c)) ∧ P S') := by
  refine ar_run (Nat.le_of_ble_eq_true rfl) (fun o S1 h => hP S1 h.2) ?_
  refine ar_ld i_L_newRow_0 rfl rfl ?_
  refine ar_push i_L_newRow_2 ?_
  refine ar_ld i_L_newRow_3 rfl rfl ?_
  refine ar_ld i_L_newRow_4 rfl rfl ?_
  refine ar_ld i_L_newRow_5 rfl rfl ?_
  refine ar_ld i_L_newRow_6 rfl rfl ?_
  exact ar_callh i_L_newRow_7 rfl ⟨_, _, _, rfl, h⟩ (Nat.le_of_ble_eq_true rfl) hc (fun w S1 hq => by obtain ⟨h1, -⟩ := hq; cases h1) (fun E' S1 hq => by obtain ⟨h1, h2⟩ := hq; cases h1; exact ⟨c, hE, rfl, h2⟩)
theorem l_fillDensities (d : Nat) {S : aq_S} {hs : Int32} {a0 : Int32} {a1 : Int32} {v : Int32} {P : aq_S → Prop} (h : hX S hs) (hP : ∀ S', P S' → aq_le S S' ∧ oA S') (hc : aX d 105 [.ref 1, .int a0, .int a1] S (fun o S' => o = .inl (some (.int v)) ∧ P S')) : aX (d + 1) 247 [.ref 1, .int a0, .int a1, .ref 71] S (fun o S' => o = .inl (some (.int 0)) ∧ ∃ S1, P S1 ∧ aq_fr S1 S' (fun q => q = 71) ∧ oV S' v.toInt64) := by
  refine ar_run (Nat.le_of_ble_eq_true rfl) (fun o S1 h => by obtain ⟨-, S2, p, q, -⟩ := h; have a := (hP S2 p).1; have b := q.le; exact ⟨Nat.le_trans a.1 b.1, Nat.le_trans a.2.1 b.2.1, Nat.le_trans a.2.2 b.2.2⟩) ?_
  refine ar_ld i_L_fillDensities_0 rfl rfl ?_
  refine ar_push i_L_fillDensities_1 ?_
  refine ar_ld i_L_fillDensities_2 rfl rfl ?_
  refine ar_ld i_L_fillDensities_3 rfl rfl ?_
  refine ar_ld i_L_fillDensities_4 rfl rfl ?_
  refine ar_callh i_L_fillDensities_5 rfl ⟨_, _, _, rfl, h⟩ (Nat.le_of_ble_eq_true rfl) hc (fun w S1 hq => ?_) (fun E S1 hq => by obtain ⟨h1, -⟩ := hq; cases h1)
  obtain ⟨h1, h2⟩ := hq
  cases h1
  obtain ⟨f, hf⟩ := (hP S1 h2).2
  refine ar_ar i_L_fillDensities_8 rfl ?_
  refine av_stl i_L_fillDensities_9 (j := 0) (by omega) hf (by omega) (by omega) (fun S2 g2 k2 => ?_)
  refine ar_go i_L_fillDensities_10 ?_
  refine ar_push i_L_fillDensities_21 ?_
  exact ar_ret i_L_fillDensities_22 rfl ⟨rfl, S1, h2, k2, _, g2, updL_eq⟩
theorem l_fillDensities_x (d : Nat) {S : aq_S} {hs : Int32} {a0 : Int32} {a1 : Int32} {E : String} {c : Int32} {P : aq_S → Prop} (h : hX S hs) (hP : ∀ S', P S' → aq_le S S') (hE : ([("java/lang/IllegalArgumentException", 1), ("java/lang/IllegalStateException", 2)] : List (String × Int32)).lookup E = some c) (hc : aX d 105 [.ref 1, .int a0, .int a1] S (fun o S' => o = .inr E ∧ P S')) : aX (d + 1) 247 [.ref 1, .int a0, .int a1, .ref 71] S (fun o S' => o = .inl (some (.int c)) ∧ P S') := by
  refine ar_run (Nat.le_of_ble_eq_true rfl) (fun o S1 h => hP S1 h.2) ?_
  refine ar_ld i_L_fillDensities_0 rfl rfl ?_
  refine ar_push i_L_fillDensities_1 ?_
  refine ar_ld i_L_fillDensities_2 rfl rfl ?_
  refine ar_ld i_L_fillDensities_3 rfl rfl ?_
  refine ar_ld i_L_fillDensities_4 rfl rfl ?_
  exact ar_callh i_L_fillDensities_5 rfl ⟨_, _, _, rfl, h⟩ (Nat.le_of_ble_eq_true rfl) hc (fun w S1 hq => by obtain ⟨h1, -⟩ := hq; cases h1) (fun E' S1 hq => by obtain ⟨h1, h2⟩ := hq; cases h1; exact ⟨c, hE, rfl, h2⟩)
theorem l_takeRemainder (d : Nat) {S : aq_S} {hs : Int32} {a0 : Int32} {a1 : Int32} {a2 : Int32} {v : Int32} {P : aq_S → Prop} (h : hX S hs) (hP : ∀ S', P S' → aq_le S S' ∧ oA S') (hc : aX d 106 [.ref 1, .int a0, .int a1, .int a2] S (fun o S' => o = .inl (some (.int v)) ∧ P S')) : aX (d + 1) 248 [.ref 1, .int a0, .int a1, .int a2, .ref 71] S (fun o S' => o = .inl (some (.int 0)) ∧ ∃ S1, P S1 ∧ aq_fr S1 S' (fun q => q = 71) ∧ oV S' v.toInt64) := by
  refine ar_run (Nat.le_of_ble_eq_true rfl) (fun o S1 h => by obtain ⟨-, S2, p, q, -⟩ := h; have a := (hP S2 p).1; have b := q.le; exact ⟨Nat.le_trans a.1 b.1, Nat.le_trans a.2.1 b.2.1, Nat.le_trans a.2.2 b.2.2⟩) ?_
  refine ar_ld i_L_takeRemainder_0 rfl rfl ?_
  refine ar_push i_L_takeRemainder_2 ?_
  refine ar_ld i_L_takeRemainder_3 rfl rfl ?_
  refine ar_ld i_L_takeRemainder_4 rfl rfl ?_
  refine ar_ld i_L_takeRemainder_5 rfl rfl ?_
  refine ar_ld i_L_takeRemainder_6 rfl rfl ?_
  refine ar_callh i_L_takeRemainder_7 rfl ⟨_, _, _, rfl, h⟩ (Nat.le_of_ble_eq_true rfl) hc (fun w S1 hq => ?_) (fun E S1 hq => by obtain ⟨h1, -⟩ := hq; cases h1)
  obtain ⟨h1, h2⟩ := hq
  cases h1
  obtain ⟨f, hf⟩ := (hP S1 h2).2
  refine ar_ar i_L_takeRemainder_10 rfl ?_
  refine av_stl i_L_takeRemainder_11 (j := 0) (by omega) hf (by omega) (by omega) (fun S2 g2 k2 => ?_)
  refine ar_go i_L_takeRemainder_12 ?_
  refine ar_push i_L_takeRemainder_31 ?_
  exact ar_ret i_L_takeRemainder_32 rfl ⟨rfl, S1, h2, k2, _, g2, updL_eq⟩
theorem l_takeRemainder_x (d : Nat) {S : aq_S} {hs : Int32} {a0 : Int32} {a1 : Int32} {a2 : Int32} {E : String} {c : Int32} {P : aq_S → Prop} (h : hX S hs) (hP : ∀ S', P S' → aq_le S S') (hE : ([("java/lang/IllegalArgumentException", 1), ("java/lang/IllegalStateException", 2), ("java/lang/IndexOutOfBoundsException", 3), ("java/lang/ArithmeticException", 4)] : List (String × Int32)).lookup E = some c) (hc : aX d 106 [.ref 1, .int a0, .int a1, .int a2] S (fun o S' => o = .inr E ∧ P S')) : aX (d + 1) 248 [.ref 1, .int a0, .int a1, .int a2, .ref 71] S (fun o S' => o = .inl (some (.int c)) ∧ P S') := by
  refine ar_run (Nat.le_of_ble_eq_true rfl) (fun o S1 h => hP S1 h.2) ?_
  refine ar_ld i_L_takeRemainder_0 rfl rfl ?_
  refine ar_push i_L_takeRemainder_2 ?_
  refine ar_ld i_L_takeRemainder_3 rfl rfl ?_
  refine ar_ld i_L_takeRemainder_4 rfl rfl ?_
  refine ar_ld i_L_takeRemainder_5 rfl rfl ?_
  refine ar_ld i_L_takeRemainder_6 rfl rfl ?_
  exact ar_callh i_L_takeRemainder_7 rfl ⟨_, _, _, rfl, h⟩ (Nat.le_of_ble_eq_true rfl) hc (fun w S1 hq => by obtain ⟨h1, -⟩ := hq; cases h1) (fun E' S1 hq => by obtain ⟨h1, h2⟩ := hq; cases h1; exact ⟨c, hE, rfl, h2⟩)
theorem l_elementBits (d : Nat) {S : aq_S} {hs : Int32} {a0 : Int32} {a1 : Int32} {v : Int64} {P : aq_S → Prop} (h : hX S hs) (hP : ∀ S', P S' → aq_le S S' ∧ oA S') (hc : aX d 107 [.ref 1, .int a0, .int a1] S (fun o S' => o = .inl (some (.long v)) ∧ P S')) : aX (d + 1) 249 [.ref 1, .int a0, .int a1, .ref 71] S (fun o S' => o = .inl (some (.int 0)) ∧ ∃ S1, P S1 ∧ aq_fr S1 S' (fun q => q = 71) ∧ oV S' v) := by
  refine ar_run (Nat.le_of_ble_eq_true rfl) (fun o S1 h => by obtain ⟨-, S2, p, q, -⟩ := h; have a := (hP S2 p).1; have b := q.le; exact ⟨Nat.le_trans a.1 b.1, Nat.le_trans a.2.1 b.2.1, Nat.le_trans a.2.2 b.2.2⟩) ?_
  refine ar_ld i_L_elementBits_0 rfl rfl ?_
  refine ar_push i_L_elementBits_1 ?_
  refine ar_ld i_L_elementBits_2 rfl rfl ?_
  refine ar_ld i_L_elementBits_3 rfl rfl ?_
  refine ar_ld i_L_elementBits_4 rfl rfl ?_
  refine ar_callh i_L_elementBits_5 rfl ⟨_, _, _, rfl, h⟩ (Nat.le_of_ble_eq_true rfl) hc (fun w S1 hq => ?_) (fun E S1 hq => by obtain ⟨h1, -⟩ := hq; cases h1)
  obtain ⟨h1, h2⟩ := hq
  cases h1
  obtain ⟨f, hf⟩ := (hP S1 h2).2
  refine av_stl i_L_elementBits_8 (j := 0) (by omega) hf (by omega) (by omega) (fun S2 g2 k2 => ?_)
  refine ar_go i_L_elementBits_9 ?_
  refine ar_push i_L_elementBits_24 ?_
  exact ar_ret i_L_elementBits_25 rfl ⟨rfl, S1, h2, k2, _, g2, updL_eq⟩
theorem l_elementBits_x (d : Nat) {S : aq_S} {hs : Int32} {a0 : Int32} {a1 : Int32} {E : String} {c : Int32} {P : aq_S → Prop} (h : hX S hs) (hP : ∀ S', P S' → aq_le S S') (hE : ([("java/lang/IllegalArgumentException", 1), ("java/lang/IllegalStateException", 2), ("java/lang/IndexOutOfBoundsException", 3)] : List (String × Int32)).lookup E = some c) (hc : aX d 107 [.ref 1, .int a0, .int a1] S (fun o S' => o = .inr E ∧ P S')) : aX (d + 1) 249 [.ref 1, .int a0, .int a1, .ref 71] S (fun o S' => o = .inl (some (.int c)) ∧ P S') := by
  refine ar_run (Nat.le_of_ble_eq_true rfl) (fun o S1 h => hP S1 h.2) ?_
  refine ar_ld i_L_elementBits_0 rfl rfl ?_
  refine ar_push i_L_elementBits_1 ?_
  refine ar_ld i_L_elementBits_2 rfl rfl ?_
  refine ar_ld i_L_elementBits_3 rfl rfl ?_
  refine ar_ld i_L_elementBits_4 rfl rfl ?_
  exact ar_callh i_L_elementBits_5 rfl ⟨_, _, _, rfl, h⟩ (Nat.le_of_ble_eq_true rfl) hc (fun w S1 hq => by obtain ⟨h1, -⟩ := hq; cases h1) (fun E' S1 hq => by obtain ⟨h1, h2⟩ := hq; cases h1; exact ⟨c, hE, rfl, h2⟩)
theorem l_restoreSnapshot (d : Nat) {S : aq_S} {hs : Int32}  {v : Int32} {P : aq_S → Prop} (h : hX S hs) (hP : ∀ S', P S' → aq_le S S' ∧ oA S') (hc : aX d 109 [.ref 1] S (fun o S' => o = .inl (some (.int v)) ∧ P S')) : aX (d + 1) 250 [.ref 1, .ref 71] S (fun o S' => o = .inl (some (.int 0)) ∧ ∃ S1, P S1 ∧ aq_fr S1 S' (fun q => q = 71) ∧ oV S' v.toInt64) := by
  refine ar_run (Nat.le_of_ble_eq_true rfl) (fun o S1 h => by obtain ⟨-, S2, p, q, -⟩ := h; have a := (hP S2 p).1; have b := q.le; exact ⟨Nat.le_trans a.1 b.1, Nat.le_trans a.2.1 b.2.1, Nat.le_trans a.2.2 b.2.2⟩) ?_
  refine ar_ld i_L_restoreSnapshot_0 rfl rfl ?_
  refine ar_push i_L_restoreSnapshot_1 ?_
  refine ar_ld i_L_restoreSnapshot_2 rfl rfl ?_
  refine ar_callh i_L_restoreSnapshot_3 rfl ⟨_, _, _, rfl, h⟩ (Nat.le_of_ble_eq_true rfl) hc (fun w S1 hq => ?_) (fun E S1 hq => by obtain ⟨h1, -⟩ := hq; cases h1)
  obtain ⟨h1, h2⟩ := hq
  cases h1
  obtain ⟨f, hf⟩ := (hP S1 h2).2
  refine ar_ar i_L_restoreSnapshot_6 rfl ?_
  refine av_stl i_L_restoreSnapshot_7 (j := 0) (by omega) hf (by omega) (by omega) (fun S2 g2 k2 => ?_)
  refine ar_go i_L_restoreSnapshot_8 ?_
  refine ar_push i_L_restoreSnapshot_14 ?_
  exact ar_ret i_L_restoreSnapshot_15 rfl ⟨rfl, S1, h2, k2, _, g2, updL_eq⟩
theorem l_restoreSnapshot_x (d : Nat) {S : aq_S} {hs : Int32}  {E : String} {c : Int32} {P : aq_S → Prop} (h : hX S hs) (hP : ∀ S', P S' → aq_le S S') (hE : ([("java/lang/IllegalStateException", 1)] : List (String × Int32)).lookup E = some c) (hc : aX d 109 [.ref 1] S (fun o S' => o = .inr E ∧ P S')) : aX (d + 1) 250 [.ref 1, .ref 71] S (fun o S' => o = .inl (some (.int c)) ∧ P S') := by
  refine ar_run (Nat.le_of_ble_eq_true rfl) (fun o S1 h => hP S1 h.2) ?_
  refine ar_ld i_L_restoreSnapshot_0 rfl rfl ?_
  refine ar_push i_L_restoreSnapshot_1 ?_
  refine ar_ld i_L_restoreSnapshot_2 rfl rfl ?_
  exact ar_callh i_L_restoreSnapshot_3 rfl ⟨_, _, _, rfl, h⟩ (Nat.le_of_ble_eq_true rfl) hc (fun w S1 hq => by obtain ⟨h1, -⟩ := hq; cases h1) (fun E' S1 hq => by obtain ⟨h1, h2⟩ := hq; cases h1; exact ⟨c, hE, rfl, h2⟩)
end
