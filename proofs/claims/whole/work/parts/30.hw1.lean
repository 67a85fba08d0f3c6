/-! ===== the object tree of a HoleWords, its tests of arguments ===== -/
section
theorem av_cx {d y : Nat} {Q : aq_F} {pc n : Nat} {L : aq_L} {st r : List Value} {S : aq_S} {y' nA : Nat} {rc : Option Nat} {As : List Value} {E : String} {P : aq_S → Prop} (hm : aq_T y pc = some (aq_call y' nA rc n)) (hp : aq_pop nA st = some (As, r)) (hr : aq_rcv rc As S) (hc : (r.map fun v => v.category).sum ≤ 8) (hX : aX d y' As S (fun o S' => o = .inr E ∧ P S')) (k : ∀ S1, P S1 → Q (.inr E) S1) : aG d y Q pc L st S :=
  ar_call hm hp hr hc hX (fun _ S1 h => by obtain ⟨h1, h2⟩ := h; cases h1) (fun _ S1 h => by obtain ⟨h1, h2⟩ := h; cases h1; exact k S1 h2)
theorem aq_le_thr (S : aq_S) : aq_le S (aq_thrown S) := ⟨Nat.le_refl _, Nat.le_succ _, Nat.le_add_right _ _⟩
/-- a store at b: its object, its row of words -/
def hS (S : aq_S) (b k : Nat) : Prop := S.2.2.2 b = some (.inr (2, [.ref (b + 1), .ref (b + 2), .int (nI k)]))
def hA (S : aq_S) (b : Nat) : Prop := ∃ f, S.2.2.2 (b + 1) = some (.inl (5, (4, .inr (.inr (.inr (.inr f)))))) ∧ ∀ j, j < 4 → f j = some (b + 4 + 2 * j)
def hWs (S : aq_S) (b : Nat) (N : Nat → Nat) (G : Nat → Nat → Int32) : Prop := ∀ r, r < 4 → isW S (b + 4 + 2 * r) (N r) (G r)
def hX (S : aq_S) (hs : Int32) : Prop := S.2.2.2 1 = some (.inr (6, [.ref 2, .ref 14, .ref 26, .ref 31, .ref 42, .ref 43, .ref 45, .ref 47, .int hs]))
/-- what stands above the words -/
def hT (S : aq_S) (k : Nat) (hs : Int32) : Prop := hX S hs ∧ hS S 2 k ∧ hA S 2
theorem hS.fr {S S' : aq_S} {b k : Nat} {P : Nat → Prop} (h : hS S b k) (q : aq_fr S S' P) (h1 : ¬ P b) : hS S' b k := (q.2.2.2 b h1).trans h
theorem hA.fr {S S' : aq_S} {b : Nat} {P : Nat → Prop} (h : hA S b) (q : aq_fr S S' P) (h1 : ¬ P (b + 1)) : hA S' b := by
  obtain ⟨f, hf, hg⟩ := h
  exact ⟨f, (q.2.2.2 _ h1).trans hf, hg⟩
theorem hX.fr {S S' : aq_S} {hs : Int32} {P : Nat → Prop} (h : hX S hs) (q : aq_fr S S' P) (h1 : ¬ P 1) : hX S' hs := (q.2.2.2 1 h1).trans h
theorem hT.fr {S S' : aq_S} {k : Nat} {hs : Int32} {P : Nat → Prop} (h : hT S k hs) (q : aq_fr S S' P) (h1 : ∀ x, x < 4 → ¬ P x) : hT S' k hs := ⟨h.1.fr q (h1 1 (by omega)), h.2.1.fr q (h1 2 (by omega)), h.2.2.fr q (h1 3 (by omega))⟩
theorem x_wordOrNull (d : Nat) {S : aq_S} {b k r : Nat} (h : hS S b k) (ha : hA S b) (hr : r < 4) : aX (d + 1) 19 [.ref b, .int (nI r)] S (fun o S' => o = .inl (some (.ref (b + 4 + 2 * r))) ∧ S' = S) := by
  obtain ⟨f, hf, hg⟩ := ha
  refine ar_run (Nat.le_of_ble_eq_true rfl) (fun o S1 h => aq_le_of (aq_le_refl S) h) ?_
  refine ar_ld i_X2_wordOrNull_0 rfl rfl ?_
  refine ar_iff i_X2_wordOrNull_1 rfl (nI_pos (by omega)) ?_
  refine ar_ld i_X2_wordOrNull_4 rfl rfl ?_
  refine ar_ld i_X2_wordOrNull_5 rfl rfl ?_
  refine ar_gf i_X2_wordOrNull_6 (h) rfl ?_
  refine ar_len i_X2_wordOrNull_9 (by decide) (hf) ?_
  refine ar_ift i_X2_wordOrNull_10 rfl (nI_lt (a := r) (b := 4) (by omega) (by omega)) ?_
  refine ar_ld i_X2_wordOrNull_17 rfl rfl ?_
  refine ar_gf i_X2_wordOrNull_18 (h) rfl ?_
  refine ar_ld i_X2_wordOrNull_21 rfl rfl ?_
  refine av_lda i_X2_wordOrNull_22 (hf) (by omega) (by omega) ?_
  rw [hg r hr]
  exact ar_ret i_X2_wordOrNull_23 rfl ⟨rfl, rfl⟩
theorem x_wordOrNull_no (d : Nat) {S : aq_S} {b k : Nat} {p : Int32} (h : hS S b k) (ha : hA S b) (hp : p < 0 ∨ nI 4 ≤ p) : aX (d + 1) 19 [.ref b, .int p] S (fun o S' => o = .inl (some .null) ∧ S' = S) := by
  obtain ⟨f, hf, hg⟩ := ha
  refine ar_run (Nat.le_of_ble_eq_true rfl) (fun o S1 h => aq_le_of (aq_le_refl S) h) ?_
  refine ar_ld i_X2_wordOrNull_0 rfl rfl ?_
  refine ar_if i_X2_wordOrNull_1 rfl (fun c1 => ?_) (fun c1 => ?_)
  · refine ar_push i_X2_wordOrNull_13 ?_
    refine ar_go i_X2_wordOrNull_14 ?_
    exact ar_ret i_X2_wordOrNull_23 rfl ⟨rfl, rfl⟩
  · refine ar_ld i_X2_wordOrNull_4 rfl rfl ?_
    refine ar_ld i_X2_wordOrNull_5 rfl rfl ?_
    refine ar_gf i_X2_wordOrNull_6 (h) rfl ?_
    refine ar_len i_X2_wordOrNull_9 (by decide) (hf) ?_
    refine ar_iff i_X2_wordOrNull_10 rfl (fun z => absurd z (Int32.not_lt.mpr (hp.resolve_left c1))) ?_
    refine ar_push i_X2_wordOrNull_13 ?_
    refine ar_go i_X2_wordOrNull_14 ?_
    exact ar_ret i_X2_wordOrNull_23 rfl ⟨rfl, rfl⟩
theorem x_wordIn (d : Nat) {S : aq_S} {k r : Nat} {hs : Int32} (h : hT S k hs) (hr : r < 4) : aX (d + 2) 110 [.ref 1, .int (nI r)] S (fun o S' => o = .inl (some (.ref (6 + 2 * r))) ∧ S' = S) := by
  obtain ⟨h1, h2, h3⟩ := h
  refine ar_run (Nat.le_of_ble_eq_true rfl) (fun o S1 h => aq_le_of (aq_le_refl S) h) ?_
  refine ar_ld i_X6_wordIn_0 rfl rfl ?_
  refine ar_gf i_X6_wordIn_1 (h1) rfl ?_
  refine ar_ld i_X6_wordIn_4 rfl rfl ?_
  refine ar_cr i_X6_wordIn_5 rfl ⟨_, _, _, rfl, h2⟩ (Nat.le_of_ble_eq_true rfl) (x_wordOrNull d h2 h3 hr) ?_
  refine ar_st i_X6_wordIn_8 rfl rfl ?_
  refine ar_ld i_X6_wordIn_9 rfl rfl ?_
  refine ar_ift i_X6_wordIn_10 rfl (trivial) ?_
  refine ar_ld i_X6_wordIn_24 rfl rfl ?_
  exact ar_ret i_X6_wordIn_25 rfl ⟨rfl, rfl⟩
theorem x_wordIn_no (d : Nat) {S : aq_S} {k : Nat} {p hs : Int32} (h : hT S k hs) (hp : p < 0 ∨ nI 4 ≤ p) : aX (d + 2) 110 [.ref 1, .int p] S (fun o S' => o = .inr "java/lang/IllegalArgumentException" ∧ S' = aq_thrown S) := by
  obtain ⟨h1, h2, h3⟩ := h
  refine ar_run (Nat.le_of_ble_eq_true rfl) (fun o S1 h => aq_le_of (aq_le_thr S) h) ?_
  refine ar_ld i_X6_wordIn_0 rfl rfl ?_
  refine ar_gf i_X6_wordIn_1 (h1) rfl ?_
  refine ar_ld i_X6_wordIn_4 rfl rfl ?_
  refine ar_cr i_X6_wordIn_5 rfl ⟨_, _, _, rfl, h2⟩ (Nat.le_of_ble_eq_true rfl) (x_wordOrNull_no d h2 h3 hp) ?_
  refine ar_st i_X6_wordIn_8 rfl rfl ?_
  refine ar_ld i_X6_wordIn_9 rfl rfl ?_
  refine ar_iff i_X6_wordIn_10 rfl (id) ?_
  exact ar_thr i_X6_wordIn_13 (Nat.le_of_ble_eq_true rfl) ⟨rfl, rfl⟩
/-- a hole or one of k letters -/
def isY (k : Nat) (s : Int32) : Prop := s = -1 ∨ (¬ s < 0 ∧ s < nI k)
theorem x_requireSymbol (d : Nat) {S : aq_S} {k : Nat} {s hs : Int32} (h : hT S k hs) (hy : isY k s) : aX (d + 1) 112 [.ref 1, .int s] S (fun o S' => o = .inl none ∧ S' = S) := by
  obtain ⟨h1, h2, h3⟩ := h
  refine ar_run (Nat.le_of_ble_eq_true rfl) (fun o S1 h => aq_le_of (aq_le_refl S) h) ?_
  refine ar_ld i_X6_requireSymbol_0 rfl rfl ?_
  refine ar_push i_X6_requireSymbol_1 ?_
  refine ar_if i_X6_requireSymbol_2 rfl (fun c2 => ?_) (fun c2 => ?_)
  · exact ar_retv i_X6_requireSymbol_31 ⟨rfl, rfl⟩
  · obtain ⟨y1, y2⟩ := hy.resolve_left c2
    refine ar_ld i_X6_requireSymbol_5 rfl rfl ?_
    refine ar_iff i_X6_requireSymbol_6 rfl (y1) ?_
    refine ar_ld i_X6_requireSymbol_9 rfl rfl ?_
    refine ar_ld i_X6_requireSymbol_10 rfl rfl ?_
    refine ar_gf i_X6_requireSymbol_11 (h1) rfl ?_
    refine ar_gf i_X6_requireSymbol_14 (h2) rfl ?_
    refine ar_ift i_X6_requireSymbol_17 rfl (y2) ?_
    exact ar_retv i_X6_requireSymbol_31 ⟨rfl, rfl⟩
theorem x_requireSymbol_no (d : Nat) {S : aq_S} {k : Nat} {s hs : Int32} (h : hT S k hs) (hy : ¬ isY k s) : aX (d + 1) 112 [.ref 1, .int s] S (fun o S' => o = .inr "java/lang/IllegalArgumentException" ∧ S' = aq_thrown S) := by
  obtain ⟨h1, h2, h3⟩ := h
  refine ar_run (Nat.le_of_ble_eq_true rfl) (fun o S1 h => aq_le_of (aq_le_thr S) h) ?_
  refine ar_ld i_X6_requireSymbol_0 rfl rfl ?_
  refine ar_push i_X6_requireSymbol_1 ?_
  refine ar_iff i_X6_requireSymbol_2 rfl (fun z => hy (Or.inl z)) ?_
  refine ar_ld i_X6_requireSymbol_5 rfl rfl ?_
  refine ar_if i_X6_requireSymbol_6 rfl (fun c6 => ?_) (fun c6 => ?_)
  · exact ar_thr i_X6_requireSymbol_20 (Nat.le_of_ble_eq_true rfl) ⟨rfl, rfl⟩
  · refine ar_ld i_X6_requireSymbol_9 rfl rfl ?_
    refine ar_ld i_X6_requireSymbol_10 rfl rfl ?_
    refine ar_gf i_X6_requireSymbol_11 (h1) rfl ?_
    refine ar_gf i_X6_requireSymbol_14 (h2) rfl ?_
    refine ar_iff i_X6_requireSymbol_17 rfl (fun z => hy (Or.inr ⟨c6, z⟩)) ?_
    exact ar_thr i_X6_requireSymbol_20 (Nat.le_of_ble_eq_true rfl) ⟨rfl, rfl⟩
theorem x_requirePosition (d : Nat) {S : aq_S} {w n i : Nat} {g : Nat → Int32} (hw : isW S w n g) (hi : i < n) : aX (d + 2) 113 [.ref w, .int (nI i)] S (fun o S' => o = .inl none ∧ S' = S) := by
  have hn := hw.le
  refine ar_run (Nat.le_of_ble_eq_true rfl) (fun o S1 h => aq_le_of (aq_le_refl S) h) ?_
  refine ar_ld i_X6_requirePosition_0 rfl rfl ?_
  refine ar_iff i_X6_requirePosition_1 rfl (nI_pos (by omega)) ?_
  refine ar_ld i_X6_requirePosition_4 rfl rfl ?_
  refine ar_ld i_X6_requirePosition_5 rfl rfl ?_
  refine ar_cr i_X6_requirePosition_6 rfl ⟨_, _, _, rfl, hw.obj⟩ (Nat.le_of_ble_eq_true rfl) (w_size d hw) ?_
  refine ar_ift i_X6_requirePosition_9 rfl (nI_lt hi (by omega)) ?_
  exact ar_retv i_X6_requirePosition_23 ⟨rfl, rfl⟩
theorem x_requirePosition_no (d : Nat) {S : aq_S} {w n : Nat} {i : Int32} {g : Nat → Int32} (hw : isW S w n g) (hi : i < 0 ∨ nI n ≤ i) : aX (d + 2) 113 [.ref w, .int i] S (fun o S' => o = .inr "java/lang/IndexOutOfBoundsException" ∧ S' = aq_thrown S) := by
  refine ar_run (Nat.le_of_ble_eq_true rfl) (fun o S1 h => aq_le_of (aq_le_thr S) h) ?_
  refine ar_ld i_X6_requirePosition_0 rfl rfl ?_
  refine ar_if i_X6_requirePosition_1 rfl (fun c1 => ?_) (fun c1 => ?_)
  · exact ar_thr i_X6_requirePosition_12 (Nat.le_of_ble_eq_true rfl) ⟨rfl, rfl⟩
  · refine ar_ld i_X6_requirePosition_4 rfl rfl ?_
    refine ar_ld i_X6_requirePosition_5 rfl rfl ?_
    refine ar_cr i_X6_requirePosition_6 rfl ⟨_, _, _, rfl, hw.obj⟩ (Nat.le_of_ble_eq_true rfl) (w_size d hw) ?_
    refine ar_iff i_X6_requirePosition_9 rfl (fun z => absurd z (Int32.not_lt.mpr (hi.resolve_left c1))) ?_
    exact ar_thr i_X6_requirePosition_12 (Nat.le_of_ble_eq_true rfl) ⟨rfl, rfl⟩
/-! ===== append, length, symbol, setSymbol, clear ===== -/
theorem x_append (d : Nat) {S : aq_S} {k r : Nat} {hs s : Int32} {N : Nat → Nat} {G : Nat → Nat → Int32} (h : hT S k hs) (hw : hWs S 2 N G) (hr : r < 4) (hy : isY k s) (hn : N r < 40) : aX (d + 3) 68 [.ref 1, .int (nI r), .int s] S (fun o S' => o = .inl (some (.int (nI (N r + 1)))) ∧ isW S' (6 + 2 * r) (N r + 1) (upd (G r) (N r) s) ∧ aq_fr S S' (fun q => q = 6 + 2 * r ∨ q = 6 + 2 * r + 1)) := by
  have hwr := hw r hr
  refine ar_run (Nat.le_of_ble_eq_true rfl) (fun o S1 h => h.2.2.le) ?_
  refine ar_ld i_X6_append_0 rfl rfl ?_
  refine ar_ld i_X6_append_1 rfl rfl ?_
  refine ar_cr i_X6_append_2 rfl ⟨_, _, _, rfl, (h.1)⟩ (Nat.le_of_ble_eq_true rfl) (x_wordIn d h hr) ?_
  refine ar_st i_X6_append_5 rfl rfl ?_
  refine ar_ld i_X6_append_6 rfl rfl ?_
  refine ar_ld i_X6_append_7 rfl rfl ?_
  refine ar_cv i_X6_append_8 rfl ⟨_, _, _, rfl, (h.1)⟩ (Nat.le_of_ble_eq_true rfl) (x_requireSymbol (d + 1) h hy) ?_
  refine ar_ld i_X6_append_11 rfl rfl ?_
  refine ar_ld i_X6_append_12 rfl rfl ?_
  refine av_cr i_X6_append_13 rfl ⟨_, _, _, rfl, hwr.obj⟩ (Nat.le_of_ble_eq_true rfl) (w_add (d + 1) hwr s hn) (fun S1 h1 => ?_)
  refine ar_ift i_X6_append_16 rfl (by decide) ?_
  refine ar_ld i_X6_append_29 rfl rfl ?_
  refine ar_cr i_X6_append_30 rfl ⟨_, _, _, rfl, h1.1.obj⟩ (Nat.le_of_ble_eq_true rfl) (w_size (d + 1) h1.1) ?_
  exact ar_ret i_X6_append_33 rfl ⟨rfl, h1⟩
theorem x_append_full (d : Nat) {S : aq_S} {k r : Nat} {hs s : Int32} {N : Nat → Nat} {G : Nat → Nat → Int32} (h : hT S k hs) (hw : hWs S 2 N G) (hr : r < 4) (hy : isY k s) (hn : N r = 40) : aX (d + 3) 68 [.ref 1, .int (nI r), .int s] S (fun o S' => o = .inr "java/lang/IllegalStateException" ∧ S' = aq_thrown S) := by
  have hwr := hw r hr
  rw [hn] at hwr
  refine ar_run (Nat.le_of_ble_eq_true rfl) (fun o S1 h => aq_le_of (aq_le_thr S) h) ?_
  refine ar_ld i_X6_append_0 rfl rfl ?_
  refine ar_ld i_X6_append_1 rfl rfl ?_
  refine ar_cr i_X6_append_2 rfl ⟨_, _, _, rfl, (h.1)⟩ (Nat.le_of_ble_eq_true rfl) (x_wordIn d h hr) ?_
  refine ar_st i_X6_append_5 rfl rfl ?_
  refine ar_ld i_X6_append_6 rfl rfl ?_
  refine ar_ld i_X6_append_7 rfl rfl ?_
  refine ar_cv i_X6_append_8 rfl ⟨_, _, _, rfl, (h.1)⟩ (Nat.le_of_ble_eq_true rfl) (x_requireSymbol (d + 1) h hy) ?_
  refine ar_ld i_X6_append_11 rfl rfl ?_
  refine ar_ld i_X6_append_12 rfl rfl ?_
  refine ar_cr i_X6_append_13 rfl ⟨_, _, _, rfl, hwr.obj⟩ (Nat.le_of_ble_eq_true rfl) (w_add_full (d + 1) hwr s) ?_
  refine ar_iff i_X6_append_16 rfl (fun z => z rfl) ?_
  exact ar_thr i_X6_append_19 (Nat.le_of_ble_eq_true rfl) ⟨rfl, rfl⟩
theorem x_append_r (d : Nat) {S : aq_S} {k : Nat} {hs p s : Int32} (h : hT S k hs) (hp : p < 0 ∨ nI 4 ≤ p) : aX (d + 3) 68 [.ref 1, .int p, .int s] S (fun o S' => o = .inr "java/lang/IllegalArgumentException" ∧ S' = aq_thrown S) := by
  refine ar_run (Nat.le_of_ble_eq_true rfl) (fun o S1 h => aq_le_of (aq_le_thr S) h) ?_
  refine ar_ld i_X6_append_0 rfl rfl ?_
  refine ar_ld i_X6_append_1 rfl rfl ?_
  exact av_cx i_X6_append_2 rfl ⟨_, _, _, rfl, (h.1)⟩ (Nat.le_of_ble_eq_true rfl) (x_wordIn_no d h hp) (fun S1 h => ⟨rfl, h⟩)
theorem x_append_y (d : Nat) {S : aq_S} {k r : Nat} {hs s : Int32} (h : hT S k hs) (hr : r < 4) (hy : ¬ isY k s) : aX (d + 3) 68 [.ref 1, .int (nI r), .int s] S (fun o S' => o = .inr "java/lang/IllegalArgumentException" ∧ S' = aq_thrown S) := by
  refine ar_run (Nat.le_of_ble_eq_true rfl) (fun o S1 h => aq_le_of (aq_le_thr S) h) ?_
  refine ar_ld i_X6_append_0 rfl rfl ?_
  refine ar_ld i_X6_append_1 rfl rfl ?_
  refine ar_cr i_X6_append_2 rfl ⟨_, _, _, rfl, (h.1)⟩ (Nat.le_of_ble_eq_true rfl) (x_wordIn d h hr) ?_
  refine ar_st i_X6_append_5 rfl rfl ?_
  refine ar_ld i_X6_append_6 rfl rfl ?_
  refine ar_ld i_X6_append_7 rfl rfl ?_
  exact av_cx i_X6_append_8 rfl ⟨_, _, _, rfl, (h.1)⟩ (Nat.le_of_ble_eq_true rfl) (x_requireSymbol_no (d + 1) h hy) (fun S1 h => ⟨rfl, h⟩)
theorem x_length (d : Nat) {S : aq_S} {k r : Nat} {hs : Int32} {N : Nat → Nat} {G : Nat → Nat → Int32} (h : hT S k hs) (hw : hWs S 2 N G) (hr : r < 4) : aX (d + 3) 72 [.ref 1, .int (nI r)] S (fun o S' => o = .inl (some (.int (nI (N r)))) ∧ S' = S) := by
  have hwr := hw r hr
  refine ar_run (Nat.le_of_ble_eq_true rfl) (fun o S1 h => aq_le_of (aq_le_refl S) h) ?_
  refine ar_ld i_X6_length_0 rfl rfl ?_
  refine ar_ld i_X6_length_1 rfl rfl ?_
  refine ar_cr i_X6_length_2 rfl ⟨_, _, _, rfl, (h.1)⟩ (Nat.le_of_ble_eq_true rfl) (x_wordIn d h hr) ?_
  refine ar_cr i_X6_length_5 rfl ⟨_, _, _, rfl, hwr.obj⟩ (Nat.le_of_ble_eq_true rfl) (w_size (d + 1) hwr) ?_
  exact ar_ret i_X6_length_8 rfl ⟨rfl, rfl⟩
theorem x_length_r (d : Nat) {S : aq_S} {k : Nat} {hs p : Int32} (h : hT S k hs) (hp : p < 0 ∨ nI 4 ≤ p) : aX (d + 3) 72 [.ref 1, .int p] S (fun o S' => o = .inr "java/lang/IllegalArgumentException" ∧ S' = aq_thrown S) := by
  refine ar_run (Nat.le_of_ble_eq_true rfl) (fun o S1 h => aq_le_of (aq_le_thr S) h) ?_
  refine ar_ld i_X6_length_0 rfl rfl ?_
  refine ar_ld i_X6_length_1 rfl rfl ?_
  exact av_cx i_X6_length_2 rfl ⟨_, _, _, rfl, (h.1)⟩ (Nat.le_of_ble_eq_true rfl) (x_wordIn_no d h hp) (fun S1 h => ⟨rfl, h⟩)
theorem x_symbol (d : Nat) {S : aq_S} {k r i : Nat} {hs : Int32} {N : Nat → Nat} {G : Nat → Nat → Int32} (h : hT S k hs) (hw : hWs S 2 N G) (hr : r < 4) (hi : i < N r) : aX (d + 3) 73 [.ref 1, .int (nI r), .int (nI i)] S (fun o S' => o = .inl (some (.int (G r i))) ∧ S' = S) := by
  have hwr := hw r hr
  refine ar_run (Nat.le_of_ble_eq_true rfl) (fun o S1 h => aq_le_of (aq_le_refl S) h) ?_
  refine ar_ld i_X6_symbol_0 rfl rfl ?_
  refine ar_ld i_X6_symbol_1 rfl rfl ?_
  refine ar_cr i_X6_symbol_2 rfl ⟨_, _, _, rfl, (h.1)⟩ (Nat.le_of_ble_eq_true rfl) (x_wordIn d h hr) ?_
  refine ar_st i_X6_symbol_5 rfl rfl ?_
  refine ar_ld i_X6_symbol_6 rfl rfl ?_
  refine ar_ld i_X6_symbol_7 rfl rfl ?_
  refine ar_cv i_X6_symbol_8 rfl trivial (Nat.le_of_ble_eq_true rfl) (x_requirePosition d hwr hi) ?_
  refine ar_ld i_X6_symbol_11 rfl rfl ?_
  refine ar_ld i_X6_symbol_12 rfl rfl ?_
  refine ar_cr i_X6_symbol_13 rfl ⟨_, _, _, rfl, hwr.obj⟩ (Nat.le_of_ble_eq_true rfl) (w_atj (d + 1) hwr i hi) ?_
  exact ar_ret i_X6_symbol_16 rfl ⟨rfl, rfl⟩
theorem x_symbol_i (d : Nat) {S : aq_S} {k r : Nat} {hs i : Int32} {N : Nat → Nat} {G : Nat → Nat → Int32} (h : hT S k hs) (hw : hWs S 2 N G) (hr : r < 4) (hi : i < 0 ∨ nI (N r) ≤ i) : aX (d + 3) 73 [.ref 1, .int (nI r), .int i] S (fun o S' => o = .inr "java/lang/IndexOutOfBoundsException" ∧ S' = aq_thrown S) := by
  have hwr := hw r hr
  refine ar_run (Nat.le_of_ble_eq_true rfl) (fun o S1 h => aq_le_of (aq_le_thr S) h) ?_
  refine ar_ld i_X6_symbol_0 rfl rfl ?_
  refine ar_ld i_X6_symbol_1 rfl rfl ?_
  refine ar_cr i_X6_symbol_2 rfl ⟨_, _, _, rfl, (h.1)⟩ (Nat.le_of_ble_eq_true rfl) (x_wordIn d h hr) ?_
  refine ar_st i_X6_symbol_5 rfl rfl ?_
  refine ar_ld i_X6_symbol_6 rfl rfl ?_
  refine ar_ld i_X6_symbol_7 rfl rfl ?_
  exact av_cx i_X6_symbol_8 rfl trivial (Nat.le_of_ble_eq_true rfl) (x_requirePosition_no d hwr hi) (fun S1 h => ⟨rfl, h⟩)
theorem x_symbol_r (d : Nat) {S : aq_S} {k : Nat} {hs p i : Int32} (h : hT S k hs) (hp : p < 0 ∨ nI 4 ≤ p) : aX (d + 3) 73 [.ref 1, .int p, .int i] S (fun o S' => o = .inr "java/lang/IllegalArgumentException" ∧ S' = aq_thrown S) := by
  refine ar_run (Nat.le_of_ble_eq_true rfl) (fun o S1 h => aq_le_of (aq_le_thr S) h) ?_
  refine ar_ld i_X6_symbol_0 rfl rfl ?_
  refine ar_ld i_X6_symbol_1 rfl rfl ?_
  exact av_cx i_X6_symbol_2 rfl ⟨_, _, _, rfl, (h.1)⟩ (Nat.le_of_ble_eq_true rfl) (x_wordIn_no d h hp) (fun S1 h => ⟨rfl, h⟩)
theorem x_setSymbol (d : Nat) {S : aq_S} {k r i : Nat} {hs s : Int32} {N : Nat → Nat} {G : Nat → Nat → Int32} (h : hT S k hs) (hw : hWs S 2 N G) (hr : r < 4) (hi : i < N r) (hy : isY k s) : aX (d + 3) 74 [.ref 1, .int (nI r), .int (nI i), .int s] S (fun o S' => o = .inl (some (.int (G r i))) ∧ isW S' (6 + 2 * r) (N r) (upd (G r) i s) ∧ aq_fr S S' (fun q => q = 6 + 2 * r + 1)) := by
  have hwr := hw r hr
  refine ar_run (Nat.le_of_ble_eq_true rfl) (fun o S1 h => h.2.2.le) ?_
  refine ar_ld i_X6_setSymbol_0 rfl rfl ?_
  refine ar_ld i_X6_setSymbol_1 rfl rfl ?_
  refine ar_cr i_X6_setSymbol_2 rfl ⟨_, _, _, rfl, (h.1)⟩ (Nat.le_of_ble_eq_true rfl) (x_wordIn d h hr) ?_
  refine ar_st i_X6_setSymbol_5 rfl rfl ?_
  refine ar_ld i_X6_setSymbol_7 rfl rfl ?_
  refine ar_ld i_X6_setSymbol_8 rfl rfl ?_
  refine ar_cv i_X6_setSymbol_9 rfl ⟨_, _, _, rfl, (h.1)⟩ (Nat.le_of_ble_eq_true rfl) (x_requireSymbol (d + 1) h hy) ?_
  refine ar_ld i_X6_setSymbol_12 rfl rfl ?_
  refine ar_ld i_X6_setSymbol_14 rfl rfl ?_
  refine ar_cv i_X6_setSymbol_15 rfl trivial (Nat.le_of_ble_eq_true rfl) (x_requirePosition d hwr hi) ?_
  refine ar_ld i_X6_setSymbol_18 rfl rfl ?_
  refine ar_ld i_X6_setSymbol_20 rfl rfl ?_
  refine ar_cr i_X6_setSymbol_21 rfl ⟨_, _, _, rfl, hwr.obj⟩ (Nat.le_of_ble_eq_true rfl) (w_atj (d + 1) hwr i hi) ?_
  refine ar_st i_X6_setSymbol_24 rfl rfl ?_
  refine ar_ld i_X6_setSymbol_26 rfl rfl ?_
  refine ar_ld i_X6_setSymbol_28 rfl rfl ?_
  refine ar_ld i_X6_setSymbol_29 rfl rfl ?_
  refine av_cv i_X6_setSymbol_30 rfl ⟨_, _, _, rfl, hwr.obj⟩ (Nat.le_of_ble_eq_true rfl) (w_put (d + 1) hwr i hi s) (fun S1 h1 => ?_)
  refine ar_ld i_X6_setSymbol_33 rfl rfl ?_
  exact ar_ret i_X6_setSymbol_35 rfl ⟨rfl, h1⟩
theorem x_setSymbol_r (d : Nat) {S : aq_S} {k : Nat} {hs p i s : Int32} (h : hT S k hs) (hp : p < 0 ∨ nI 4 ≤ p) : aX (d + 3) 74 [.ref 1, .int p, .int i, .int s] S (fun o S' => o = .inr "java/lang/IllegalArgumentException" ∧ S' = aq_thrown S) := by
  refine ar_run (Nat.le_of_ble_eq_true rfl) (fun o S1 h => aq_le_of (aq_le_thr S) h) ?_
  refine ar_ld i_X6_setSymbol_0 rfl rfl ?_
  refine ar_ld i_X6_setSymbol_1 rfl rfl ?_
  exact av_cx i_X6_setSymbol_2 rfl ⟨_, _, _, rfl, (h.1)⟩ (Nat.le_of_ble_eq_true rfl) (x_wordIn_no d h hp) (fun S1 h => ⟨rfl, h⟩)
theorem x_setSymbol_y (d : Nat) {S : aq_S} {k r : Nat} {hs i s : Int32} (h : hT S k hs) (hr : r < 4) (hy : ¬ isY k s) : aX (d + 3) 74 [.ref 1, .int (nI r), .int i, .int s] S (fun o S' => o = .inr "java/lang/IllegalArgumentException" ∧ S' = aq_thrown S) := by
  refine ar_run (Nat.le_of_ble_eq_true rfl) (fun o S1 h => aq_le_of (aq_le_thr S) h) ?_
  refine ar_ld i_X6_setSymbol_0 rfl rfl ?_
  refine ar_ld i_X6_setSymbol_1 rfl rfl ?_
  refine ar_cr i_X6_setSymbol_2 rfl ⟨_, _, _, rfl, (h.1)⟩ (Nat.le_of_ble_eq_true rfl) (x_wordIn d h hr) ?_
  refine ar_st i_X6_setSymbol_5 rfl rfl ?_
  refine ar_ld i_X6_setSymbol_7 rfl rfl ?_
  refine ar_ld i_X6_setSymbol_8 rfl rfl ?_
  exact av_cx i_X6_setSymbol_9 rfl ⟨_, _, _, rfl, (h.1)⟩ (Nat.le_of_ble_eq_true rfl) (x_requireSymbol_no (d + 1) h hy) (fun S1 h => ⟨rfl, h⟩)
theorem x_setSymbol_i (d : Nat) {S : aq_S} {k r : Nat} {hs i s : Int32} {N : Nat → Nat} {G : Nat → Nat → Int32} (h : hT S k hs) (hw : hWs S 2 N G) (hr : r < 4) (hi : i < 0 ∨ nI (N r) ≤ i) (hy : isY k s) : aX (d + 3) 74 [.ref 1, .int (nI r), .int i, .int s] S (fun o S' => o = .inr "java/lang/IndexOutOfBoundsException" ∧ S' = aq_thrown S) := by
  have hwr := hw r hr
  refine ar_run (Nat.le_of_ble_eq_true rfl) (fun o S1 h => aq_le_of (aq_le_thr S) h) ?_
  refine ar_ld i_X6_setSymbol_0 rfl rfl ?_
  refine ar_ld i_X6_setSymbol_1 rfl rfl ?_
  refine ar_cr i_X6_setSymbol_2 rfl ⟨_, _, _, rfl, (h.1)⟩ (Nat.le_of_ble_eq_true rfl) (x_wordIn d h hr) ?_
  refine ar_st i_X6_setSymbol_5 rfl rfl ?_
  refine ar_ld i_X6_setSymbol_7 rfl rfl ?_
  refine ar_ld i_X6_setSymbol_8 rfl rfl ?_
  refine ar_cv i_X6_setSymbol_9 rfl ⟨_, _, _, rfl, (h.1)⟩ (Nat.le_of_ble_eq_true rfl) (x_requireSymbol (d + 1) h hy) ?_
  refine ar_ld i_X6_setSymbol_12 rfl rfl ?_
  refine ar_ld i_X6_setSymbol_14 rfl rfl ?_
  exact av_cx i_X6_setSymbol_15 rfl trivial (Nat.le_of_ble_eq_true rfl) (x_requirePosition_no d hwr hi) (fun S1 h => ⟨rfl, h⟩)
theorem x_clear (d : Nat) {S : aq_S} {k r : Nat} {hs : Int32} {N : Nat → Nat} {G : Nat → Nat → Int32} (g' : Nat → Int32) (h : hT S k hs) (hw : hWs S 2 N G) (hr : r < 4) : aX (d + 3) 75 [.ref 1, .int (nI r)] S (fun o S' => o = .inl (some (.int (nI (N r)))) ∧ isW S' (6 + 2 * r) 0 g' ∧ aq_fr S S' (fun q => q = 6 + 2 * r)) := by
  have hwr := hw r hr
  refine ar_run (Nat.le_of_ble_eq_true rfl) (fun o S1 h => h.2.2.le) ?_
  refine ar_ld i_X6_clear_0 rfl rfl ?_
  refine ar_ld i_X6_clear_1 rfl rfl ?_
  refine ar_cr i_X6_clear_2 rfl ⟨_, _, _, rfl, (h.1)⟩ (Nat.le_of_ble_eq_true rfl) (x_wordIn d h hr) ?_
  refine ar_st i_X6_clear_5 rfl rfl ?_
  refine ar_ld i_X6_clear_6 rfl rfl ?_
  refine ar_cr i_X6_clear_7 rfl ⟨_, _, _, rfl, hwr.obj⟩ (Nat.le_of_ble_eq_true rfl) (w_size (d + 1) hwr) ?_
  refine ar_st i_X6_clear_10 rfl rfl ?_
  refine ar_ld i_X6_clear_11 rfl rfl ?_
  refine av_cv i_X6_clear_12 rfl ⟨_, _, _, rfl, hwr.obj⟩ (Nat.le_of_ble_eq_true rfl) (w_makeEmpty (g' := g') (d + 1) hwr) (fun S1 h1 => ?_)
  refine ar_ld i_X6_clear_15 rfl rfl ?_
  exact ar_ret i_X6_clear_16 rfl ⟨rfl, h1⟩
theorem x_clear_r (d : Nat) {S : aq_S} {k : Nat} {hs p : Int32} (h : hT S k hs) (hp : p < 0 ∨ nI 4 ≤ p) : aX (d + 3) 75 [.ref 1, .int p] S (fun o S' => o = .inr "java/lang/IllegalArgumentException" ∧ S' = aq_thrown S) := by
  refine ar_run (Nat.le_of_ble_eq_true rfl) (fun o S1 h => aq_le_of (aq_le_thr S) h) ?_
  refine ar_ld i_X6_clear_0 rfl rfl ?_
  refine ar_ld i_X6_clear_1 rfl rfl ?_
  exact av_cx i_X6_clear_2 rfl ⟨_, _, _, rfl, (h.1)⟩ (Nat.le_of_ble_eq_true rfl) (x_wordIn_no d h hp) (fun S1 h => ⟨rfl, h⟩)
end
