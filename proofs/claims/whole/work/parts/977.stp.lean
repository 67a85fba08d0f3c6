/-! ===== a turn of the law's loop (printed by wip/whole/mkS.py) ===== -/
section
theorem jP2 {y6 y7 : Nat} {S : aq_S} {t n : Nat} {xs : Nat → Int32} {D D' : jD} {a : Int32} (hJ : jJ S t n xs D) (hx : aX 21 y6 [.ref 1] S (fun o S' => o = .inl (some (.int a)) ∧ jC S' D' ∧ aq_fr S S' jQc)) (hm : ∀ S1 th, jM S1 th D → aX 21 y7 [.ref 52] S1 (fun o S' => o = .inl (some (.int a)) ∧ jM S' 0 D' ∧ aq_fr S1 S' jQm)) :
    aX 21 y6 [.ref 1] S (fun o S' => o = .inl (some (.int a)) ∧ (jC S' D' ∧ (∃ th, jM S' th D) ∧ jB S' (t + 1) n xs ∧ oA S')) ∧ ∀ S1, (jC S1 D' ∧ (∃ th, jM S1 th D) ∧ jB S1 (t + 1) n xs ∧ oA S1) → aX 21 y7 [.ref 52] S1 (fun o S' => o = .inl (some (.int a)) ∧ (jC S' D' ∧ jM S' 0 D' ∧ jB S' (t + 1) n xs ∧ oA S')) := by
  obtain ⟨hC, ⟨th, hM⟩, hV, hB, hO⟩ := hJ
  refine ⟨ar_weak hx (fun o S' q => ⟨q.1, q.2.1, ⟨th, hM.fr q.2.2 (fun x _ _ z => by have z : 1 ≤ x ∧ x ≤ 51 := z; omega)⟩, (hB.fr q.2.2 (fun z => by have z : 1 ≤ 0 ∧ 0 ≤ 51 := z; omega)).up, hO.fr q.2.2 (fun z => by have z : 1 ≤ 71 ∧ 71 ≤ 51 := z; omega)⟩), fun S1 h => ?_⟩
  obtain ⟨p1, ⟨th1, p2⟩, p3, p4⟩ := h
  exact ar_weak (hm S1 th1 p2) (fun o S' q => ⟨q.1, p1.fr q.2.2 (fun x _ _ z => by have z : 52 ≤ x ∧ x ≤ 70 := z; omega), q.2.1, p3.fr q.2.2 (fun z => by have z : 52 ≤ 0 ∧ 0 ≤ 70 := z; omega), p4.fr q.2.2 (fun z => by have z : 52 ≤ 71 ∧ 71 ≤ 70 := z; omega)⟩)
theorem s_setLetters {i t n : Nat} {xs : Nat → Int32} {Q : aq_F} {S : aq_S} {D : jD} {L : List (Nat × Value)} (hT : tl5 L) (hJ : jJ S t n xs D) (hi : i + 5 ≤ n) (hn : n ≤ 2560) (k : ∀ (S2 : aq_S) (D2 : jD) (L2 : List (Nat × Value)), jJ S2 (t + 1) n xs D2 → tl5 L2 → aG 21 251 Q 2846 ((0, .ref 0) :: (1, .ref 1) :: (2, .ref 52) :: (3, .ref 71) :: (4, .int (nI i)) :: L2) [] S2) : aG 21 251 Q 224 ((0, .ref 0) :: (1, .ref 1) :: (2, .ref 52) :: (3, .ref 71) :: (4, .int (nI i)) :: L) [] S := by
  obtain ⟨hs, hX9⟩ := hJ.1.x
  obtain ⟨D', r, a, hV', hL, hM⟩ := jP (AL := [.ref 1, .int (xs (i + 1)), .ref 71]) (w9 := fun v9 : Int32 => v9.toInt64) hJ (c_setLetters (a := (xs (i + 1))) hJ.1 hJ.2.2.1) (fun a P h1 h2 => l_setLetters 20 hX9 h1 h2) (fun E r P h1 h2 h3 => l_setLetters_x 20 hX9 h1 h2 h3)
  exact b_setLetters hT hJ.2.2.2.1.2.2.2 hi hn hL (fun S1 p => ⟨p.2.2.1.2.2.2, p.2.1.elim (fun th h => h.o.elim (fun fs e => ⟨_, e⟩))⟩) hM (fun S2 p => ⟨p.2.1.o, p.2.2.2.2⟩) (fun S2 p => k S2 D' [(5, .int r), (6, .int a)] ⟨p.1, ⟨_, p.2.1⟩, hV', p.2.2.1, p.2.2.2.1⟩ (Or.inr ⟨r, [(6, .int a)], rfl, Or.inr (Or.inl ⟨a, rfl⟩)⟩))
theorem s_append {i t n : Nat} {xs : Nat → Int32} {Q : aq_F} {S : aq_S} {D : jD} {L : List (Nat × Value)} (hT : tl5 L) (hJ : jJ S t n xs D) (hi : i + 5 ≤ n) (hn : n ≤ 2560) (k : ∀ (S2 : aq_S) (D2 : jD) (L2 : List (Nat × Value)), jJ S2 (t + 1) n xs D2 → tl5 L2 → aG 21 251 Q 2846 ((0, .ref 0) :: (1, .ref 1) :: (2, .ref 52) :: (3, .ref 71) :: (4, .int (nI i)) :: L2) [] S2) : aG 21 251 Q 280 ((0, .ref 0) :: (1, .ref 1) :: (2, .ref 52) :: (3, .ref 71) :: (4, .int (nI i)) :: L) [] S := by
  obtain ⟨hs, hX9⟩ := hJ.1.x
  obtain ⟨D', r, a, hV', hL, hM⟩ := jP (AL := [.ref 1, .int (xs (i + 1)), .int (xs (i + 2)), .ref 71]) (w9 := fun v9 : Int32 => v9.toInt64) hJ (c_append (a := (xs (i + 1))) (b := (xs (i + 2))) hJ.1 hJ.2.2.1) (fun a P h1 h2 => l_append 20 hX9 h1 h2) (fun E r P h1 h2 h3 => l_append_x 20 hX9 h1 h2 h3)
  exact b_append hT hJ.2.2.2.1.2.2.2 hi hn hL (fun S1 p => ⟨p.2.2.1.2.2.2, p.2.1.elim (fun th h => h.o.elim (fun fs e => ⟨_, e⟩))⟩) hM (fun S2 p => ⟨p.2.1.o, p.2.2.2.2⟩) (fun S2 p => k S2 D' [(5, .int r), (6, .int a)] ⟨p.1, ⟨_, p.2.1⟩, hV', p.2.2.1, p.2.2.2.1⟩ (Or.inr ⟨r, [(6, .int a)], rfl, Or.inr (Or.inl ⟨a, rfl⟩)⟩))
theorem s_feed {i t n : Nat} {xs : Nat → Int32} {Q : aq_F} {S : aq_S} {D : jD} {L : List (Nat × Value)} (hT : tl5 L) (hJ : jJ S t n xs D) (hi : i + 5 ≤ n) (hn : n ≤ 2560) (k : ∀ (S2 : aq_S) (D2 : jD) (L2 : List (Nat × Value)), jJ S2 (t + 1) n xs D2 → tl5 L2 → aG 21 251 Q 2846 ((0, .ref 0) :: (1, .ref 1) :: (2, .ref 52) :: (3, .ref 71) :: (4, .int (nI i)) :: L2) [] S2) : aG 21 251 Q 348 ((0, .ref 0) :: (1, .ref 1) :: (2, .ref 52) :: (3, .ref 71) :: (4, .int (nI i)) :: L) [] S := by
  obtain ⟨hs, hX9⟩ := hJ.1.x
  obtain ⟨D', r, a, hV', hL, hM⟩ := jP (AL := [.ref 1, .int (xs (i + 1)), .ref 71]) (w9 := fun v9 : Int32 => v9.toInt64) hJ (c_feed (a := (xs (i + 1))) hJ.1 hJ.2.2.1) (fun a P h1 h2 => l_feed 20 hX9 h1 h2) (fun E r P h1 h2 h3 => l_feed_x 20 hX9 h1 h2 h3)
  exact b_feed hT hJ.2.2.2.1.2.2.2 hi hn hL (fun S1 p => ⟨p.2.2.1.2.2.2, p.2.1.elim (fun th h => h.o.elim (fun fs e => ⟨_, e⟩))⟩) hM (fun S2 p => ⟨p.2.1.o, p.2.2.2.2⟩) (fun S2 p => k S2 D' [(5, .int r), (6, .int a)] ⟨p.1, ⟨_, p.2.1⟩, hV', p.2.2.1, p.2.2.2.1⟩ (Or.inr ⟨r, [(6, .int a)], rfl, Or.inr (Or.inl ⟨a, rfl⟩)⟩))
theorem s_parseWord {i t n : Nat} {xs : Nat → Int32} {Q : aq_F} {S : aq_S} {D : jD} {L : List (Nat × Value)} (hT : tl5 L) (hJ : jJ S t n xs D) (hi : i + 5 ≤ n) (hn : n ≤ 2560) (k : ∀ (S2 : aq_S) (D2 : jD) (L2 : List (Nat × Value)), jJ S2 (t + 1) n xs D2 → tl5 L2 → aG 21 251 Q 2846 ((0, .ref 0) :: (1, .ref 1) :: (2, .ref 52) :: (3, .ref 71) :: (4, .int (nI i)) :: L2) [] S2) : aG 21 251 Q 404 ((0, .ref 0) :: (1, .ref 1) :: (2, .ref 52) :: (3, .ref 71) :: (4, .int (nI i)) :: L) [] S := by
  obtain ⟨hs, hX9⟩ := hJ.1.x
  obtain ⟨D', r, a, hV', hL, hM⟩ := jP (AL := [.ref 1, .int (xs (i + 1)), .ref 71]) (w9 := fun v9 : Int32 => v9.toInt64) hJ (c_parseWord (a := (xs (i + 1))) hJ.1 hJ.2.2.1) (fun a P h1 h2 => l_parseWord 20 hX9 h1 h2) (fun E r P h1 h2 h3 => l_parseWord_x 20 hX9 h1 h2 h3)
  exact b_parseWord hT hJ.2.2.2.1.2.2.2 hi hn hL (fun S1 p => ⟨p.2.2.1.2.2.2, p.2.1.elim (fun th h => h.o.elim (fun fs e => ⟨_, e⟩))⟩) hM (fun S2 p => ⟨p.2.1.o, p.2.2.2.2⟩) (fun S2 p => k S2 D' [(5, .int r), (6, .int a)] ⟨p.1, ⟨_, p.2.1⟩, hV', p.2.2.1, p.2.2.2.1⟩ (Or.inr ⟨r, [(6, .int a)], rfl, Or.inr (Or.inl ⟨a, rfl⟩)⟩))
theorem s_errorPosition {i t n : Nat} {xs : Nat → Int32} {Q : aq_F} {S : aq_S} {D : jD} {L : List (Nat × Value)} (hT : tl5 L) (hJ : jJ S t n xs D) (hi : i + 5 ≤ n) (hn : n ≤ 2560) (k : ∀ (S2 : aq_S) (D2 : jD) (L2 : List (Nat × Value)), jJ S2 (t + 1) n xs D2 → tl5 L2 → aG 21 251 Q 2846 ((0, .ref 0) :: (1, .ref 1) :: (2, .ref 52) :: (3, .ref 71) :: (4, .int (nI i)) :: L2) [] S2) : aG 21 251 Q 460 ((0, .ref 0) :: (1, .ref 1) :: (2, .ref 52) :: (3, .ref 71) :: (4, .int (nI i)) :: L) [] S := by
  obtain ⟨hs, hX9⟩ := hJ.1.x
  obtain ⟨D', r, a, hV', hL, hM⟩ := jP (AL := [.ref 1, .ref 71]) (w9 := fun v9 : Int32 => v9.toInt64) hJ (c_errorPosition  hJ.1 hJ.2.2.1) (fun a P h1 h2 => l_errorPosition 20 hX9 h1 h2) (fun E r P h1 h2 h3 => l_errorPosition_x 20 hX9 h1 h2 h3)
  exact b_errorPosition hT hJ.2.2.2.1.2.2.2 hi hn hL (fun S1 p => ⟨p.2.2.1.2.2.2, p.2.1.elim (fun th h => h.o.elim (fun fs e => ⟨_, e⟩))⟩) hM (fun S2 p => ⟨p.2.1.o, p.2.2.2.2⟩) (fun S2 p => k S2 D' [(5, .int r), (6, .int a)] ⟨p.1, ⟨_, p.2.1⟩, hV', p.2.2.1, p.2.2.2.1⟩ (Or.inr ⟨r, [(6, .int a)], rfl, Or.inr (Or.inl ⟨a, rfl⟩)⟩))
theorem s_length {i t n : Nat} {xs : Nat → Int32} {Q : aq_F} {S : aq_S} {D : jD} {L : List (Nat × Value)} (hT : tl5 L) (hJ : jJ S t n xs D) (hi : i + 5 ≤ n) (hn : n ≤ 2560) (k : ∀ (S2 : aq_S) (D2 : jD) (L2 : List (Nat × Value)), jJ S2 (t + 1) n xs D2 → tl5 L2 → aG 21 251 Q 2846 ((0, .ref 0) :: (1, .ref 1) :: (2, .ref 52) :: (3, .ref 71) :: (4, .int (nI i)) :: L2) [] S2) : aG 21 251 Q 504 ((0, .ref 0) :: (1, .ref 1) :: (2, .ref 52) :: (3, .ref 71) :: (4, .int (nI i)) :: L) [] S := by
  obtain ⟨hs, hX9⟩ := hJ.1.x
  obtain ⟨D', r, a, hV', hL, hM⟩ := jP (AL := [.ref 1, .int (xs (i + 1)), .ref 71]) (w9 := fun v9 : Int32 => v9.toInt64) hJ (c_length (a := (xs (i + 1))) hJ.1 hJ.2.2.1) (fun a P h1 h2 => l_length 20 hX9 h1 h2) (fun E r P h1 h2 h3 => l_length_x 20 hX9 h1 h2 h3)
  exact b_length hT hJ.2.2.2.1.2.2.2 hi hn hL (fun S1 p => ⟨p.2.2.1.2.2.2, p.2.1.elim (fun th h => h.o.elim (fun fs e => ⟨_, e⟩))⟩) hM (fun S2 p => ⟨p.2.1.o, p.2.2.2.2⟩) (fun S2 p => k S2 D' [(5, .int r), (6, .int a)] ⟨p.1, ⟨_, p.2.1⟩, hV', p.2.2.1, p.2.2.2.1⟩ (Or.inr ⟨r, [(6, .int a)], rfl, Or.inr (Or.inl ⟨a, rfl⟩)⟩))
theorem s_symbol {i t n : Nat} {xs : Nat → Int32} {Q : aq_F} {S : aq_S} {D : jD} {L : List (Nat × Value)} (hT : tl5 L) (hJ : jJ S t n xs D) (hi : i + 5 ≤ n) (hn : n ≤ 2560) (k : ∀ (S2 : aq_S) (D2 : jD) (L2 : List (Nat × Value)), jJ S2 (t + 1) n xs D2 → tl5 L2 → aG 21 251 Q 2846 ((0, .ref 0) :: (1, .ref 1) :: (2, .ref 52) :: (3, .ref 71) :: (4, .int (nI i)) :: L2) [] S2) : aG 21 251 Q 560 ((0, .ref 0) :: (1, .ref 1) :: (2, .ref 52) :: (3, .ref 71) :: (4, .int (nI i)) :: L) [] S := by
  obtain ⟨hs, hX9⟩ := hJ.1.x
  obtain ⟨D', r, a, hV', hL, hM⟩ := jP (AL := [.ref 1, .int (xs (i + 1)), .int (xs (i + 2)), .ref 71]) (w9 := fun v9 : Int32 => v9.toInt64) hJ (c_symbol (a := (xs (i + 1))) (b := (xs (i + 2))) hJ.1 hJ.2.2.1) (fun a P h1 h2 => l_symbol 20 hX9 h1 h2) (fun E r P h1 h2 h3 => l_symbol_x 20 hX9 h1 h2 h3)
  exact b_symbol hT hJ.2.2.2.1.2.2.2 hi hn hL (fun S1 p => ⟨p.2.2.1.2.2.2, p.2.1.elim (fun th h => h.o.elim (fun fs e => ⟨_, e⟩))⟩) hM (fun S2 p => ⟨p.2.1.o, p.2.2.2.2⟩) (fun S2 p => k S2 D' [(5, .int r), (6, .int a)] ⟨p.1, ⟨_, p.2.1⟩, hV', p.2.2.1, p.2.2.2.1⟩ (Or.inr ⟨r, [(6, .int a)], rfl, Or.inr (Or.inl ⟨a, rfl⟩)⟩))
theorem s_setSymbol {i t n : Nat} {xs : Nat → Int32} {Q : aq_F} {S : aq_S} {D : jD} {L : List (Nat × Value)} (hT : tl5 L) (hJ : jJ S t n xs D) (hi : i + 5 ≤ n) (hn : n ≤ 2560) (k : ∀ (S2 : aq_S) (D2 : jD) (L2 : List (Nat × Value)), jJ S2 (t + 1) n xs D2 → tl5 L2 → aG 21 251 Q 2846 ((0, .ref 0) :: (1, .ref 1) :: (2, .ref 52) :: (3, .ref 71) :: (4, .int (nI i)) :: L2) [] S2) : aG 21 251 Q 628 ((0, .ref 0) :: (1, .ref 1) :: (2, .ref 52) :: (3, .ref 71) :: (4, .int (nI i)) :: L) [] S := by
  obtain ⟨hs, hX9⟩ := hJ.1.x
  obtain ⟨D', r, a, hV', hL, hM⟩ := jP (AL := [.ref 1, .int (xs (i + 1)), .int (xs (i + 2)), .int (xs (i + 3)), .ref 71]) (w9 := fun v9 : Int32 => v9.toInt64) hJ (c_setSymbol (a := (xs (i + 1))) (b := (xs (i + 2))) (s := (xs (i + 3))) hJ.1 hJ.2.2.1) (fun a P h1 h2 => l_setSymbol 20 hX9 h1 h2) (fun E r P h1 h2 h3 => l_setSymbol_x 20 hX9 h1 h2 h3)
  exact b_setSymbol hT hJ.2.2.2.1.2.2.2 hi hn hL (fun S1 p => ⟨p.2.2.1.2.2.2, p.2.1.elim (fun th h => h.o.elim (fun fs e => ⟨_, e⟩))⟩) hM (fun S2 p => ⟨p.2.1.o, p.2.2.2.2⟩) (fun S2 p => k S2 D' [(5, .int r), (6, .int a)] ⟨p.1, ⟨_, p.2.1⟩, hV', p.2.2.1, p.2.2.2.1⟩ (Or.inr ⟨r, [(6, .int a)], rfl, Or.inr (Or.inl ⟨a, rfl⟩)⟩))
theorem s_clear {i t n : Nat} {xs : Nat → Int32} {Q : aq_F} {S : aq_S} {D : jD} {L : List (Nat × Value)} (hT : tl5 L) (hJ : jJ S t n xs D) (hi : i + 5 ≤ n) (hn : n ≤ 2560) (k : ∀ (S2 : aq_S) (D2 : jD) (L2 : List (Nat × Value)), jJ S2 (t + 1) n xs D2 → tl5 L2 → aG 21 251 Q 2846 ((0, .ref 0) :: (1, .ref 1) :: (2, .ref 52) :: (3, .ref 71) :: (4, .int (nI i)) :: L2) [] S2) : aG 21 251 Q 708 ((0, .ref 0) :: (1, .ref 1) :: (2, .ref 52) :: (3, .ref 71) :: (4, .int (nI i)) :: L) [] S := by
  obtain ⟨hs, hX9⟩ := hJ.1.x
  obtain ⟨D', r, a, hV', hL, hM⟩ := jP (AL := [.ref 1, .int (xs (i + 1)), .ref 71]) (w9 := fun v9 : Int32 => v9.toInt64) hJ (c_clear (a := (xs (i + 1))) hJ.1 hJ.2.2.1) (fun a P h1 h2 => l_clear 20 hX9 h1 h2) (fun E r P h1 h2 h3 => l_clear_x 20 hX9 h1 h2 h3)
  exact b_clear hT hJ.2.2.2.1.2.2.2 hi hn hL (fun S1 p => ⟨p.2.2.1.2.2.2, p.2.1.elim (fun th h => h.o.elim (fun fs e => ⟨_, e⟩))⟩) hM (fun S2 p => ⟨p.2.1.o, p.2.2.2.2⟩) (fun S2 p => k S2 D' [(5, .int r), (6, .int a)] ⟨p.1, ⟨_, p.2.1⟩, hV', p.2.2.1, p.2.2.2.1⟩ (Or.inr ⟨r, [(6, .int a)], rfl, Or.inr (Or.inl ⟨a, rfl⟩)⟩))
theorem s_concatenate {i t n : Nat} {xs : Nat → Int32} {Q : aq_F} {S : aq_S} {D : jD} {L : List (Nat × Value)} (hT : tl5 L) (hJ : jJ S t n xs D) (hi : i + 5 ≤ n) (hn : n ≤ 2560) (k : ∀ (S2 : aq_S) (D2 : jD) (L2 : List (Nat × Value)), jJ S2 (t + 1) n xs D2 → tl5 L2 → aG 21 251 Q 2846 ((0, .ref 0) :: (1, .ref 1) :: (2, .ref 52) :: (3, .ref 71) :: (4, .int (nI i)) :: L2) [] S2) : aG 21 251 Q 764 ((0, .ref 0) :: (1, .ref 1) :: (2, .ref 52) :: (3, .ref 71) :: (4, .int (nI i)) :: L) [] S := by
  obtain ⟨hs, hX9⟩ := hJ.1.x
  obtain ⟨D', r, a, hV', hL, hM⟩ := jP (AL := [.ref 1, .int (xs (i + 1)), .int (xs (i + 2)), .ref 71]) (w9 := fun v9 : Int32 => v9.toInt64) hJ (c_concatenate (a := (xs (i + 1))) (b := (xs (i + 2))) hJ.1 hJ.2.2.1) (fun a P h1 h2 => l_concatenate 20 hX9 h1 h2) (fun E r P h1 h2 h3 => l_concatenate_x 20 hX9 h1 h2 h3)
  exact b_concatenate hT hJ.2.2.2.1.2.2.2 hi hn hL (fun S1 p => ⟨p.2.2.1.2.2.2, p.2.1.elim (fun th h => h.o.elim (fun fs e => ⟨_, e⟩))⟩) hM (fun S2 p => ⟨p.2.1.o, p.2.2.2.2⟩) (fun S2 p => k S2 D' [(5, .int r), (6, .int a)] ⟨p.1, ⟨_, p.2.1⟩, hV', p.2.2.1, p.2.2.2.1⟩ (Or.inr ⟨r, [(6, .int a)], rfl, Or.inr (Or.inl ⟨a, rfl⟩)⟩))
theorem s_reverse {i t n : Nat} {xs : Nat → Int32} {Q : aq_F} {S : aq_S} {D : jD} {L : List (Nat × Value)} (hT : tl5 L) (hJ : jJ S t n xs D) (hi : i + 5 ≤ n) (hn : n ≤ 2560) (k : ∀ (S2 : aq_S) (D2 : jD) (L2 : List (Nat × Value)), jJ S2 (t + 1) n xs D2 → tl5 L2 → aG 21 251 Q 2846 ((0, .ref 0) :: (1, .ref 1) :: (2, .ref 52) :: (3, .ref 71) :: (4, .int (nI i)) :: L2) [] S2) : aG 21 251 Q 832 ((0, .ref 0) :: (1, .ref 1) :: (2, .ref 52) :: (3, .ref 71) :: (4, .int (nI i)) :: L) [] S := by
  obtain ⟨hs, hX9⟩ := hJ.1.x
  obtain ⟨D', r, a, hV', hL, hM⟩ := jP (AL := [.ref 1, .int (xs (i + 1)), .ref 71]) (w9 := fun v9 : Int32 => if v9 = 0 then 0 else 1) hJ (c_reverse (a := (xs (i + 1))) hJ.1 hJ.2.2.1) (fun a P h1 h2 => l_reverse 20 hX9 h1 h2) (fun E r P h1 h2 h3 => l_reverse_x 20 hX9 h1 h2 h3)
  exact b_reverse hT hJ.2.2.2.1.2.2.2 hi hn hL (fun S1 p => ⟨p.2.2.1.2.2.2, p.2.1.elim (fun th h => h.o.elim (fun fs e => ⟨_, e⟩))⟩) hM (fun S2 p => ⟨p.2.1.o, p.2.2.2.2⟩) (fun S2 p => k S2 D' [(5, .int r), (6, .int a)] ⟨p.1, ⟨_, p.2.1⟩, hV', p.2.2.1, p.2.2.2.1⟩ (Or.inr ⟨r, [(6, .int a)], rfl, Or.inr (Or.inl ⟨a, rfl⟩)⟩))
theorem s_rotate {i t n : Nat} {xs : Nat → Int32} {Q : aq_F} {S : aq_S} {D : jD} {L : List (Nat × Value)} (hT : tl5 L) (hJ : jJ S t n xs D) (hi : i + 5 ≤ n) (hn : n ≤ 2560) (k : ∀ (S2 : aq_S) (D2 : jD) (L2 : List (Nat × Value)), jJ S2 (t + 1) n xs D2 → tl5 L2 → aG 21 251 Q 2846 ((0, .ref 0) :: (1, .ref 1) :: (2, .ref 52) :: (3, .ref 71) :: (4, .int (nI i)) :: L2) [] S2) : aG 21 251 Q 895 ((0, .ref 0) :: (1, .ref 1) :: (2, .ref 52) :: (3, .ref 71) :: (4, .int (nI i)) :: L) [] S := by
  obtain ⟨hs, hX9⟩ := hJ.1.x
  obtain ⟨D', r, a, hV', hL, hM⟩ := jP (AL := [.ref 1, .int (xs (i + 1)), .int (xs (i + 2)), .ref 71]) (w9 := fun v9 : Int32 => if v9 = 0 then 0 else 1) hJ (c_rotate (a := (xs (i + 1))) (b := (xs (i + 2))) hJ.1 hJ.2.2.1) (fun a P h1 h2 => l_rotate 20 hX9 h1 h2) (fun E r P h1 h2 h3 => l_rotate_x 20 hX9 h1 h2 h3)
  exact b_rotate hT hJ.2.2.2.1.2.2.2 hi hn hL (fun S1 p => ⟨p.2.2.1.2.2.2, p.2.1.elim (fun th h => h.o.elim (fun fs e => ⟨_, e⟩))⟩) hM (fun S2 p => ⟨p.2.1.o, p.2.2.2.2⟩) (fun S2 p => k S2 D' [(5, .int r), (6, .int a)] ⟨p.1, ⟨_, p.2.1⟩, hV', p.2.2.1, p.2.2.2.1⟩ (Or.inr ⟨r, [(6, .int a)], rfl, Or.inr (Or.inl ⟨a, rfl⟩)⟩))
theorem s_holes {i t n : Nat} {xs : Nat → Int32} {Q : aq_F} {S : aq_S} {D : jD} {L : List (Nat × Value)} (hT : tl5 L) (hJ : jJ S t n xs D) (hi : i + 5 ≤ n) (hn : n ≤ 2560) (k : ∀ (S2 : aq_S) (D2 : jD) (L2 : List (Nat × Value)), jJ S2 (t + 1) n xs D2 → tl5 L2 → aG 21 251 Q 2846 ((0, .ref 0) :: (1, .ref 1) :: (2, .ref 52) :: (3, .ref 71) :: (4, .int (nI i)) :: L2) [] S2) : aG 21 251 Q 970 ((0, .ref 0) :: (1, .ref 1) :: (2, .ref 52) :: (3, .ref 71) :: (4, .int (nI i)) :: L) [] S := by
  obtain ⟨hs, hX9⟩ := hJ.1.x
  obtain ⟨D', r, a, hV', hL, hM⟩ := jP (AL := [.ref 1, .int (xs (i + 1)), .ref 71]) (w9 := fun v9 : Int32 => v9.toInt64) hJ (c_holes (a := (xs (i + 1))) hJ.1 hJ.2.2.1) (fun a P h1 h2 => l_holes 20 hX9 h1 h2) (fun E r P h1 h2 h3 => l_holes_x 20 hX9 h1 h2 h3)
  exact b_holes hT hJ.2.2.2.1.2.2.2 hi hn hL (fun S1 p => ⟨p.2.2.1.2.2.2, p.2.1.elim (fun th h => h.o.elim (fun fs e => ⟨_, e⟩))⟩) hM (fun S2 p => ⟨p.2.1.o, p.2.2.2.2⟩) (fun S2 p => k S2 D' [(5, .int r), (6, .int a)] ⟨p.1, ⟨_, p.2.1⟩, hV', p.2.2.1, p.2.2.2.1⟩ (Or.inr ⟨r, [(6, .int a)], rfl, Or.inr (Or.inl ⟨a, rfl⟩)⟩))
theorem s_isCompatible {i t n : Nat} {xs : Nat → Int32} {Q : aq_F} {S : aq_S} {D : jD} {L : List (Nat × Value)} (hT : tl5 L) (hJ : jJ S t n xs D) (hi : i + 5 ≤ n) (hn : n ≤ 2560) (k : ∀ (S2 : aq_S) (D2 : jD) (L2 : List (Nat × Value)), jJ S2 (t + 1) n xs D2 → tl5 L2 → aG 21 251 Q 2846 ((0, .ref 0) :: (1, .ref 1) :: (2, .ref 52) :: (3, .ref 71) :: (4, .int (nI i)) :: L2) [] S2) : aG 21 251 Q 1026 ((0, .ref 0) :: (1, .ref 1) :: (2, .ref 52) :: (3, .ref 71) :: (4, .int (nI i)) :: L) [] S := by
  obtain ⟨hs, hX9⟩ := hJ.1.x
  obtain ⟨D', r, a, hV', hL, hM⟩ := jP (AL := [.ref 1, .int (xs (i + 1)), .int (xs (i + 2)), .ref 71]) (w9 := fun v9 : Int32 => if v9 = 0 then 0 else 1) hJ (c_isCompatible (a := (xs (i + 1))) (b := (xs (i + 2))) hJ.1 hJ.2.2.1) (fun a P h1 h2 => l_isCompatible 20 hX9 h1 h2) (fun E r P h1 h2 h3 => l_isCompatible_x 20 hX9 h1 h2 h3)
  exact b_isCompatible hT hJ.2.2.2.1.2.2.2 hi hn hL (fun S1 p => ⟨p.2.2.1.2.2.2, p.2.1.elim (fun th h => h.o.elim (fun fs e => ⟨_, e⟩))⟩) hM (fun S2 p => ⟨p.2.1.o, p.2.2.2.2⟩) (fun S2 p => k S2 D' [(5, .int r), (6, .int a)] ⟨p.1, ⟨_, p.2.1⟩, hV', p.2.2.1, p.2.2.2.1⟩ (Or.inr ⟨r, [(6, .int a)], rfl, Or.inr (Or.inl ⟨a, rfl⟩)⟩))
theorem s_isContained {i t n : Nat} {xs : Nat → Int32} {Q : aq_F} {S : aq_S} {D : jD} {L : List (Nat × Value)} (hT : tl5 L) (hJ : jJ S t n xs D) (hi : i + 5 ≤ n) (hn : n ≤ 2560) (k : ∀ (S2 : aq_S) (D2 : jD) (L2 : List (Nat × Value)), jJ S2 (t + 1) n xs D2 → tl5 L2 → aG 21 251 Q 2846 ((0, .ref 0) :: (1, .ref 1) :: (2, .ref 52) :: (3, .ref 71) :: (4, .int (nI i)) :: L2) [] S2) : aG 21 251 Q 1101 ((0, .ref 0) :: (1, .ref 1) :: (2, .ref 52) :: (3, .ref 71) :: (4, .int (nI i)) :: L) [] S := by
  obtain ⟨hs, hX9⟩ := hJ.1.x
  obtain ⟨D', r, a, hV', hL, hM⟩ := jP (AL := [.ref 1, .int (xs (i + 1)), .int (xs (i + 2)), .ref 71]) (w9 := fun v9 : Int32 => if v9 = 0 then 0 else 1) hJ (c_isContained (a := (xs (i + 1))) (b := (xs (i + 2))) hJ.1 hJ.2.2.1) (fun a P h1 h2 => l_isContained 20 hX9 h1 h2) (fun E r P h1 h2 h3 => l_isContained_x 20 hX9 h1 h2 h3)
  exact b_isContained hT hJ.2.2.2.1.2.2.2 hi hn hL (fun S1 p => ⟨p.2.2.1.2.2.2, p.2.1.elim (fun th h => h.o.elim (fun fs e => ⟨_, e⟩))⟩) hM (fun S2 p => ⟨p.2.1.o, p.2.2.2.2⟩) (fun S2 p => k S2 D' [(5, .int r), (6, .int a)] ⟨p.1, ⟨_, p.2.1⟩, hV', p.2.2.1, p.2.2.2.1⟩ (Or.inr ⟨r, [(6, .int a)], rfl, Or.inr (Or.inl ⟨a, rfl⟩)⟩))
theorem s_conflict {i t n : Nat} {xs : Nat → Int32} {Q : aq_F} {S : aq_S} {D : jD} {L : List (Nat × Value)} (hT : tl5 L) (hJ : jJ S t n xs D) (hi : i + 5 ≤ n) (hn : n ≤ 2560) (k : ∀ (S2 : aq_S) (D2 : jD) (L2 : List (Nat × Value)), jJ S2 (t + 1) n xs D2 → tl5 L2 → aG 21 251 Q 2846 ((0, .ref 0) :: (1, .ref 1) :: (2, .ref 52) :: (3, .ref 71) :: (4, .int (nI i)) :: L2) [] S2) : aG 21 251 Q 1176 ((0, .ref 0) :: (1, .ref 1) :: (2, .ref 52) :: (3, .ref 71) :: (4, .int (nI i)) :: L) [] S := by
  obtain ⟨hs, hX9⟩ := hJ.1.x
  obtain ⟨D', r, a, hV', hL, hM⟩ := jP (AL := [.ref 1, .int (xs (i + 1)), .int (xs (i + 2)), .ref 71]) (w9 := fun v9 : Int32 => v9.toInt64) hJ (c_conflict (a := (xs (i + 1))) (b := (xs (i + 2))) hJ.1 hJ.2.2.1) (fun a P h1 h2 => l_conflict 20 hX9 h1 h2) (fun E r P h1 h2 h3 => l_conflict_x 20 hX9 h1 h2 h3)
  exact b_conflict hT hJ.2.2.2.1.2.2.2 hi hn hL (fun S1 p => ⟨p.2.2.1.2.2.2, p.2.1.elim (fun th h => h.o.elim (fun fs e => ⟨_, e⟩))⟩) hM (fun S2 p => ⟨p.2.1.o, p.2.2.2.2⟩) (fun S2 p => k S2 D' [(5, .int r), (6, .int a)] ⟨p.1, ⟨_, p.2.1⟩, hV', p.2.2.1, p.2.2.2.1⟩ (Or.inr ⟨r, [(6, .int a)], rfl, Or.inr (Or.inl ⟨a, rfl⟩)⟩))
theorem s_join {i t n : Nat} {xs : Nat → Int32} {Q : aq_F} {S : aq_S} {D : jD} {L : List (Nat × Value)} (hT : tl5 L) (hJ : jJ S t n xs D) (hi : i + 5 ≤ n) (hn : n ≤ 2560) (k : ∀ (S2 : aq_S) (D2 : jD) (L2 : List (Nat × Value)), jJ S2 (t + 1) n xs D2 → tl5 L2 → aG 21 251 Q 2846 ((0, .ref 0) :: (1, .ref 1) :: (2, .ref 52) :: (3, .ref 71) :: (4, .int (nI i)) :: L2) [] S2) : aG 21 251 Q 1244 ((0, .ref 0) :: (1, .ref 1) :: (2, .ref 52) :: (3, .ref 71) :: (4, .int (nI i)) :: L) [] S := by
  obtain ⟨hs, hX9⟩ := hJ.1.x
  obtain ⟨D', r, a, hV', hL, hM⟩ := jP (AL := [.ref 1, .int (xs (i + 1)), .int (xs (i + 2)), .int (xs (i + 3)), .ref 71]) (w9 := fun v9 : Int32 => v9.toInt64) hJ (c_join (a := (xs (i + 1))) (b := (xs (i + 2))) (d := (xs (i + 3))) hJ.1 hJ.2.2.1) (fun a P h1 h2 => l_join 20 hX9 h1 h2) (fun E r P h1 h2 h3 => l_join_x 20 hX9 h1 h2 h3)
  exact b_join hT hJ.2.2.2.1.2.2.2 hi hn hL (fun S1 p => ⟨p.2.2.1.2.2.2, p.2.1.elim (fun th h => h.o.elim (fun fs e => ⟨_, e⟩))⟩) hM (fun S2 p => ⟨p.2.1.o, p.2.2.2.2⟩) (fun S2 p => k S2 D' [(5, .int r), (6, .int a)] ⟨p.1, ⟨_, p.2.1⟩, hV', p.2.2.1, p.2.2.2.1⟩ (Or.inr ⟨r, [(6, .int a)], rfl, Or.inr (Or.inl ⟨a, rfl⟩)⟩))
theorem s_isPeriod {i t n : Nat} {xs : Nat → Int32} {Q : aq_F} {S : aq_S} {D : jD} {L : List (Nat × Value)} (hT : tl5 L) (hJ : jJ S t n xs D) (hi : i + 5 ≤ n) (hn : n ≤ 2560) (k : ∀ (S2 : aq_S) (D2 : jD) (L2 : List (Nat × Value)), jJ S2 (t + 1) n xs D2 → tl5 L2 → aG 21 251 Q 2846 ((0, .ref 0) :: (1, .ref 1) :: (2, .ref 52) :: (3, .ref 71) :: (4, .int (nI i)) :: L2) [] S2) : aG 21 251 Q 1324 ((0, .ref 0) :: (1, .ref 1) :: (2, .ref 52) :: (3, .ref 71) :: (4, .int (nI i)) :: L) [] S := by
  obtain ⟨hs, hX9⟩ := hJ.1.x
  obtain ⟨D', r, a, hV', hL, hM⟩ := jP (AL := [.ref 1, .int (xs (i + 1)), .int (xs (i + 2)), .int (if xs (i + 3) = 0 then 0 else 1), .ref 71]) (w9 := fun v9 : Int32 => if v9 = 0 then 0 else 1) hJ (c_isPeriod (a := (xs (i + 1))) (b := (xs (i + 2))) (az := (if xs (i + 3) = 0 then 0 else 1)) hJ.1 hJ.2.2.1) (fun a P h1 h2 => l_isPeriod 20 hX9 h1 h2) (fun E r P h1 h2 h3 => l_isPeriod_x 20 hX9 h1 h2 h3)
  exact b_isPeriod hT hJ.2.2.2.1.2.2.2 hi hn rfl hL (fun S1 p => ⟨p.2.2.1.2.2.2, p.2.1.elim (fun th h => h.o.elim (fun fs e => ⟨_, e⟩))⟩) hM (fun S2 p => ⟨p.2.1.o, p.2.2.2.2⟩) (fun S2 p => k S2 D' [(5, .int r), (6, .int a)] ⟨p.1, ⟨_, p.2.1⟩, hV', p.2.2.1, p.2.2.2.1⟩ (Or.inr ⟨r, [(6, .int a)], rfl, Or.inr (Or.inl ⟨a, rfl⟩)⟩))
theorem s_smallestPeriod {i t n : Nat} {xs : Nat → Int32} {Q : aq_F} {S : aq_S} {D : jD} {L : List (Nat × Value)} (hT : tl5 L) (hJ : jJ S t n xs D) (hi : i + 5 ≤ n) (hn : n ≤ 2560) (k : ∀ (S2 : aq_S) (D2 : jD) (L2 : List (Nat × Value)), jJ S2 (t + 1) n xs D2 → tl5 L2 → aG 21 251 Q 2846 ((0, .ref 0) :: (1, .ref 1) :: (2, .ref 52) :: (3, .ref 71) :: (4, .int (nI i)) :: L2) [] S2) : aG 21 251 Q 1427 ((0, .ref 0) :: (1, .ref 1) :: (2, .ref 52) :: (3, .ref 71) :: (4, .int (nI i)) :: L) [] S := by
  obtain ⟨hs, hX9⟩ := hJ.1.x
  obtain ⟨D', r, a, hV', hL, hM⟩ := jP (AL := [.ref 1, .int (xs (i + 1)), .int (if xs (i + 2) = 0 then 0 else 1), .ref 71]) (w9 := fun v9 : Int32 => v9.toInt64) hJ (c_smallestPeriod (a := (xs (i + 1))) (az := (if xs (i + 2) = 0 then 0 else 1)) hJ.1 hJ.2.2.1) (fun a P h1 h2 => l_smallestPeriod 20 hX9 h1 h2) (fun E r P h1 h2 h3 => l_smallestPeriod_x 20 hX9 h1 h2 h3)
  exact b_smallestPeriod hT hJ.2.2.2.1.2.2.2 hi hn rfl hL (fun S1 p => ⟨p.2.2.1.2.2.2, p.2.1.elim (fun th h => h.o.elim (fun fs e => ⟨_, e⟩))⟩) hM (fun S2 p => ⟨p.2.1.o, p.2.2.2.2⟩) (fun S2 p => k S2 D' [(5, .int r), (6, .int a)] ⟨p.1, ⟨_, p.2.1⟩, hV', p.2.2.1, p.2.2.2.1⟩ (Or.inr ⟨r, [(6, .int a)], rfl, Or.inr (Or.inl ⟨a, rfl⟩)⟩))
theorem s_periodBound {i t n : Nat} {xs : Nat → Int32} {Q : aq_F} {S : aq_S} {D : jD} {L : List (Nat × Value)} (hT : tl5 L) (hJ : jJ S t n xs D) (hi : i + 5 ≤ n) (hn : n ≤ 2560) (k : ∀ (S2 : aq_S) (D2 : jD) (L2 : List (Nat × Value)), jJ S2 (t + 1) n xs D2 → tl5 L2 → aG 21 251 Q 2846 ((0, .ref 0) :: (1, .ref 1) :: (2, .ref 52) :: (3, .ref 71) :: (4, .int (nI i)) :: L2) [] S2) : aG 21 251 Q 1511 ((0, .ref 0) :: (1, .ref 1) :: (2, .ref 52) :: (3, .ref 71) :: (4, .int (nI i)) :: L) [] S := by
  obtain ⟨hs, hX9⟩ := hJ.1.x
  obtain ⟨D', r, a, hV', hL, hM⟩ := jP (AL := [.ref 1, .int (xs (i + 1)), .int (xs (i + 2)), .int (xs (i + 3)), .ref 71]) (w9 := fun v9 : Int32 => v9.toInt64) hJ (c_periodBound (a := (xs (i + 1))) (b := (xs (i + 2))) (s := (xs (i + 3))) hJ.1 hJ.2.2.1) (fun a P h1 h2 => l_periodBound 20 hX9 h1 h2) (fun E r P h1 h2 h3 => l_periodBound_x 20 hX9 h1 h2 h3)
  exact b_periodBound hT hJ.2.2.2.1.2.2.2 hi hn hL (fun S1 p => ⟨p.2.2.1.2.2.2, p.2.1.elim (fun th h => h.o.elim (fun fs e => ⟨_, e⟩))⟩) hM (fun S2 p => ⟨p.2.1.o, p.2.2.2.2⟩) (fun S2 p => k S2 D' [(5, .int r), (6, .int a)] ⟨p.1, ⟨_, p.2.1⟩, hV', p.2.2.1, p.2.2.2.1⟩ (Or.inr ⟨r, [(6, .int a)], rfl, Or.inr (Or.inl ⟨a, rfl⟩)⟩))
theorem s_longestBorder {i t n : Nat} {xs : Nat → Int32} {Q : aq_F} {S : aq_S} {D : jD} {L : List (Nat × Value)} (hT : tl5 L) (hJ : jJ S t n xs D) (hi : i + 5 ≤ n) (hn : n ≤ 2560) (k : ∀ (S2 : aq_S) (D2 : jD) (L2 : List (Nat × Value)), jJ S2 (t + 1) n xs D2 → tl5 L2 → aG 21 251 Q 2846 ((0, .ref 0) :: (1, .ref 1) :: (2, .ref 52) :: (3, .ref 71) :: (4, .int (nI i)) :: L2) [] S2) : aG 21 251 Q 1591 ((0, .ref 0) :: (1, .ref 1) :: (2, .ref 52) :: (3, .ref 71) :: (4, .int (nI i)) :: L) [] S := by
  obtain ⟨hs, hX9⟩ := hJ.1.x
  obtain ⟨D', r, a, hV', hL, hM⟩ := jP (AL := [.ref 1, .int (xs (i + 1)), .ref 71]) (w9 := fun v9 : Int32 => v9.toInt64) hJ (c_longestBorder (a := (xs (i + 1))) hJ.1 hJ.2.2.1) (fun a P h1 h2 => l_longestBorder 20 hX9 h1 h2) (fun E r P h1 h2 h3 => l_longestBorder_x 20 hX9 h1 h2 h3)
  exact b_longestBorder hT hJ.2.2.2.1.2.2.2 hi hn hL (fun S1 p => ⟨p.2.2.1.2.2.2, p.2.1.elim (fun th h => h.o.elim (fun fs e => ⟨_, e⟩))⟩) hM (fun S2 p => ⟨p.2.1.o, p.2.2.2.2⟩) (fun S2 p => k S2 D' [(5, .int r), (6, .int a)] ⟨p.1, ⟨_, p.2.1⟩, hV', p.2.2.1, p.2.2.2.1⟩ (Or.inr ⟨r, [(6, .int a)], rfl, Or.inr (Or.inl ⟨a, rfl⟩)⟩))
theorem s_isPrimitive {i t n : Nat} {xs : Nat → Int32} {Q : aq_F} {S : aq_S} {D : jD} {L : List (Nat × Value)} (hT : tl5 L) (hJ : jJ S t n xs D) (hi : i + 5 ≤ n) (hn : n ≤ 2560) (k : ∀ (S2 : aq_S) (D2 : jD) (L2 : List (Nat × Value)), jJ S2 (t + 1) n xs D2 → tl5 L2 → aG 21 251 Q 2846 ((0, .ref 0) :: (1, .ref 1) :: (2, .ref 52) :: (3, .ref 71) :: (4, .int (nI i)) :: L2) [] S2) : aG 21 251 Q 1647 ((0, .ref 0) :: (1, .ref 1) :: (2, .ref 52) :: (3, .ref 71) :: (4, .int (nI i)) :: L) [] S := by
  obtain ⟨hs, hX9⟩ := hJ.1.x
  obtain ⟨D', r, a, hV', hL, hM⟩ := jP (AL := [.ref 1, .int (xs (i + 1)), .ref 71]) (w9 := fun v9 : Int32 => if v9 = 0 then 0 else 1) hJ (c_isPrimitive (a := (xs (i + 1))) hJ.1 hJ.2.2.1) (fun a P h1 h2 => l_isPrimitive 20 hX9 h1 h2) (fun E r P h1 h2 h3 => l_isPrimitive_x 20 hX9 h1 h2 h3)
  exact b_isPrimitive hT hJ.2.2.2.1.2.2.2 hi hn hL (fun S1 p => ⟨p.2.2.1.2.2.2, p.2.1.elim (fun th h => h.o.elim (fun fs e => ⟨_, e⟩))⟩) hM (fun S2 p => ⟨p.2.1.o, p.2.2.2.2⟩) (fun S2 p => k S2 D' [(5, .int r), (6, .int a)] ⟨p.1, ⟨_, p.2.1⟩, hV', p.2.2.1, p.2.2.2.1⟩ (Or.inr ⟨r, [(6, .int a)], rfl, Or.inr (Or.inl ⟨a, rfl⟩)⟩))
theorem s_exponent {i t n : Nat} {xs : Nat → Int32} {Q : aq_F} {S : aq_S} {D : jD} {L : List (Nat × Value)} (hT : tl5 L) (hJ : jJ S t n xs D) (hi : i + 5 ≤ n) (hn : n ≤ 2560) (k : ∀ (S2 : aq_S) (D2 : jD) (L2 : List (Nat × Value)), jJ S2 (t + 1) n xs D2 → tl5 L2 → aG 21 251 Q 2846 ((0, .ref 0) :: (1, .ref 1) :: (2, .ref 52) :: (3, .ref 71) :: (4, .int (nI i)) :: L2) [] S2) : aG 21 251 Q 1710 ((0, .ref 0) :: (1, .ref 1) :: (2, .ref 52) :: (3, .ref 71) :: (4, .int (nI i)) :: L) [] S := by
  obtain ⟨hs, hX9⟩ := hJ.1.x
  obtain ⟨D', r, a, hV', hL, hM⟩ := jP (AL := [.ref 1, .int (xs (i + 1)), .ref 71]) (w9 := fun v9 : Int32 => v9.toInt64) hJ (c_exponent (a := (xs (i + 1))) hJ.1 hJ.2.2.1) (fun a P h1 h2 => l_exponent 20 hX9 h1 h2) (fun E r P h1 h2 h3 => l_exponent_x 20 hX9 h1 h2 h3)
  exact b_exponent hT hJ.2.2.2.1.2.2.2 hi hn hL (fun S1 p => ⟨p.2.2.1.2.2.2, p.2.1.elim (fun th h => h.o.elim (fun fs e => ⟨_, e⟩))⟩) hM (fun S2 p => ⟨p.2.1.o, p.2.2.2.2⟩) (fun S2 p => k S2 D' [(5, .int r), (6, .int a)] ⟨p.1, ⟨_, p.2.1⟩, hV', p.2.2.1, p.2.2.2.1⟩ (Or.inr ⟨r, [(6, .int a)], rfl, Or.inr (Or.inl ⟨a, rfl⟩)⟩))
theorem s_completionCount {i t n : Nat} {xs : Nat → Int32} {Q : aq_F} {S : aq_S} {D : jD} {L : List (Nat × Value)} (hT : tl5 L) (hJ : jJ S t n xs D) (hi : i + 5 ≤ n) (hn : n ≤ 2560) (k : ∀ (S2 : aq_S) (D2 : jD) (L2 : List (Nat × Value)), jJ S2 (t + 1) n xs D2 → tl5 L2 → aG 21 251 Q 2846 ((0, .ref 0) :: (1, .ref 1) :: (2, .ref 52) :: (3, .ref 71) :: (4, .int (nI i)) :: L2) [] S2) : aG 21 251 Q 1766 ((0, .ref 0) :: (1, .ref 1) :: (2, .ref 52) :: (3, .ref 71) :: (4, .int (nI i)) :: L) [] S := by
  obtain ⟨hs, hX9⟩ := hJ.1.x
  obtain ⟨D', r, a, hV', hL, hM⟩ := jP (AL := [.ref 1, .int (xs (i + 1)), .ref 71]) (w9 := fun v9 : Int64 => v9) hJ (c_completionCount (a := (xs (i + 1))) hJ.1 hJ.2.2.1) (fun a P h1 h2 => l_completionCount 20 hX9 h1 h2) (fun E r P h1 h2 h3 => l_completionCount_x 20 hX9 h1 h2 h3)
  exact b_completionCount hT hJ.2.2.2.1.2.2.2 hi hn hL (fun S1 p => ⟨p.2.2.1.2.2.2, p.2.1.elim (fun th h => h.o.elim (fun fs e => ⟨_, e⟩))⟩) hM (fun S2 p => ⟨p.2.1.o, p.2.2.2.2⟩) (fun S2 p => k S2 D' [(5, .int r), (6, .long a)] ⟨p.1, ⟨_, p.2.1⟩, hV', p.2.2.1, p.2.2.2.1⟩ (Or.inr ⟨r, [(6, .long a)], rfl, Or.inr (Or.inr ⟨a, rfl⟩)⟩))
theorem s_complete {i t n : Nat} {xs : Nat → Int32} {Q : aq_F} {S : aq_S} {D : jD} {L : List (Nat × Value)} (hT : tl5 L) (hJ : jJ S t n xs D) (hi : i + 5 ≤ n) (hn : n ≤ 2560) (k : ∀ (S2 : aq_S) (D2 : jD) (L2 : List (Nat × Value)), jJ S2 (t + 1) n xs D2 → tl5 L2 → aG 21 251 Q 2846 ((0, .ref 0) :: (1, .ref 1) :: (2, .ref 52) :: (3, .ref 71) :: (4, .int (nI i)) :: L2) [] S2) : aG 21 251 Q 1821 ((0, .ref 0) :: (1, .ref 1) :: (2, .ref 52) :: (3, .ref 71) :: (4, .int (nI i)) :: L) [] S := by
  obtain ⟨hs, hX9⟩ := hJ.1.x
  obtain ⟨D', r, a, hV', hL, hM⟩ := jP (AL := [.ref 1, .int (xs (i + 1)), .long ((xs (i + 2)).toInt64 <<< ((32 : Int32).toInt64 &&& 63) ||| ((xs (i + 3)).toInt64 &&& 4294967295)), .int (xs (i + 4)), .ref 71]) (w9 := fun v9 : Int32 => v9.toInt64) hJ (c_complete (a := (xs (i + 1))) (x := ((xs (i + 2)).toInt64 <<< ((32 : Int32).toInt64 &&& 63) ||| ((xs (i + 3)).toInt64 &&& 4294967295))) (b := (xs (i + 4))) hJ.1 hJ.2.2.1) (fun a P h1 h2 => l_complete 20 hX9 h1 h2) (fun E r P h1 h2 h3 => l_complete_x 20 hX9 h1 h2 h3)
  exact b_complete hT hJ.2.2.2.1.2.2.2 hi hn hL (fun S1 p => ⟨p.2.2.1.2.2.2, p.2.1.elim (fun th h => h.o.elim (fun fs e => ⟨_, e⟩))⟩) hM (fun S2 p => ⟨p.2.1.o, p.2.2.2.2⟩) (fun S2 p => k S2 D' [(5, .int r), (6, .int a)] ⟨p.1, ⟨_, p.2.1⟩, hV', p.2.2.1, p.2.2.2.1⟩ (Or.inr ⟨r, [(6, .int a)], rfl, Or.inr (Or.inl ⟨a, rfl⟩)⟩))
theorem s_primitiveCompletions {i t n : Nat} {xs : Nat → Int32} {Q : aq_F} {S : aq_S} {D : jD} {L : List (Nat × Value)} (hT : tl5 L) (hJ : jJ S t n xs D) (hi : i + 5 ≤ n) (hn : n ≤ 2560) (k : ∀ (S2 : aq_S) (D2 : jD) (L2 : List (Nat × Value)), jJ S2 (t + 1) n xs D2 → tl5 L2 → aG 21 251 Q 2846 ((0, .ref 0) :: (1, .ref 1) :: (2, .ref 52) :: (3, .ref 71) :: (4, .int (nI i)) :: L2) [] S2) : aG 21 251 Q 1933 ((0, .ref 0) :: (1, .ref 1) :: (2, .ref 52) :: (3, .ref 71) :: (4, .int (nI i)) :: L) [] S := by
  obtain ⟨hs, hX9⟩ := hJ.1.x
  obtain ⟨D', r, a, hV', hL, hM⟩ := jP (AL := [.ref 1, .int (xs (i + 1)), .ref 71]) (w9 := fun v9 : Int32 => v9.toInt64) hJ (c_primitiveCompletions (a := (xs (i + 1))) hJ.1 hJ.2.2.1) (fun a P h1 h2 => l_primitiveCompletions 20 hX9 h1 h2) (fun E r P h1 h2 h3 => l_primitiveCompletions_x 20 hX9 h1 h2 h3)
  exact b_primitiveCompletions hT hJ.2.2.2.1.2.2.2 hi hn hL (fun S1 p => ⟨p.2.2.1.2.2.2, p.2.1.elim (fun th h => h.o.elim (fun fs e => ⟨_, e⟩))⟩) hM (fun S2 p => ⟨p.2.1.o, p.2.2.2.2⟩) (fun S2 p => k S2 D' [(5, .int r), (6, .int a)] ⟨p.1, ⟨_, p.2.1⟩, hV', p.2.2.1, p.2.2.2.1⟩ (Or.inr ⟨r, [(6, .int a)], rfl, Or.inr (Or.inl ⟨a, rfl⟩)⟩))
theorem s_complexity {i t n : Nat} {xs : Nat → Int32} {Q : aq_F} {S : aq_S} {D : jD} {L : List (Nat × Value)} (hT : tl5 L) (hJ : jJ S t n xs D) (hi : i + 5 ≤ n) (hn : n ≤ 2560) (k : ∀ (S2 : aq_S) (D2 : jD) (L2 : List (Nat × Value)), jJ S2 (t + 1) n xs D2 → tl5 L2 → aG 21 251 Q 2846 ((0, .ref 0) :: (1, .ref 1) :: (2, .ref 52) :: (3, .ref 71) :: (4, .int (nI i)) :: L2) [] S2) : aG 21 251 Q 1989 ((0, .ref 0) :: (1, .ref 1) :: (2, .ref 52) :: (3, .ref 71) :: (4, .int (nI i)) :: L) [] S := by
  obtain ⟨hs, hX9⟩ := hJ.1.x
  obtain ⟨D', r, a, hV', hL, hM⟩ := jP (AL := [.ref 1, .int (xs (i + 1)), .int (xs (i + 2)), .ref 71]) (w9 := fun v9 : Int32 => v9.toInt64) hJ (c_complexity (a := (xs (i + 1))) (b := (xs (i + 2))) hJ.1 hJ.2.2.1) (fun a P h1 h2 => l_complexity 20 hX9 h1 h2) (fun E r P h1 h2 h3 => l_complexity_x 20 hX9 h1 h2 h3)
  exact b_complexity hT hJ.2.2.2.1.2.2.2 hi hn hL (fun S1 p => ⟨p.2.2.1.2.2.2, p.2.1.elim (fun th h => h.o.elim (fun fs e => ⟨_, e⟩))⟩) hM (fun S2 p => ⟨p.2.1.o, p.2.2.2.2⟩) (fun S2 p => k S2 D' [(5, .int r), (6, .int a)] ⟨p.1, ⟨_, p.2.1⟩, hV', p.2.2.1, p.2.2.2.1⟩ (Or.inr ⟨r, [(6, .int a)], rfl, Or.inr (Or.inl ⟨a, rfl⟩)⟩))
theorem s_occurrences {i t n : Nat} {xs : Nat → Int32} {Q : aq_F} {S : aq_S} {D : jD} {L : List (Nat × Value)} (hT : tl5 L) (hJ : jJ S t n xs D) (hi : i + 5 ≤ n) (hn : n ≤ 2560) (k : ∀ (S2 : aq_S) (D2 : jD) (L2 : List (Nat × Value)), jJ S2 (t + 1) n xs D2 → tl5 L2 → aG 21 251 Q 2846 ((0, .ref 0) :: (1, .ref 1) :: (2, .ref 52) :: (3, .ref 71) :: (4, .int (nI i)) :: L2) [] S2) : aG 21 251 Q 2057 ((0, .ref 0) :: (1, .ref 1) :: (2, .ref 52) :: (3, .ref 71) :: (4, .int (nI i)) :: L) [] S := by
  obtain ⟨hs, hX9⟩ := hJ.1.x
  obtain ⟨D', r, a, hV', hL, hM⟩ := jP (AL := [.ref 1, .int (xs (i + 1)), .int (xs (i + 2)), .ref 71]) (w9 := fun v9 : Int32 => v9.toInt64) hJ (c_occurrences (a := (xs (i + 1))) (b := (xs (i + 2))) hJ.1 hJ.2.2.1) (fun a P h1 h2 => l_occurrences 20 hX9 h1 h2) (fun E r P h1 h2 h3 => l_occurrences_x 20 hX9 h1 h2 h3)
  exact b_occurrences hT hJ.2.2.2.1.2.2.2 hi hn hL (fun S1 p => ⟨p.2.2.1.2.2.2, p.2.1.elim (fun th h => h.o.elim (fun fs e => ⟨_, e⟩))⟩) hM (fun S2 p => ⟨p.2.1.o, p.2.2.2.2⟩) (fun S2 p => k S2 D' [(5, .int r), (6, .int a)] ⟨p.1, ⟨_, p.2.1⟩, hV', p.2.2.1, p.2.2.2.1⟩ (Or.inr ⟨r, [(6, .int a)], rfl, Or.inr (Or.inl ⟨a, rfl⟩)⟩))
theorem s_addPattern {i t n : Nat} {xs : Nat → Int32} {Q : aq_F} {S : aq_S} {D : jD} {L : List (Nat × Value)} (hT : tl5 L) (hJ : jJ S t n xs D) (hi : i + 5 ≤ n) (hn : n ≤ 2560) (k : ∀ (S2 : aq_S) (D2 : jD) (L2 : List (Nat × Value)), jJ S2 (t + 1) n xs D2 → tl5 L2 → aG 21 251 Q 2846 ((0, .ref 0) :: (1, .ref 1) :: (2, .ref 52) :: (3, .ref 71) :: (4, .int (nI i)) :: L2) [] S2) : aG 21 251 Q 2125 ((0, .ref 0) :: (1, .ref 1) :: (2, .ref 52) :: (3, .ref 71) :: (4, .int (nI i)) :: L) [] S := by
  obtain ⟨hs, hX9⟩ := hJ.1.x
  obtain ⟨D', r, a, hV', hL, hM⟩ := jP (AL := [.ref 1, .int (xs (i + 1)), .ref 71]) (w9 := fun v9 : Int32 => v9.toInt64) hJ (c_addPattern (a := (xs (i + 1))) hJ.1 hJ.2.2.1) (fun a P h1 h2 => l_addPattern 20 hX9 h1 h2) (fun E r P h1 h2 h3 => l_addPattern_x 20 hX9 h1 h2 h3)
  exact b_addPattern hT hJ.2.2.2.1.2.2.2 hi hn hL (fun S1 p => ⟨p.2.2.1.2.2.2, p.2.1.elim (fun th h => h.o.elim (fun fs e => ⟨_, e⟩))⟩) hM (fun S2 p => ⟨p.2.1.o, p.2.2.2.2⟩) (fun S2 p => k S2 D' [(5, .int r), (6, .int a)] ⟨p.1, ⟨_, p.2.1⟩, hV', p.2.2.1, p.2.2.2.1⟩ (Or.inr ⟨r, [(6, .int a)], rfl, Or.inr (Or.inl ⟨a, rfl⟩)⟩))
theorem s_removePattern {i t n : Nat} {xs : Nat → Int32} {Q : aq_F} {S : aq_S} {D : jD} {L : List (Nat × Value)} (hT : tl5 L) (hJ : jJ S t n xs D) (hi : i + 5 ≤ n) (hn : n ≤ 2560) (k : ∀ (S2 : aq_S) (D2 : jD) (L2 : List (Nat × Value)), jJ S2 (t + 1) n xs D2 → tl5 L2 → aG 21 251 Q 2846 ((0, .ref 0) :: (1, .ref 1) :: (2, .ref 52) :: (3, .ref 71) :: (4, .int (nI i)) :: L2) [] S2) : aG 21 251 Q 2181 ((0, .ref 0) :: (1, .ref 1) :: (2, .ref 52) :: (3, .ref 71) :: (4, .int (nI i)) :: L) [] S := by
  obtain ⟨hs, hX9⟩ := hJ.1.x
  obtain ⟨D', r, a, hV', hL, hM⟩ := jP (AL := [.ref 1, .int (xs (i + 1)), .ref 71]) (w9 := fun v9 : Int32 => v9.toInt64) hJ (c_removePattern (a := (xs (i + 1))) hJ.1 hJ.2.2.1) (fun a P h1 h2 => l_removePattern 20 hX9 h1 h2) (fun E r P h1 h2 h3 => l_removePattern_x 20 hX9 h1 h2 h3)
  exact b_removePattern hT hJ.2.2.2.1.2.2.2 hi hn hL (fun S1 p => ⟨p.2.2.1.2.2.2, p.2.1.elim (fun th h => h.o.elim (fun fs e => ⟨_, e⟩))⟩) hM (fun S2 p => ⟨p.2.1.o, p.2.2.2.2⟩) (fun S2 p => k S2 D' [(5, .int r), (6, .int a)] ⟨p.1, ⟨_, p.2.1⟩, hV', p.2.2.1, p.2.2.2.1⟩ (Or.inr ⟨r, [(6, .int a)], rfl, Or.inr (Or.inl ⟨a, rfl⟩)⟩))
theorem s_patternCount {i t n : Nat} {xs : Nat → Int32} {Q : aq_F} {S : aq_S} {D : jD} {L : List (Nat × Value)} (hT : tl5 L) (hJ : jJ S t n xs D) (hi : i + 5 ≤ n) (hn : n ≤ 2560) (k : ∀ (S2 : aq_S) (D2 : jD) (L2 : List (Nat × Value)), jJ S2 (t + 1) n xs D2 → tl5 L2 → aG 21 251 Q 2846 ((0, .ref 0) :: (1, .ref 1) :: (2, .ref 52) :: (3, .ref 71) :: (4, .int (nI i)) :: L2) [] S2) : aG 21 251 Q 2237 ((0, .ref 0) :: (1, .ref 1) :: (2, .ref 52) :: (3, .ref 71) :: (4, .int (nI i)) :: L) [] S := by
  obtain ⟨hs, hX9⟩ := hJ.1.x
  obtain ⟨D', a, hV', hx, hm⟩ := c_patternCount hJ.1 hJ.2.2.1
  obtain ⟨hL, hM⟩ := jP2 hJ hx hm
  exact b_patternCount hX9 hL (fun S1 p => p.2.1.elim (fun th h => h.o.elim (fun fs e => ⟨_, e⟩))) hM (fun S2 p => k S2 D' L ⟨p.1, ⟨_, p.2.1⟩, hV', p.2.2.1, p.2.2.2⟩ hT)
theorem s_avoids {i t n : Nat} {xs : Nat → Int32} {Q : aq_F} {S : aq_S} {D : jD} {L : List (Nat × Value)} (hT : tl5 L) (hJ : jJ S t n xs D) (hi : i + 5 ≤ n) (hn : n ≤ 2560) (k : ∀ (S2 : aq_S) (D2 : jD) (L2 : List (Nat × Value)), jJ S2 (t + 1) n xs D2 → tl5 L2 → aG 21 251 Q 2846 ((0, .ref 0) :: (1, .ref 1) :: (2, .ref 52) :: (3, .ref 71) :: (4, .int (nI i)) :: L2) [] S2) : aG 21 251 Q 2250 ((0, .ref 0) :: (1, .ref 1) :: (2, .ref 52) :: (3, .ref 71) :: (4, .int (nI i)) :: L) [] S := by
  obtain ⟨hs, hX9⟩ := hJ.1.x
  obtain ⟨D', r, a, hV', hL, hM⟩ := jP (AL := [.ref 1, .int (xs (i + 1)), .ref 71]) (w9 := fun v9 : Int32 => if v9 = 0 then 0 else 1) hJ (c_avoids (a := (xs (i + 1))) hJ.1 hJ.2.2.1) (fun a P h1 h2 => l_avoids 20 hX9 h1 h2) (fun E r P h1 h2 h3 => l_avoids_x 20 hX9 h1 h2 h3)
  exact b_avoids hT hJ.2.2.2.1.2.2.2 hi hn hL (fun S1 p => ⟨p.2.2.1.2.2.2, p.2.1.elim (fun th h => h.o.elim (fun fs e => ⟨_, e⟩))⟩) hM (fun S2 p => ⟨p.2.1.o, p.2.2.2.2⟩) (fun S2 p => k S2 D' [(5, .int r), (6, .int a)] ⟨p.1, ⟨_, p.2.1⟩, hV', p.2.2.1, p.2.2.2.1⟩ (Or.inr ⟨r, [(6, .int a)], rfl, Or.inr (Or.inl ⟨a, rfl⟩)⟩))
theorem s_isUnavoidable {i t n : Nat} {xs : Nat → Int32} {Q : aq_F} {S : aq_S} {D : jD} {L : List (Nat × Value)} (hT : tl5 L) (hJ : jJ S t n xs D) (hi : i + 5 ≤ n) (hn : n ≤ 2560) (k : ∀ (S2 : aq_S) (D2 : jD) (L2 : List (Nat × Value)), jJ S2 (t + 1) n xs D2 → tl5 L2 → aG 21 251 Q 2846 ((0, .ref 0) :: (1, .ref 1) :: (2, .ref 52) :: (3, .ref 71) :: (4, .int (nI i)) :: L2) [] S2) : aG 21 251 Q 2313 ((0, .ref 0) :: (1, .ref 1) :: (2, .ref 52) :: (3, .ref 71) :: (4, .int (nI i)) :: L) [] S := by
  obtain ⟨hs, hX9⟩ := hJ.1.x
  obtain ⟨D', a, hV', hx, hm⟩ := c_isUnavoidable hJ.1 hJ.2.2.1
  obtain ⟨hL, hM⟩ := jP2 hJ hx hm
  exact b_isUnavoidable hX9 hL (fun S1 p => p.2.1.elim (fun th h => h.o.elim (fun fs e => ⟨_, e⟩))) hM (fun S2 p => k S2 D' L ⟨p.1, ⟨_, p.2.1⟩, hV', p.2.2.1, p.2.2.2⟩ hT)
theorem s_isMinimal {i t n : Nat} {xs : Nat → Int32} {Q : aq_F} {S : aq_S} {D : jD} {L : List (Nat × Value)} (hT : tl5 L) (hJ : jJ S t n xs D) (hi : i + 5 ≤ n) (hn : n ≤ 2560) (k : ∀ (S2 : aq_S) (D2 : jD) (L2 : List (Nat × Value)), jJ S2 (t + 1) n xs D2 → tl5 L2 → aG 21 251 Q 2846 ((0, .ref 0) :: (1, .ref 1) :: (2, .ref 52) :: (3, .ref 71) :: (4, .int (nI i)) :: L2) [] S2) : aG 21 251 Q 2326 ((0, .ref 0) :: (1, .ref 1) :: (2, .ref 52) :: (3, .ref 71) :: (4, .int (nI i)) :: L) [] S := by
  obtain ⟨hs, hX9⟩ := hJ.1.x
  obtain ⟨D', a, hV', hx, hm⟩ := c_isMinimal hJ.1 hJ.2.2.1
  obtain ⟨hL, hM⟩ := jP2 hJ hx hm
  exact b_isMinimal hX9 hL (fun S1 p => p.2.1.elim (fun th h => h.o.elim (fun fs e => ⟨_, e⟩))) hM (fun S2 p => k S2 D' L ⟨p.1, ⟨_, p.2.1⟩, hV', p.2.2.1, p.2.2.2⟩ hT)
theorem s_longestAvoiding {i t n : Nat} {xs : Nat → Int32} {Q : aq_F} {S : aq_S} {D : jD} {L : List (Nat × Value)} (hT : tl5 L) (hJ : jJ S t n xs D) (hi : i + 5 ≤ n) (hn : n ≤ 2560) (k : ∀ (S2 : aq_S) (D2 : jD) (L2 : List (Nat × Value)), jJ S2 (t + 1) n xs D2 → tl5 L2 → aG 21 251 Q 2846 ((0, .ref 0) :: (1, .ref 1) :: (2, .ref 52) :: (3, .ref 71) :: (4, .int (nI i)) :: L2) [] S2) : aG 21 251 Q 2339 ((0, .ref 0) :: (1, .ref 1) :: (2, .ref 52) :: (3, .ref 71) :: (4, .int (nI i)) :: L) [] S := by
  obtain ⟨hs, hX9⟩ := hJ.1.x
  obtain ⟨D', r, a, hV', hL, hM⟩ := jP (AL := [.ref 1, .ref 71]) (w9 := fun v9 : Int32 => v9.toInt64) hJ (c_longestAvoiding  hJ.1 hJ.2.2.1) (fun a P h1 h2 => l_longestAvoiding 20 hX9 h1 h2) (fun E r P h1 h2 h3 => l_longestAvoiding_x 20 hX9 h1 h2 h3)
  exact b_longestAvoiding hT hJ.2.2.2.1.2.2.2 hi hn hL (fun S1 p => ⟨p.2.2.1.2.2.2, p.2.1.elim (fun th h => h.o.elim (fun fs e => ⟨_, e⟩))⟩) hM (fun S2 p => ⟨p.2.1.o, p.2.2.2.2⟩) (fun S2 p => k S2 D' [(5, .int r), (6, .int a)] ⟨p.1, ⟨_, p.2.1⟩, hV', p.2.2.1, p.2.2.2.1⟩ (Or.inr ⟨r, [(6, .int a)], rfl, Or.inr (Or.inl ⟨a, rfl⟩)⟩))
theorem s_countAvoiding {i t n : Nat} {xs : Nat → Int32} {Q : aq_F} {S : aq_S} {D : jD} {L : List (Nat × Value)} (hT : tl5 L) (hJ : jJ S t n xs D) (hi : i + 5 ≤ n) (hn : n ≤ 2560) (k : ∀ (S2 : aq_S) (D2 : jD) (L2 : List (Nat × Value)), jJ S2 (t + 1) n xs D2 → tl5 L2 → aG 21 251 Q 2846 ((0, .ref 0) :: (1, .ref 1) :: (2, .ref 52) :: (3, .ref 71) :: (4, .int (nI i)) :: L2) [] S2) : aG 21 251 Q 2383 ((0, .ref 0) :: (1, .ref 1) :: (2, .ref 52) :: (3, .ref 71) :: (4, .int (nI i)) :: L) [] S := by
  obtain ⟨hs, hX9⟩ := hJ.1.x
  obtain ⟨D', r, a, hV', hL, hM⟩ := jP (AL := [.ref 1, .int (xs (i + 1)), .ref 71]) (w9 := fun v9 : Int64 => v9) hJ (c_countAvoiding (a := (xs (i + 1))) hJ.1 hJ.2.2.1) (fun a P h1 h2 => l_countAvoiding 20 hX9 h1 h2) (fun E r P h1 h2 h3 => l_countAvoiding_x 20 hX9 h1 h2 h3)
  exact b_countAvoiding hT hJ.2.2.2.1.2.2.2 hi hn hL (fun S1 p => ⟨p.2.2.1.2.2.2, p.2.1.elim (fun th h => h.o.elim (fun fs e => ⟨_, e⟩))⟩) hM (fun S2 p => ⟨p.2.1.o, p.2.2.2.2⟩) (fun S2 p => k S2 D' [(5, .int r), (6, .long a)] ⟨p.1, ⟨_, p.2.1⟩, hV', p.2.2.1, p.2.2.2.1⟩ (Or.inr ⟨r, [(6, .long a)], rfl, Or.inr (Or.inr ⟨a, rfl⟩)⟩))
theorem s_avoidingCycle {i t n : Nat} {xs : Nat → Int32} {Q : aq_F} {S : aq_S} {D : jD} {L : List (Nat × Value)} (hT : tl5 L) (hJ : jJ S t n xs D) (hi : i + 5 ≤ n) (hn : n ≤ 2560) (k : ∀ (S2 : aq_S) (D2 : jD) (L2 : List (Nat × Value)), jJ S2 (t + 1) n xs D2 → tl5 L2 → aG 21 251 Q 2846 ((0, .ref 0) :: (1, .ref 1) :: (2, .ref 52) :: (3, .ref 71) :: (4, .int (nI i)) :: L2) [] S2) : aG 21 251 Q 2438 ((0, .ref 0) :: (1, .ref 1) :: (2, .ref 52) :: (3, .ref 71) :: (4, .int (nI i)) :: L) [] S := by
  obtain ⟨hs, hX9⟩ := hJ.1.x
  obtain ⟨D', r, a, hV', hL, hM⟩ := jP (AL := [.ref 1, .int (xs (i + 1)), .ref 71]) (w9 := fun v9 : Int32 => v9.toInt64) hJ (c_avoidingCycle (a := (xs (i + 1))) hJ.1 hJ.2.2.1) (fun a P h1 h2 => l_avoidingCycle 20 hX9 h1 h2) (fun E r P h1 h2 h3 => l_avoidingCycle_x 20 hX9 h1 h2 h3)
  exact b_avoidingCycle hT hJ.2.2.2.1.2.2.2 hi hn hL (fun S1 p => ⟨p.2.2.1.2.2.2, p.2.1.elim (fun th h => h.o.elim (fun fs e => ⟨_, e⟩))⟩) hM (fun S2 p => ⟨p.2.1.o, p.2.2.2.2⟩) (fun S2 p => k S2 D' [(5, .int r), (6, .int a)] ⟨p.1, ⟨_, p.2.1⟩, hV', p.2.2.1, p.2.2.2.1⟩ (Or.inr ⟨r, [(6, .int a)], rfl, Or.inr (Or.inl ⟨a, rfl⟩)⟩))
theorem s_newRow {i t n : Nat} {xs : Nat → Int32} {Q : aq_F} {S : aq_S} {D : jD} {L : List (Nat × Value)} (hT : tl5 L) (hJ : jJ S t n xs D) (hi : i + 5 ≤ n) (hn : n ≤ 2560) (k : ∀ (S2 : aq_S) (D2 : jD) (L2 : List (Nat × Value)), jJ S2 (t + 1) n xs D2 → tl5 L2 → aG 21 251 Q 2846 ((0, .ref 0) :: (1, .ref 1) :: (2, .ref 52) :: (3, .ref 71) :: (4, .int (nI i)) :: L2) [] S2) : aG 21 251 Q 2494 ((0, .ref 0) :: (1, .ref 1) :: (2, .ref 52) :: (3, .ref 71) :: (4, .int (nI i)) :: L) [] S := by
  obtain ⟨hs, hX9⟩ := hJ.1.x
  obtain ⟨D', r, a, hV', hL, hM⟩ := jP (AL := [.ref 1, .int (xs (i + 1)), .int (xs (i + 2)), .int (xs (i + 3)), .ref 71]) (w9 := fun v9 : Int32 => v9.toInt64) hJ (c_newRow (a := (xs (i + 1))) (b := (xs (i + 2))) (s := (xs (i + 3))) hJ.1 hJ.2.2.1) (fun a P h1 h2 => l_newRow 20 hX9 h1 h2) (fun E r P h1 h2 h3 => l_newRow_x 20 hX9 h1 h2 h3)
  exact b_newRow hT hJ.2.2.2.1.2.2.2 hi hn hL (fun S1 p => ⟨p.2.2.1.2.2.2, p.2.1.elim (fun th h => h.o.elim (fun fs e => ⟨_, e⟩))⟩) hM (fun S2 p => ⟨p.2.1.o, p.2.2.2.2⟩) (fun S2 p => k S2 D' [(5, .int r), (6, .int a)] ⟨p.1, ⟨_, p.2.1⟩, hV', p.2.2.1, p.2.2.2.1⟩ (Or.inr ⟨r, [(6, .int a)], rfl, Or.inr (Or.inl ⟨a, rfl⟩)⟩))
theorem s_fillDensities {i t n : Nat} {xs : Nat → Int32} {Q : aq_F} {S : aq_S} {D : jD} {L : List (Nat × Value)} (hT : tl5 L) (hJ : jJ S t n xs D) (hi : i + 5 ≤ n) (hn : n ≤ 2560) (k : ∀ (S2 : aq_S) (D2 : jD) (L2 : List (Nat × Value)), jJ S2 (t + 1) n xs D2 → tl5 L2 → aG 21 251 Q 2846 ((0, .ref 0) :: (1, .ref 1) :: (2, .ref 52) :: (3, .ref 71) :: (4, .int (nI i)) :: L2) [] S2) : aG 21 251 Q 2574 ((0, .ref 0) :: (1, .ref 1) :: (2, .ref 52) :: (3, .ref 71) :: (4, .int (nI i)) :: L) [] S := by
  obtain ⟨hs, hX9⟩ := hJ.1.x
  obtain ⟨D', r, a, hV', hL, hM⟩ := jP (AL := [.ref 1, .int (xs (i + 1)), .int (xs (i + 2)), .ref 71]) (w9 := fun v9 : Int32 => v9.toInt64) hJ (c_fillDensities (a := (xs (i + 1))) (b := (xs (i + 2))) hJ.1 hJ.2.2.1) (fun a P h1 h2 => l_fillDensities 20 hX9 h1 h2) (fun E r P h1 h2 h3 => l_fillDensities_x 20 hX9 h1 h2 h3)
  exact b_fillDensities hT hJ.2.2.2.1.2.2.2 hi hn hL (fun S1 p => ⟨p.2.2.1.2.2.2, p.2.1.elim (fun th h => h.o.elim (fun fs e => ⟨_, e⟩))⟩) hM (fun S2 p => ⟨p.2.1.o, p.2.2.2.2⟩) (fun S2 p => k S2 D' [(5, .int r), (6, .int a)] ⟨p.1, ⟨_, p.2.1⟩, hV', p.2.2.1, p.2.2.2.1⟩ (Or.inr ⟨r, [(6, .int a)], rfl, Or.inr (Or.inl ⟨a, rfl⟩)⟩))
theorem s_takeRemainder {i t n : Nat} {xs : Nat → Int32} {Q : aq_F} {S : aq_S} {D : jD} {L : List (Nat × Value)} (hT : tl5 L) (hJ : jJ S t n xs D) (hi : i + 5 ≤ n) (hn : n ≤ 2560) (k : ∀ (S2 : aq_S) (D2 : jD) (L2 : List (Nat × Value)), jJ S2 (t + 1) n xs D2 → tl5 L2 → aG 21 251 Q 2846 ((0, .ref 0) :: (1, .ref 1) :: (2, .ref 52) :: (3, .ref 71) :: (4, .int (nI i)) :: L2) [] S2) : aG 21 251 Q 2642 ((0, .ref 0) :: (1, .ref 1) :: (2, .ref 52) :: (3, .ref 71) :: (4, .int (nI i)) :: L) [] S := by
  obtain ⟨hs, hX9⟩ := hJ.1.x
  obtain ⟨D', r, a, hV', hL, hM⟩ := jP (AL := [.ref 1, .int (xs (i + 1)), .int (xs (i + 2)), .int (xs (i + 3)), .ref 71]) (w9 := fun v9 : Int32 => v9.toInt64) hJ (c_takeRemainder (a := (xs (i + 1))) (b := (xs (i + 2))) (s := (xs (i + 3))) hJ.1 hJ.2.2.1) (fun a P h1 h2 => l_takeRemainder 20 hX9 h1 h2) (fun E r P h1 h2 h3 => l_takeRemainder_x 20 hX9 h1 h2 h3)
  exact b_takeRemainder hT hJ.2.2.2.1.2.2.2 hi hn hL (fun S1 p => ⟨p.2.2.1.2.2.2, p.2.1.elim (fun th h => h.o.elim (fun fs e => ⟨_, e⟩))⟩) hM (fun S2 p => ⟨p.2.1.o, p.2.2.2.2⟩) (fun S2 p => k S2 D' [(5, .int r), (6, .int a)] ⟨p.1, ⟨_, p.2.1⟩, hV', p.2.2.1, p.2.2.2.1⟩ (Or.inr ⟨r, [(6, .int a)], rfl, Or.inr (Or.inl ⟨a, rfl⟩)⟩))
theorem s_elementBits {i t n : Nat} {xs : Nat → Int32} {Q : aq_F} {S : aq_S} {D : jD} {L : List (Nat × Value)} (hT : tl5 L) (hJ : jJ S t n xs D) (hi : i + 5 ≤ n) (hn : n ≤ 2560) (k : ∀ (S2 : aq_S) (D2 : jD) (L2 : List (Nat × Value)), jJ S2 (t + 1) n xs D2 → tl5 L2 → aG 21 251 Q 2846 ((0, .ref 0) :: (1, .ref 1) :: (2, .ref 52) :: (3, .ref 71) :: (4, .int (nI i)) :: L2) [] S2) : aG 21 251 Q 2722 ((0, .ref 0) :: (1, .ref 1) :: (2, .ref 52) :: (3, .ref 71) :: (4, .int (nI i)) :: L) [] S := by
  obtain ⟨hs, hX9⟩ := hJ.1.x
  obtain ⟨D', r, a, hV', hL, hM⟩ := jP (AL := [.ref 1, .int (xs (i + 1)), .int (xs (i + 2)), .ref 71]) (w9 := fun v9 : Int64 => v9) hJ (c_elementBits (a := (xs (i + 1))) (b := (xs (i + 2))) hJ.1 hJ.2.2.1) (fun a P h1 h2 => l_elementBits 20 hX9 h1 h2) (fun E r P h1 h2 h3 => l_elementBits_x 20 hX9 h1 h2 h3)
  exact b_elementBits hT hJ.2.2.2.1.2.2.2 hi hn hL (fun S1 p => ⟨p.2.2.1.2.2.2, p.2.1.elim (fun th h => h.o.elim (fun fs e => ⟨_, e⟩))⟩) hM (fun S2 p => ⟨p.2.1.o, p.2.2.2.2⟩) (fun S2 p => k S2 D' [(5, .int r), (6, .long a)] ⟨p.1, ⟨_, p.2.1⟩, hV', p.2.2.1, p.2.2.2.1⟩ (Or.inr ⟨r, [(6, .long a)], rfl, Or.inr (Or.inr ⟨a, rfl⟩)⟩))
theorem s_saveSnapshot {i t n : Nat} {xs : Nat → Int32} {Q : aq_F} {S : aq_S} {D : jD} {L : List (Nat × Value)} (hT : tl5 L) (hJ : jJ S t n xs D) (hi : i + 5 ≤ n) (hn : n ≤ 2560) (k : ∀ (S2 : aq_S) (D2 : jD) (L2 : List (Nat × Value)), jJ S2 (t + 1) n xs D2 → tl5 L2 → aG 21 251 Q 2846 ((0, .ref 0) :: (1, .ref 1) :: (2, .ref 52) :: (3, .ref 71) :: (4, .int (nI i)) :: L2) [] S2) : aG 21 251 Q 2789 ((0, .ref 0) :: (1, .ref 1) :: (2, .ref 52) :: (3, .ref 71) :: (4, .int (nI i)) :: L) [] S := by
  obtain ⟨hs, hX9⟩ := hJ.1.x
  obtain ⟨D', a, hV', hx, hm⟩ := c_saveSnapshot hJ.1 hJ.2.2.1
  obtain ⟨hL, hM⟩ := jP2 hJ hx hm
  exact b_saveSnapshot hX9 hL (fun S1 p => p.2.1.elim (fun th h => h.o.elim (fun fs e => ⟨_, e⟩))) hM (fun S2 p => k S2 D' L ⟨p.1, ⟨_, p.2.1⟩, hV', p.2.2.1, p.2.2.2⟩ hT)
theorem s_restoreSnapshot {i t n : Nat} {xs : Nat → Int32} {Q : aq_F} {S : aq_S} {D : jD} {L : List (Nat × Value)} (hT : tl5 L) (hJ : jJ S t n xs D) (hi : i + 5 ≤ n) (hn : n ≤ 2560) (k : ∀ (S2 : aq_S) (D2 : jD) (L2 : List (Nat × Value)), jJ S2 (t + 1) n xs D2 → tl5 L2 → aG 21 251 Q 2846 ((0, .ref 0) :: (1, .ref 1) :: (2, .ref 52) :: (3, .ref 71) :: (4, .int (nI i)) :: L2) [] S2) : aG 21 251 Q 2802 ((0, .ref 0) :: (1, .ref 1) :: (2, .ref 52) :: (3, .ref 71) :: (4, .int (nI i)) :: L) [] S := by
  obtain ⟨hs, hX9⟩ := hJ.1.x
  obtain ⟨D', r, a, hV', hL, hM⟩ := jP (AL := [.ref 1, .ref 71]) (w9 := fun v9 : Int32 => v9.toInt64) hJ (c_restoreSnapshot  hJ.1 hJ.2.2.1) (fun a P h1 h2 => l_restoreSnapshot 20 hX9 h1 h2) (fun E r P h1 h2 h3 => l_restoreSnapshot_x 20 hX9 h1 h2 h3)
  exact b_restoreSnapshot hT hJ.2.2.2.1.2.2.2 hi hn hL (fun S1 p => ⟨p.2.2.1.2.2.2, p.2.1.elim (fun th h => h.o.elim (fun fs e => ⟨_, e⟩))⟩) hM (fun S2 p => ⟨p.2.1.o, p.2.2.2.2⟩) (fun S2 p => k S2 D' [(5, .int r), (6, .int a)] ⟨p.1, ⟨_, p.2.1⟩, hV', p.2.2.1, p.2.2.2.1⟩ (Or.inr ⟨r, [(6, .int a)], rfl, Or.inr (Or.inl ⟨a, rfl⟩)⟩))
theorem s_any {j : Nat} (hj : j < 43) {i t n : Nat} {xs : Nat → Int32} {Q : aq_F} {S : aq_S} {D : jD} {L : List (Nat × Value)} (hT : tl5 L) (hJ : jJ S t n xs D) (hi : i + 5 ≤ n) (hn : n ≤ 2560) (k : ∀ (S2 : aq_S) (D2 : jD) (L2 : List (Nat × Value)), jJ S2 (t + 1) n xs D2 → tl5 L2 → aG 21 251 Q 2846 ((0, .ref 0) :: (1, .ref 1) :: (2, .ref 52) :: (3, .ref 71) :: (4, .int (nI i)) :: L2) [] S2) : ∃ t0, ([224, 280, 348, 404, 460, 504, 560, 628, 708, 764, 832, 895, 970, 1026, 1101, 1176, 1244, 1324, 1427, 1511, 1591, 1647, 1710, 1766, 1821, 1933, 1989, 2057, 2125, 2181, 2237, 2250, 2313, 2326, 2339, 2383, 2438, 2494, 2574, 2642, 2722, 2789, 2802] : List Nat)[j]? = some t0 ∧ aG 21 251 Q t0 ((0, .ref 0) :: (1, .ref 1) :: (2, .ref 52) :: (3, .ref 71) :: (4, .int (nI i)) :: L) [] S := by
  have hc : j = 0 ∨ j = 1 ∨ j = 2 ∨ j = 3 ∨ j = 4 ∨ j = 5 ∨ j = 6 ∨ j = 7 ∨ j = 8 ∨ j = 9 ∨ j = 10 ∨ j = 11 ∨ j = 12 ∨ j = 13 ∨ j = 14 ∨ j = 15 ∨ j = 16 ∨ j = 17 ∨ j = 18 ∨ j = 19 ∨ j = 20 ∨ j = 21 ∨ j = 22 ∨ j = 23 ∨ j = 24 ∨ j = 25 ∨ j = 26 ∨ j = 27 ∨ j = 28 ∨ j = 29 ∨ j = 30 ∨ j = 31 ∨ j = 32 ∨ j = 33 ∨ j = 34 ∨ j = 35 ∨ j = 36 ∨ j = 37 ∨ j = 38 ∨ j = 39 ∨ j = 40 ∨ j = 41 ∨ j = 42 := by omega
  rcases hc with e | e | e | e | e | e | e | e | e | e | e | e | e | e | e | e | e | e | e | e | e | e | e | e | e | e | e | e | e | e | e | e | e | e | e | e | e | e | e | e | e | e | e
  · subst e
    exact ⟨224, rfl, s_setLetters hT hJ hi hn k⟩
  · subst e
    exact ⟨280, rfl, s_append hT hJ hi hn k⟩
  · subst e
    exact ⟨348, rfl, s_feed hT hJ hi hn k⟩
  · subst e
    exact ⟨404, rfl, s_parseWord hT hJ hi hn k⟩
  · subst e
    exact ⟨460, rfl, s_errorPosition hT hJ hi hn k⟩
  · subst e
    exact ⟨504, rfl, s_length hT hJ hi hn k⟩
  · subst e
    exact ⟨560, rfl, s_symbol hT hJ hi hn k⟩
  · subst e
    exact ⟨628, rfl, s_setSymbol hT hJ hi hn k⟩
  · subst e
    exact ⟨708, rfl, s_clear hT hJ hi hn k⟩
  · subst e
    exact ⟨764, rfl, s_concatenate hT hJ hi hn k⟩
  · subst e
    exact ⟨832, rfl, s_reverse hT hJ hi hn k⟩
  · subst e
    exact ⟨895, rfl, s_rotate hT hJ hi hn k⟩
  · subst e
    exact ⟨970, rfl, s_holes hT hJ hi hn k⟩
  · subst e
    exact ⟨1026, rfl, s_isCompatible hT hJ hi hn k⟩
  · subst e
    exact ⟨1101, rfl, s_isContained hT hJ hi hn k⟩
  · subst e
    exact ⟨1176, rfl, s_conflict hT hJ hi hn k⟩
  · subst e
    exact ⟨1244, rfl, s_join hT hJ hi hn k⟩
  · subst e
    exact ⟨1324, rfl, s_isPeriod hT hJ hi hn k⟩
  · subst e
    exact ⟨1427, rfl, s_smallestPeriod hT hJ hi hn k⟩
  · subst e
    exact ⟨1511, rfl, s_periodBound hT hJ hi hn k⟩
  · subst e
    exact ⟨1591, rfl, s_longestBorder hT hJ hi hn k⟩
  · subst e
    exact ⟨1647, rfl, s_isPrimitive hT hJ hi hn k⟩
  · subst e
    exact ⟨1710, rfl, s_exponent hT hJ hi hn k⟩
  · subst e
    exact ⟨1766, rfl, s_completionCount hT hJ hi hn k⟩
  · subst e
    exact ⟨1821, rfl, s_complete hT hJ hi hn k⟩
  · subst e
    exact ⟨1933, rfl, s_primitiveCompletions hT hJ hi hn k⟩
  · subst e
    exact ⟨1989, rfl, s_complexity hT hJ hi hn k⟩
  · subst e
    exact ⟨2057, rfl, s_occurrences hT hJ hi hn k⟩
  · subst e
    exact ⟨2125, rfl, s_addPattern hT hJ hi hn k⟩
  · subst e
    exact ⟨2181, rfl, s_removePattern hT hJ hi hn k⟩
  · subst e
    exact ⟨2237, rfl, s_patternCount hT hJ hi hn k⟩
  · subst e
    exact ⟨2250, rfl, s_avoids hT hJ hi hn k⟩
  · subst e
    exact ⟨2313, rfl, s_isUnavoidable hT hJ hi hn k⟩
  · subst e
    exact ⟨2326, rfl, s_isMinimal hT hJ hi hn k⟩
  · subst e
    exact ⟨2339, rfl, s_longestAvoiding hT hJ hi hn k⟩
  · subst e
    exact ⟨2383, rfl, s_countAvoiding hT hJ hi hn k⟩
  · subst e
    exact ⟨2438, rfl, s_avoidingCycle hT hJ hi hn k⟩
  · subst e
    exact ⟨2494, rfl, s_newRow hT hJ hi hn k⟩
  · subst e
    exact ⟨2574, rfl, s_fillDensities hT hJ hi hn k⟩
  · subst e
    exact ⟨2642, rfl, s_takeRemainder hT hJ hi hn k⟩
  · subst e
    exact ⟨2722, rfl, s_elementBits hT hJ hi hn k⟩
  · subst e
    exact ⟨2789, rfl, s_saveSnapshot hT hJ hi hn k⟩
  · subst e
    exact ⟨2802, rfl, s_restoreSnapshot hT hJ hi hn k⟩
end
