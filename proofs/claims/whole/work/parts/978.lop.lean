/-! ===== the law's loop (printed by wip/whole/mkS.py) ===== -/
section
def jE (o : aq_O) (S : aq_S) : Prop := o = .inl (some (.int 1)) ∧ (1 ≤ S.1 ∧ S.1 + S.2.1 ≤ 603073) ∧ S.2.2.1 ≤ 7207018
theorem law_inc {i : Nat} {Q : aq_F} {S : aq_S} {L : List (Nat × Value)} (hT : tl5 L) (k : ∀ L2 : List (Nat × Value), tl5 L2 → aG 21 251 Q 23 ((0, .ref 0) :: (1, .ref 1) :: (2, .ref 52) :: (3, .ref 71) :: (4, .int (nI (i + 5))) :: L2) [] S) : aG 21 251 Q 2846 ((0, .ref 0) :: (1, .ref 1) :: (2, .ref 52) :: (3, .ref 71) :: (4, .int (nI i)) :: L) [] S := by
  have e5 : nI i + 5 = nI (i + 5) := nI_add i 5
  have key : aq_put1 ((0, .ref 0) :: (1, .ref 1) :: (2, .ref 52) :: (3, .ref 71) :: (4, .int (nI i)) :: L) 4 (.int (nI i + 5)) = (0, .ref 0) :: (1, .ref 1) :: (2, .ref 52) :: (3, .ref 71) :: (4, .int (nI (i + 5))) :: L := by
    rw [e5]
    rcases hT with e | ⟨u, L6, e, hL6⟩
    · subst e
      rfl
    · subst e
      rcases hL6 with e | ⟨u, e⟩ | ⟨u, e⟩ <;> subst e <;> rfl
  refine ar_inc i_L_law_2846 rfl key ?_
  refine ar_go i_L_law_2849 ?_
  exact k L hT
theorem law_loop {n : Nat} {xs : Nat → Int32} (hn : n ≤ 2560) : ∀ (m t : Nat) (S : aq_S) (D : jD) (L : List (Nat × Value)) (i : Nat), i = 5 * t → n < i + 5 * m + 5 → i ≤ n → tl5 L → jJ S t n xs D → aG 21 251 jE 23 ((0, .ref 0) :: (1, .ref 1) :: (2, .ref 52) :: (3, .ref 71) :: (4, .int (nI i)) :: L) [] S := by
  intro m
  induction m with
  | zero =>
    intro t S D L i e hm hin hT hJ
    have hB := hJ.2.2.2.1
    have hc : (nI n - 5) < nI i := by
      have h1 := pk_sub_toInt (a := n) (b := 5) (by omega) (by omega)
      have h2 := nI_toInt (n := i) (by omega)
      have h1 : (nI n - 5).toInt = (n : Int) - 5 := h1
      rw [Int32.lt_iff_toInt_lt, h1, h2]
      omega
    refine ar_ld i_L_law_23 rfl rfl ?_
    refine ar_ld i_L_law_25 rfl rfl ?_
    refine ar_len i_L_law_26 (by decide) (hB.2.2.2) ?_
    refine ar_push i_L_law_27 ?_
    refine ar_ar i_L_law_28 rfl ?_
    refine ar_ift i_L_law_29 rfl (hc) ?_
    refine ar_push i_L_law_2852 ?_
    exact ar_ret i_L_law_2853 ((Or.inr rfl)) ⟨rfl, ⟨by rw [hB.1]; omega, by rw [hB.1]; have := hB.2.1; omega⟩, by have := hB.2.2.1; omega⟩
  | succ m ih =>
    intro t S D L i e hm hin hT hJ
    have hB := hJ.2.2.2.1
    have h1 := pk_sub_toInt (a := n) (b := 5) (by omega) (by omega)
    have h2 := nI_toInt (n := i) (by omega)
    have h1 : (nI n - 5).toInt = (n : Int) - 5 := h1
    refine ar_ld i_L_law_23 rfl rfl ?_
    refine ar_ld i_L_law_25 rfl rfl ?_
    refine ar_len i_L_law_26 (by decide) (hB.2.2.2) ?_
    refine ar_push i_L_law_27 ?_
    refine ar_ar i_L_law_28 rfl ?_
    rcases Nat.lt_or_ge n (i + 5) with hlt | hge
    · have hc : (nI n - 5) < nI i := by
        rw [Int32.lt_iff_toInt_lt, h1, h2]
        omega
      refine ar_ift i_L_law_29 rfl (hc) ?_
      refine ar_push i_L_law_2852 ?_
      exact ar_ret i_L_law_2853 ((Or.inr rfl)) ⟨rfl, ⟨by rw [hB.1]; omega, by rw [hB.1]; have := hB.2.1; omega⟩, by have := hB.2.2.1; omega⟩
    · have hc : ¬ (nI n - 5) < nI i := by
        rw [Int32.lt_iff_toInt_lt, h1, h2]
        omega
      refine ar_iff i_L_law_29 rfl (hc) ?_
      refine ar_ld i_L_law_32 rfl rfl ?_
      refine ar_ld i_L_law_33 rfl rfl ?_
      refine av_ldi i_L_law_35 (hB.2.2.2) (by omega) (by omega) ?_
      refine ar_push i_L_law_36 ?_
      have k : ∀ (S2 : aq_S) (D2 : jD) (L2 : List (Nat × Value)), jJ S2 (t + 1) n xs D2 → tl5 L2 → aG 21 251 jE 2846 ((0, .ref 0) :: (1, .ref 1) :: (2, .ref 52) :: (3, .ref 71) :: (4, .int (nI i)) :: L2) [] S2 := by
        intro S2 D2 L2 hJ2 hT2
        exact law_inc hT2 (fun L3 hT3 => ih (t + 1) S2 D2 L3 (i + 5) (by omega) (by omega) (by omega) hT3 hJ2)
      obtain ⟨j, hj, ej⟩ := pk_andE (xs i) (m := 63) 6 (by decide)
      refine ar_ar i_L_law_38 rfl ?_
      rw [ej]
      refine ar_sw i_L_law_39 ?_
      have hjt : (nI j).toInt = (j : Int) := nI_toInt (by omega)
      rcases Nat.lt_or_ge j 43 with h43 | h43
      · obtain ⟨t0, ht0, hg⟩ := s_any h43 hT hJ hge hn k
        exact ⟨t0, Or.inl ⟨j, hjt, ht0⟩, hg⟩
      · refine ⟨2846, Or.inr ⟨Or.inr ?_, rfl⟩, k S D L ⟨hJ.1, hJ.2.1, hJ.2.2.1, hB.up, hJ.2.2.2.2⟩ hT⟩
        rw [hjt]
        show (43 : Int) ≤ (j : Int)
        omega
end
