/-! ===== the law's start ===== -/
section
theorem law_start {n : Nat} {xs : Nat → Int32} (hn : n ≤ 2560) {S : aq_S} (h0 : S.2.2.2 0 = some (.inl (0, (n, .inl xs)))) (h1 : S.1 = 1) (h2 : S.2.1 = 0) (h3 : S.2.2.1 = 0) : aX 22 251 [.ref 0] S jE := by
  refine ar_run (Nat.le_of_ble_eq_true rfl) (fun o S1 h => ⟨by rw [h1]; exact h.2.1.1, by rw [h2]; exact Nat.zero_le _, by rw [h3]; exact Nat.zero_le _⟩) ?_
  refine av_new i_L_law_0 (h2) (h1) (fun S1 q1 => ?_)
  obtain ⟨a1, a2, a3, a4, a5⟩ := q1
  refine ar_ar i_L_law_3 rfl ?_
  refine av_cv i_L_law_4 rfl ⟨_, _, _, rfl, a1⟩ (Nat.le_of_ble_eq_true rfl) (i_class _ (inp := fun _ => 0) (pn := fun _ => 0) (pn2 := fun _ => 0) (pg := fun _ _ => 0) (pg2 := fun _ _ => 0) (G := fun _ _ => 0) (G2 := fun _ _ => 0) a1 a2 a3) (fun S2 b => ?_)
  obtain ⟨⟨b1, b2, b3, ⟨b4, b5, b6, b7⟩, b8, b9, b10, b11, b12, b13⟩, b14, b15, b16, b17, b18⟩ := b
  refine ar_st i_L_law_7 rfl rfl ?_
  refine av_new i_L_law_8 (b15) (b14) (fun S3 c => ?_)
  obtain ⟨c1, c2, c3, c4, c5⟩ := c
  refine ar_ar i_L_law_11 rfl ?_
  refine av_cv i_L_law_12 rfl ⟨_, _, _, rfl, c1⟩ (Nat.le_of_ble_eq_true rfl) (i_ref _ c1 c2 c3) (fun S4 e => ?_)
  obtain ⟨⟨e52, e53, e54, e55, e56, e57, e58, e59, e60, e61, e62, e63, e64, e65, e66, e67, e68, e69, e70⟩, g1, g2, g3, g4, g5, g6⟩ := e
  refine ar_st i_L_law_15 rfl rfl ?_
  refine ar_push i_L_law_16 ?_
  refine av_na (m := 1) i_L_law_17 (g2) (g1) (by decide) (by decide) (by decide) (fun S5 f => ?_)
  obtain ⟨f1, f2, f3, f4, f5⟩ := f
  refine ar_st i_L_law_19 rfl rfl ?_
  refine ar_push i_L_law_20 ?_
  refine ar_st i_L_law_21 rfl rfl ?_
  have kc : aq_kq S2 S5 (fun q => 52 ≤ q) := fun q hq => (f5 q (by omega)).trans ((g6 q (by omega)).trans (c5 q (by omega)))
  have km : aq_kq S4 S5 (fun q => q = 71) := fun q hq => f5 q hq
  have hC : jC S5 ((2, 0, 0, 0, -1), (fun _ => 0, fun _ _ => 0, fun _ => 0, fun _ _ => 0, fun _ => 0), (2, 0, fun _ => 0, fun _ _ => 0, fun _ => 0, fun _ _ => 0), fun _ => -1, fun _ => 0, fun _ _ => 0) := by
    refine jC.fr (S := (S5.1, S5.2.1, S5.2.2.1, S2.2.2.2)) ?_ kc.fr (fun x _ _ => by omega)
    exact ⟨b1, b3, b2, ⟨b4, b5, b7, b6⟩, b8, b11, b9, b10, ⟨_, b12⟩, b13⟩
  have hM : jM S5 0 ((2, 0, 0, 0, -1), (fun _ => 0, fun _ _ => 0, fun _ => 0, fun _ _ => 0, fun _ => 0), (2, 0, fun _ => 0, fun _ _ => 0, fun _ => 0, fun _ _ => 0), fun _ => -1, fun _ => 0, fun _ _ => 0) := by
    refine jM.fr (S := (S5.1, S5.2.1, S5.2.2.1, S4.2.2.2)) ?_ km.fr (fun x _ _ => by omega)
    refine ⟨⟨0, 0, 0, 0, e52⟩, ⟨_, _, e53, e54, fun r _ => ⟨rfl, Nat.zero_le _⟩, fun r _ i z => absurd z (Nat.not_lt_zero _)⟩, ⟨_, _, e58, e59, fun i z => absurd z (Nat.not_lt_zero _), fun i z => absurd z (Nat.not_lt_zero _)⟩, ⟨_, e56, Nat.zero_le _, fun i z => absurd z (Nat.not_lt_zero _)⟩, ⟨_, e55⟩, ⟨_, e57⟩, ⟨⟨_, e60⟩, ⟨_, e61⟩, ⟨_, e62⟩, ⟨_, e63⟩, ⟨_, e64⟩, ⟨_, e65⟩, ⟨_, e66⟩⟩, ⟨_, _, _, e67, e68, e69, fun r hr => ?_, fun r _ i _ => rfl⟩, ⟨_, e70⟩, fun z => absurd z (by decide)⟩
    have hr2 : r = 0 ∨ r = 1 := by omega
    rcases hr2 with e | e <;> subst e <;> exact ⟨rfl, rfl, Nat.zero_le _⟩
  refine law_loop (xs := xs) hn n 0 S5 _ [] 0 rfl (by omega) (Nat.zero_le _) (Or.inl rfl) ⟨hC, ⟨0, hM⟩, ?_, ?_, ⟨_, f1⟩⟩
  · exact ⟨⟨by omega, by omega⟩, ⟨by omega, fun i z => absurd z (Nat.not_lt_zero _), fun i j z => absurd z (Nat.not_lt_zero _)⟩, fun r _ i z => absurd z (Nat.not_lt_zero _), Or.inl rfl, fun z => absurd z (by decide), Or.inl rfl, fun r _ => ⟨Or.inl rfl, fun z => absurd rfl z⟩⟩
  · refine ⟨f2, by rw [f3]; exact Nat.zero_le _, by omega, ?_⟩
    rw [f5 0 (by omega), g6 0 (by omega), c5 0 (by omega), b18, a5 0 (by omega)]
    exact h0
end
