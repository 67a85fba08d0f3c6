/-! ===== every script's run ===== -/
section
theorem aq_law {L : Nat} {xs : Nat → Int32} (hL : L ≤ 2560) : ∃ d S', 64 * d + 264 ≤ 94400 ∧ d + 11 ≤ 2048 ∧ aq_Ex aq_T aq_Nl (d + 1) 251 [.ref 0] (aq_S0 L xs) (.inl (some (.int 1))) S' ∧ S'.1 + S'.2.1 ≤ 603073 ∧ S'.2.2.1 ≤ 7207018 := by
  obtain ⟨o, S', hex, e, ⟨-, h1⟩, h2⟩ := law_start hL (S := aq_S0 L xs) rfl rfl rfl rfl
  subst e
  exact ⟨21, S', by omega, by omega, hex, h1, h2⟩
end
