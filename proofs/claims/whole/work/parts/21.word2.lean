/-! ===== walks of HoleWords$Word, the rest ===== -/
section
/-- a condition as the machine's boolean -/
noncomputable def bI (P : Prop) : Int32 := @ite Int32 P (Classical.propDecidable P) 1 0
theorem bI_t {P : Prop} (h : P) : bI P = 1 := if_pos h
theorem bI_f {P : Prop} (h : ¬ P) : bI P = 0 := if_neg h
theorem bI_01 (P : Prop) : bI P = 0 ∨ bI P = 1 := by
  rcases Classical.em P with h | h
  · exact Or.inr (bI_t h)
  · exact Or.inl (bI_f h)
theorem bI_z {P : Prop} : bI P = 0 ↔ ¬ P := by
  refine ⟨fun h q => ?_, bI_f⟩
  rw [bI_t q] at h
  exact absurd h (by decide)
theorem bI_nz {P : Prop} : (¬ bI P = 0) ↔ P := by
  rw [bI_z]
  exact Classical.not_not
theorem bI_one {P : Prop} : bI P = 1 ↔ P := by
  refine ⟨fun h => Classical.byContradiction fun q => ?_, bI_t⟩
  rw [bI_f q] at h
  exact absurd h (by decide)
theorem bI_cg {P P' : Prop} (h : P ↔ P') : bI P = bI P' := by
  rcases Classical.em P with q | q
  · rw [bI_t q, bI_t (h.mp q)]
  · rw [bI_f q, bI_f (fun z => q (h.mpr z))]
theorem s_differ (d : Nat) {S : aq_S} (a b : Int32) : aX (d + 1) 116 [.int a, .int b] S (fun o S' => o = .inl (some (.int (bI (wdf a b)))) ∧ S' = S) := by
  rcases Classical.em (wdf a b) with h | h
  · rw [bI_t h]; exact s_differ_t d h
  · rw [bI_f h]; exact s_differ_f d h
theorem wdf_symm {a b : Int32} (h : wdf a b) : wdf b a := ⟨h.2.1, h.1, fun e => h.2.2 e.symm⟩
theorem w_copyFrom (d : Nat) {S : aq_S} {w v n m : Nat} {f g : Nat → Int32} (hw : isW S w n f) (hv : isW S v m g) : aX (d + 2) 54 [.ref w, .ref v] S (fun o S' => o = .inl none ∧ isW S' w m g ∧ aq_fr S S' (fun q => q = w ∨ q = w + 1)) := by
  have hm := hv.le
  have hap := hw.apart hv
  refine ar_run (Nat.le_of_ble_eq_true rfl) (fun o S1 h => h.2.2.le) ?_
  refine ar_ld i_X5_copyFrom_0 rfl rfl ?_
  refine ar_ld i_X5_copyFrom_1 rfl rfl ?_
  refine ar_gf i_X5_copyFrom_2 hv.obj rfl ?_
  refine av_pf i_X5_copyFrom_5 hw.obj (Nat.le_of_ble_eq_true rfl) (rfl) rfl (fun S1 g1 k1 => ?_)
  refine ar_push i_X5_copyFrom_8 ?_
  refine ar_st i_X5_copyFrom_9 rfl rfl ?_
  have hfr1 : aq_fr S S1 (fun q => q = w ∨ q = w + 1) := k1.mono (fun q h => Or.inl h)
  have hv1 : isW S1 v m g := by
    by_cases hwv : v = w
    · subst hwv
      obtain ⟨f9, hf9, hg9⟩ := hv
      exact ⟨f9, ⟨g1, (k1.2.2.2 _ (by omega)).trans hf9.2.1, hf9.2.2⟩, hg9⟩
    · exact hv.fr k1 hwv (fun e => hap.1 e.symm)
  have hw1 : ∃ F, rW S1 w m F := by
    obtain ⟨f9, hf9, -⟩ := hw
    exact ⟨f9, g1, (k1.2.2.2 _ (by omega)).trans hf9.2.1, hm, hf9.2.2.2⟩
  suffices key : ∀ j i (S1 : aq_S) (F : Nat → Int32), i + j = m → isW S1 v m g → rW S1 w m F → (∀ x, x < i → F x = g x) → aq_fr S S1 (fun q => q = w ∨ q = w + 1) → aG (d + 1) 54 (fun o S' => o = .inl none ∧ isW S' w m g ∧ aq_fr S S' (fun q => q = w ∨ q = w + 1)) 10 [(0, .ref w), (1, .ref v), (2, .int (nI i))] [] S1 by
    obtain ⟨F, hF⟩ := hw1
    exact key m 0 S1 F (by omega) hv1 hF (fun x h => absurd h (Nat.not_lt_zero x)) hfr1
  clear hw1 hv1 hfr1 g1 k1 S1
  intro j
  induction j with
  | zero =>
    intro i S1 F hi hv1 hw1 hag hfr
    refine ar_ld i_X5_copyFrom_10 rfl rfl ?_
    refine ar_ld i_X5_copyFrom_11 rfl rfl ?_
    refine ar_gf i_X5_copyFrom_12 hw1.1 rfl ?_
    refine ar_ift i_X5_copyFrom_15 rfl (nI_le (by omega) (by omega)) ?_
    exact ar_retv i_X5_copyFrom_34 ⟨rfl, ⟨F, hw1, fun x hx => hag x (by omega)⟩, hfr⟩
  | succ j ih =>
    intro i S1 F hi hv1 hw1 hag hfr
    refine ar_ld i_X5_copyFrom_10 rfl rfl ?_
    refine ar_ld i_X5_copyFrom_11 rfl rfl ?_
    refine ar_gf i_X5_copyFrom_12 hw1.1 rfl ?_
    refine ar_iff i_X5_copyFrom_15 rfl (nI_ge (by omega) (by omega)) ?_
    refine ar_ld i_X5_copyFrom_18 rfl rfl ?_
    refine ar_ld i_X5_copyFrom_19 rfl rfl ?_
    refine ar_ld i_X5_copyFrom_20 rfl rfl ?_
    refine ar_ld i_X5_copyFrom_21 rfl rfl ?_
    refine ar_cr i_X5_copyFrom_22 rfl ⟨_, _, _, rfl, hv1.obj⟩ (Nat.le_of_ble_eq_true rfl) (w_atj d hv1 i (by omega)) ?_
    have hwm : isW S1 w m F := ⟨F, hw1, fun _ _ => rfl⟩
    have hi40 : i < 40 := by omega
    have hput := s_X5_put d hw1 (nI i) (g i)
    have hwp : wput m F (nI i) (g i) = upd F i (g i) := by
      unfold wput
      rw [if_neg (nI_pos (by omega)), if_neg (nI_ge (by omega) (by omega)), nI_clamp (by omega)]
    rw [hwp] at hput
    refine av_cv i_X5_copyFrom_25 rfl ⟨_, _, _, rfl, hw1.1⟩ (Nat.le_of_ble_eq_true rfl) (hput) (fun S2 h2 => ?_)
    refine ar_inc i_X5_copyFrom_28 rfl rfl ?_
    refine ar_go i_X5_copyFrom_31 ?_
    have := ih (i + 1) S2 (upd F i (g i)) (by omega)
    rw [← nI_1] at this
    refine this ?_ h2.1 (fun x hx => ?_) (hfr.tr (h2.2.mono (fun q h => Or.inr h)))
    · by_cases hwv : v = w
      · subst hwv
        obtain ⟨f9, hf9, hg9⟩ := hv1
        have e : f9 = F := by
          have := hf9.2.1.symm.trans hw1.2.1
          simp only [Option.some.injEq, Sum.inl.injEq, Prod.mk.injEq, true_and] at this
          exact this
        subst e
        refine ⟨_, h2.1, fun x hx => ?_⟩
        unfold upd
        split
        · rename_i hxi
          rw [hxi]
        · exact hg9 x hx
      · exact hv1.fr h2.2 (fun e => hap.2 e) (by omega)
    · unfold upd
      split
      · rename_i hxi
        rw [hxi]
      · exact hag x (by omega)
end
