/-! ===== arrays, new cells ===== -/
theorem aq_pos {β a : Nat} (h : a ≠ 0) : β < β + a := by omega
section
variable {T : Nat → Nat → Option aq_Op} {Nl : Nat → Nat} {Ms : Nat → aq_M} {nc : List (String × String)} {strs : List (Nat × String)} {cc : ByteArray} {nL : Nat} {own mn : String} {ret : Option FieldType} {hh : List (Nat × Nat × Nat × Nat)} {pc n : Nat}
theorem so_iaload (hd : decode cc pc = .ok (.iaload, 1)) : aq_SOp T Nl Ms nc strs cc nL own mn ret hh pc (aq_ldi 0 (pc + 1)) := by
  intro p l e R s m args below meth c D cA b β d S0 S' o C0 IH K L st S hK h
  obtain ⟨hx, hb, hr, hml, hown, hlk, hts, hV, hbβ, hβs, hst0, het, hmn, hRf, hRl, hRc, hRs⟩ := C0
  obtain ⟨i, a, r, q, f, rfl, ha, hi, h⟩ := h
  obtain ⟨h1, h2, h3, h4⟩ := hK _ _ _ _ h
  refine ⟨h1, h2, h3, fun H locs cells slots ls hR hS hl e1 e2 => ?_⟩
  have kk := h4 H locs cells slots ls hR hS hl e1 e2
  rw [List.map_cons] at kk
  rw [List.map_cons, List.map_cons]
  show W p l e R s m args below meth c H locs cells slots _ (F0 m pc ls (.int i :: .ref (aq_rho b β a) :: r.map (aq_cV b β)))
  by_cases h0 : a = 0
  · subst h0
    obtain ⟨n0, xs, e, hX⟩ := hR.2.2.2.1 _ ha
    cases e
    obtain ⟨scr, x1, x2, x3, x4, x5⟩ := hX
    have hlt : i.toNatClampNeg < q := Nat.not_le.mp fun z => hi (Or.inr z)
    exact W.iald (v := .int (f i.toNatClampNeg)) hx hb x1 x2 x3 (by rw [x4]; exact hi) (x5 _ hlt) rfl rfl hd kk
  · obtain ⟨g1, g2, g3⟩ := aq_R_arr hR h0 ha
    rw [g1]
    exact va_iald (ws := [(β + a, .inl (cA 0, q, .inl f))]) hx hb hV.1 (aq_P1 g3) 0 0 rfl rfl hi hd kk
theorem so_baload (hd : decode cc pc = .ok (.baload, 1)) : aq_SOp T Nl Ms nc strs cc nL own mn ret hh pc (aq_ldi 3 (pc + 1)) := by
  intro p l e R s m args below meth c D cA b β d S0 S' o C0 IH K L st S hK h
  obtain ⟨hx, hb, hr, hml, hown, hlk, hts, hV, hbβ, hβs, hst0, het, hmn, hRf, hRl, hRc, hRs⟩ := C0
  obtain ⟨i, a, r, q, f, rfl, ha, hi, h⟩ := h
  obtain ⟨h1, h2, h3, h4⟩ := hK _ _ _ _ h
  refine ⟨h1, h2, h3, fun H locs cells slots ls hR hS hl e1 e2 => ?_⟩
  have kk := h4 H locs cells slots ls hR hS hl e1 e2
  rw [List.map_cons] at kk
  rw [List.map_cons, List.map_cons]
  show W p l e R s m args below meth c H locs cells slots _ (F0 m pc ls (.int i :: .ref (aq_rho b β a) :: r.map (aq_cV b β)))
  have h0 : a ≠ 0 := fun z => by
    subst z
    obtain ⟨n0, xs, e, -⟩ := hR.2.2.2.1 _ ha
    cases e
  obtain ⟨g1, g2, g3⟩ := aq_R_arr hR h0 ha
  rw [g1]
  exact va_zald (ws := [(β + a, .inl (cA 3, q, .inl f))]) hx hb hV.1 (aq_P1 g3) 0 3 rfl rfl hi hd kk
theorem so_laload (hd : decode cc pc = .ok (.laload, 1)) : aq_SOp T Nl Ms nc strs cc nL own mn ret hh pc (aq_ldl (pc + 1)) := by
  intro p l e R s m args below meth c D cA b β d S0 S' o C0 IH K L st S hK h
  obtain ⟨hx, hb, hr, hml, hown, hlk, hts, hV, hbβ, hβs, hst0, het, hmn, hRf, hRl, hRc, hRs⟩ := C0
  obtain ⟨i, a, r, q, f, rfl, ha, hi, h⟩ := h
  obtain ⟨h1, h2, h3, h4⟩ := hK _ _ _ _ h
  refine ⟨h1, h2, h3, fun H locs cells slots ls hR hS hl e1 e2 => ?_⟩
  have kk := h4 H locs cells slots ls hR hS hl e1 e2
  rw [List.map_cons] at kk
  rw [List.map_cons, List.map_cons]
  show W p l e R s m args below meth c H locs cells slots _ (F0 m pc ls (.int i :: .ref (aq_rho b β a) :: r.map (aq_cV b β)))
  have h0 : a ≠ 0 := fun z => by
    subst z
    obtain ⟨n0, xs, e, -⟩ := hR.2.2.2.1 _ ha
    cases e
  obtain ⟨g1, g2, g3⟩ := aq_R_arr hR h0 ha
  rw [g1]
  exact va_lald (ws := [(β + a, .inl (cA 1, q, .inr (.inl f)))]) hx hb hV.1 (aq_P1 g3) 0 1 rfl rfl hi hd kk
theorem so_daload (hd : decode cc pc = .ok (.daload, 1)) : aq_SOp T Nl Ms nc strs cc nL own mn ret hh pc (aq_ldd (pc + 1)) := by
  intro p l e R s m args below meth c D cA b β d S0 S' o C0 IH K L st S hK h
  obtain ⟨hx, hb, hr, hml, hown, hlk, hts, hV, hbβ, hβs, hst0, het, hmn, hRf, hRl, hRc, hRs⟩ := C0
  obtain ⟨i, a, r, q, f, rfl, ha, hi, h⟩ := h
  obtain ⟨h1, h2, h3, h4⟩ := hK _ _ _ _ h
  refine ⟨h1, h2, h3, fun H locs cells slots ls hR hS hl e1 e2 => ?_⟩
  have kk := h4 H locs cells slots ls hR hS hl e1 e2
  rw [List.map_cons] at kk
  rw [List.map_cons, List.map_cons]
  show W p l e R s m args below meth c H locs cells slots _ (F0 m pc ls (.int i :: .ref (aq_rho b β a) :: r.map (aq_cV b β)))
  have h0 : a ≠ 0 := fun z => by
    subst z
    obtain ⟨n0, xs, e, -⟩ := hR.2.2.2.1 _ ha
    cases e
  obtain ⟨g1, g2, g3⟩ := aq_R_arr hR h0 ha
  rw [g1]
  exact va_dald (ws := [(β + a, .inl (cA 2, q, .inr (.inr (.inr (.inl f)))))]) hx hb hV.1 (aq_P1 g3) 0 2 rfl rfl hi hd kk
theorem so_aaload4 (hd : decode cc pc = .ok (.aaload, 1)) : aq_SOp T Nl Ms nc strs cc nL own mn ret hh pc (aq_lda 4 (pc + 1)) := by
  intro p l e R s m args below meth c D cA b β d S0 S' o C0 IH K L st S hK h
  obtain ⟨hx, hb, hr, hml, hown, hlk, hts, hV, hbβ, hβs, hst0, het, hmn, hRf, hRl, hRc, hRs⟩ := C0
  obtain ⟨i, a, r, q, f, rfl, ha, hi, h⟩ := h
  obtain ⟨h1, h2, h3, h4⟩ := hK _ _ _ _ h
  refine ⟨h1, h2, h3, fun H locs cells slots ls hR hS hl e1 e2 => ?_⟩
  have kk := h4 H locs cells slots ls hR hS hl e1 e2
  rw [List.map_cons] at kk
  rw [List.map_cons, List.map_cons]
  show W p l e R s m args below meth c H locs cells slots _ (F0 m pc ls (.int i :: .ref (aq_rho b β a) :: r.map (aq_cV b β)))
  have h0 : a ≠ 0 := fun z => by
    subst z
    obtain ⟨n0, xs, e, -⟩ := hR.2.2.2.1 _ ha
    cases e
  obtain ⟨g1, g2, g3⟩ := aq_R_arr hR h0 ha
  rw [g1]
  exact va_aldq (ws := [(β + a, .inl (cA 4, q, .inr (.inr (.inr (.inr (fun j => (f j).map (aq_rho b β)))))))]) hx hb hV.1 (aq_P1 g3) 0 4 rfl rfl hi hd (by rw [show va_rf ((f i.toNatClampNeg).map (aq_rho b β)) = aq_cV b β (va_rf (f i.toNatClampNeg)) from by cases f i.toNatClampNeg <;> rfl]; exact kk)
theorem so_aaload5 (hd : decode cc pc = .ok (.aaload, 1)) : aq_SOp T Nl Ms nc strs cc nL own mn ret hh pc (aq_lda 5 (pc + 1)) := by
  intro p l e R s m args below meth c D cA b β d S0 S' o C0 IH K L st S hK h
  obtain ⟨hx, hb, hr, hml, hown, hlk, hts, hV, hbβ, hβs, hst0, het, hmn, hRf, hRl, hRc, hRs⟩ := C0
  obtain ⟨i, a, r, q, f, rfl, ha, hi, h⟩ := h
  obtain ⟨h1, h2, h3, h4⟩ := hK _ _ _ _ h
  refine ⟨h1, h2, h3, fun H locs cells slots ls hR hS hl e1 e2 => ?_⟩
  have kk := h4 H locs cells slots ls hR hS hl e1 e2
  rw [List.map_cons] at kk
  rw [List.map_cons, List.map_cons]
  show W p l e R s m args below meth c H locs cells slots _ (F0 m pc ls (.int i :: .ref (aq_rho b β a) :: r.map (aq_cV b β)))
  have h0 : a ≠ 0 := fun z => by
    subst z
    obtain ⟨n0, xs, e, -⟩ := hR.2.2.2.1 _ ha
    cases e
  obtain ⟨g1, g2, g3⟩ := aq_R_arr hR h0 ha
  rw [g1]
  exact va_aldq (ws := [(β + a, .inl (cA 5, q, .inr (.inr (.inr (.inr (fun j => (f j).map (aq_rho b β)))))))]) hx hb hV.1 (aq_P1 g3) 0 5 rfl rfl hi hd (by rw [show va_rf ((f i.toNatClampNeg).map (aq_rho b β)) = aq_cV b β (va_rf (f i.toNatClampNeg)) from by cases f i.toNatClampNeg <;> rfl]; exact kk)
theorem so_iastore (hd : decode cc pc = .ok (.iastore, 1)) : aq_SOp T Nl Ms nc strs cc nL own mn ret hh pc (aq_sti (pc + 1)) := by
  intro p l e R s m args below meth c D cA b β d S0 S' o C0 IH K L st S hK h
  obtain ⟨hx, hb, hr, hml, hown, hlk, hts, hV, hbβ, hβs, hst0, het, hmn, hRf, hRl, hRc, hRs⟩ := C0
  obtain ⟨x, i, a, r, q, f, rfl, h0, ha, hi, h⟩ := h
  obtain ⟨h1, h2, h3, h4⟩ := hK _ _ _ _ h
  refine ⟨h1, h2, h3, fun H locs cells slots ls hR hS hl e1 e2 => ?_⟩
  rw [List.map_cons, List.map_cons, List.map_cons]
  show W p l e R s m args below meth c H locs cells slots _ (F0 m pc ls (.int x :: .int i :: .ref (aq_rho b β a) :: r.map (aq_cV b β)))
  obtain ⟨g1, g2, g3⟩ := aq_R_arr hR h0 ha
  rw [g1]
  have g3c : H[β + a]? = some (vp_cell (cA 0) (q, .inl f)) := g3
  refine W.iast hx hb g3c ((hV.1.2 0 _ rfl).1 q (fun j => .int (f j))) (fun z => by cases z) (by show ¬ (i < 0 ∨ (arrV _ _ _).slots.size ≤ _); rw [arrV_size]; exact hi) rfl rfl hd fun H1 e z oq => ?_
  refine h4 H1 _ cells slots ls (aq_R_set hR h0 g2 z oq hbβ ?_) (hS.put z oq (aq_pos h0)) hl e1 e2
  show H1[β + a]? = some (vp_cell (cA 0) (q, .inl (upd f i.toNatClampNeg x)))
  rw [e]
  rw [vp_cell_i, vp_cell_i, arrV_store]
  congr 2
  funext w
  by_cases hq : w = i.toNatClampNeg
  · subst hq
    simp [updV, upd]
  · simp [updV, upd, hq]
theorem so_lastore (hd : decode cc pc = .ok (.lastore, 1)) : aq_SOp T Nl Ms nc strs cc nL own mn ret hh pc (aq_stl (pc + 1)) := by
  intro p l e R s m args below meth c D cA b β d S0 S' o C0 IH K L st S hK h
  obtain ⟨hx, hb, hr, hml, hown, hlk, hts, hV, hbβ, hβs, hst0, het, hmn, hRf, hRl, hRc, hRs⟩ := C0
  obtain ⟨x, i, a, r, q, f, rfl, h0, ha, hi, h⟩ := h
  obtain ⟨h1, h2, h3, h4⟩ := hK _ _ _ _ h
  refine ⟨h1, h2, h3, fun H locs cells slots ls hR hS hl e1 e2 => ?_⟩
  rw [List.map_cons, List.map_cons, List.map_cons]
  show W p l e R s m args below meth c H locs cells slots _ (F0 m pc ls (.long x :: .int i :: .ref (aq_rho b β a) :: r.map (aq_cV b β)))
  obtain ⟨g1, g2, g3⟩ := aq_R_arr hR h0 ha
  rw [g1]
  have g3c : H[β + a]? = some (vp_cell (cA 1) (q, .inr (.inl f))) := g3
  refine W.last hx hb g3c ((hV.1.2 1 _ rfl).1 q (fun j => .long (f j))) (fun z => by cases z) (by show ¬ (i < 0 ∨ (arrV _ _ _).slots.size ≤ _); rw [arrV_size]; exact hi) rfl rfl hd fun H1 e z oq => ?_
  refine h4 H1 _ cells slots ls (aq_R_set hR h0 g2 z oq hbβ ?_) (hS.put z oq (aq_pos h0)) hl e1 e2
  show H1[β + a]? = some (vp_cell (cA 1) (q, .inr (.inl (vp_updL f i.toNatClampNeg x))))
  rw [e]
  rw [vp_cell_l, vp_cell_l, arrV_store]
  congr 2
  funext w
  by_cases hq : w = i.toNatClampNeg
  · subst hq
    simp [updV, vp_updL]
  · simp [updV, vp_updL, hq]
theorem so_dastore (hd : decode cc pc = .ok (.dastore, 1)) : aq_SOp T Nl Ms nc strs cc nL own mn ret hh pc (aq_std (pc + 1)) := by
  intro p l e R s m args below meth c D cA b β d S0 S' o C0 IH K L st S hK h
  obtain ⟨hx, hb, hr, hml, hown, hlk, hts, hV, hbβ, hβs, hst0, het, hmn, hRf, hRl, hRc, hRs⟩ := C0
  obtain ⟨x, i, a, r, q, f, rfl, h0, ha, hi, h⟩ := h
  obtain ⟨h1, h2, h3, h4⟩ := hK _ _ _ _ h
  refine ⟨h1, h2, h3, fun H locs cells slots ls hR hS hl e1 e2 => ?_⟩
  rw [List.map_cons, List.map_cons, List.map_cons]
  show W p l e R s m args below meth c H locs cells slots _ (F0 m pc ls (.double x :: .int i :: .ref (aq_rho b β a) :: r.map (aq_cV b β)))
  obtain ⟨g1, g2, g3⟩ := aq_R_arr hR h0 ha
  rw [g1]
  have g3c : H[β + a]? = some (vp_cell (cA 2) (q, .inr (.inr (.inr (.inl f))))) := g3
  refine W.dast hx hb g3c ((hV.1.2 2 _ rfl).1 q (fun j => .double (f j))) (fun z => by cases z) (by show ¬ (i < 0 ∨ (arrV _ _ _).slots.size ≤ _); rw [arrV_size]; exact hi) rfl rfl hd fun H1 e z oq => ?_
  refine h4 H1 _ cells slots ls (aq_R_set hR h0 g2 z oq hbβ ?_) (hS.put z oq (aq_pos h0)) hl e1 e2
  show H1[β + a]? = some (vp_cell (cA 2) (q, .inr (.inr (.inr (.inl (vf_upd f i.toNatClampNeg x))))))
  rw [e]
  rw [vp_cell_d, vp_cell_d, arrV_store]
  congr 2
  funext w
  by_cases hq : w = i.toNatClampNeg
  · subst hq
    simp [updV, vf_upd]
  · simp [updV, vf_upd, hq]
theorem so_bastore (hd : decode cc pc = .ok (.bastore, 1)) : aq_SOp T Nl Ms nc strs cc nL own mn ret hh pc (aq_stz (pc + 1)) := by
  intro p l e R s m args below meth c D cA b β d S0 S' o C0 IH K L st S hK h
  obtain ⟨hx, hb, hr, hml, hown, hlk, hts, hV, hbβ, hβs, hst0, het, hmn, hRf, hRl, hRc, hRs⟩ := C0
  obtain ⟨x, i, a, r, q, f, rfl, h0, ha, hi, hz, h⟩ := h
  obtain ⟨h1, h2, h3, h4⟩ := hK _ _ _ _ h
  refine ⟨h1, h2, h3, fun H locs cells slots ls hR hS hl e1 e2 => ?_⟩
  rw [List.map_cons, List.map_cons, List.map_cons]
  show W p l e R s m args below meth c H locs cells slots _ (F0 m pc ls (.int x :: .int i :: .ref (aq_rho b β a) :: r.map (aq_cV b β)))
  obtain ⟨g1, g2, g3⟩ := aq_R_arr hR h0 ha
  rw [g1]
  have g3c : H[β + a]? = some (vp_cell (cA 3) (q, .inl f)) := g3
  refine W.zast hx hb g3c ((hV.1.2 3 _ rfl).1 q (fun j => .int (f j))) (fun z => by cases z) (by show ¬ (i < 0 ∨ (arrV _ _ _).slots.size ≤ _); rw [arrV_size]; exact hi) rfl rfl hd fun H1 e z oq => ?_
  refine h4 H1 _ cells slots ls (aq_R_set hR h0 g2 z oq hbβ ?_) (hS.put z oq (aq_pos h0)) hl e1 e2
  show H1[β + a]? = some (vp_cell (cA 3) (q, .inl (upd f i.toNatClampNeg x)))
  rw [e]
  rw [vp_cell_i, vp_cell_i, arrV_store]
  congr 2
  funext w
  by_cases hq : w = i.toNatClampNeg
  · subst hq
    rcases hz with rfl | rfl <;> simp [updV, upd] <;> rfl
  · simp [updV, upd, hq]
theorem so_aastore4 (hd : decode cc pc = .ok (.aastore, 1)) : aq_SOp T Nl Ms nc strs cc nL own mn ret hh pc (aq_sta 4 1 (pc + 1)) := by
  intro p l e R s m args below meth c D cA b β d S0 S' o C0 IH K L st S hK h
  obtain ⟨hx, hb, hr, hml, hown, hlk, hts, hV, hbβ, hβs, hst0, het, hmn, hRf, hRl, hRc, hRs⟩ := C0
  obtain ⟨v, i, a, r, q, f, vs, rfl, h0, hv0, ha, hv, hi, h⟩ := h
  obtain ⟨h1, h2, h3, h4⟩ := hK _ _ _ _ h
  refine ⟨h1, h2, h3, fun H locs cells slots ls hR hS hl e1 e2 => ?_⟩
  rw [List.map_cons, List.map_cons, List.map_cons]
  show W p l e R s m args below meth c H locs cells slots _ (F0 m pc ls (.ref (aq_rho b β v) :: .int i :: .ref (aq_rho b β a) :: r.map (aq_cV b β)))
  obtain ⟨g1, g2, g3⟩ := aq_R_arr hR h0 ha
  obtain ⟨w1, w2, w3, w4⟩ := aq_R_obj hR hv
  rw [g1, w1]
  have hlt : i.toNatClampNeg < q := Nat.not_le.mp fun z => hi (Or.inr z)
  have hi0 : ¬ i < 0 := fun z => hi (Or.inl z)
  obtain ⟨r', hr', cellV, y1, y2, y3, -⟩ := w4
  have hc : aq_cl[1]? = some (RX1, TX1, 4) := rfl
  have hcls := (hV.1.1 1 _ hc).2
  obtain ⟨kA, comp, k1, k2, k3, -⟩ := (hV.1.2 4 _ rfl).2
  have hcomp : comp = D.1 1 := Option.some.inj (k3.symm.trans hcls.1)
  subst hcomp
  obtain ⟨kC, hkC, -⟩ := hcls.2
  have g3c : H[β + a]? = some (vp_cell (cA 4) (q, .inr (.inr (.inr (.inr (fun j => (f j).map (aq_rho b β))))))) := g3
  refine W.aast hx hb g3c (fun z h => by cases h) (fun h => by cases h) k1 k2 rfl hkC ⟨hi0, by show _ < (arrV _ _ _).slots.size; rw [arrV_size]; exact hlt⟩ y1 (fun z h => by rw [y3] at h; cases h) (by rw [y2]; exact hkC) (by rw [y2]; exact va_assign hcls) rfl rfl hd fun H1 e z oq => ?_
  refine h4 H1 _ cells slots ls (aq_R_set hR h0 g2 z oq hbβ ?_) (hS.put z oq (aq_pos h0)) hl e1 e2
  show H1[β + a]? = some (vp_cell (cA 4) (q, .inr (.inr (.inr (.inr (fun j => (va_up f i.toNatClampNeg (some v) j).map (aq_rho b β)))))))
  rw [e]
  rw [vp_cell_q, vp_cell_q, arrV_store]
  congr 2
  funext w
  by_cases hq : w = i.toNatClampNeg
  · subst hq
    simp [updV, va_up, va_rf, w1]
  · simp [updV, va_up, hq]
theorem so_aastore5 (hd : decode cc pc = .ok (.aastore, 1)) : aq_SOp T Nl Ms nc strs cc nL own mn ret hh pc (aq_sta 5 5 (pc + 1)) := by
  intro p l e R s m args below meth c D cA b β d S0 S' o C0 IH K L st S hK h
  obtain ⟨hx, hb, hr, hml, hown, hlk, hts, hV, hbβ, hβs, hst0, het, hmn, hRf, hRl, hRc, hRs⟩ := C0
  obtain ⟨v, i, a, r, q, f, vs, rfl, h0, hv0, ha, hv, hi, h⟩ := h
  obtain ⟨h1, h2, h3, h4⟩ := hK _ _ _ _ h
  refine ⟨h1, h2, h3, fun H locs cells slots ls hR hS hl e1 e2 => ?_⟩
  rw [List.map_cons, List.map_cons, List.map_cons]
  show W p l e R s m args below meth c H locs cells slots _ (F0 m pc ls (.ref (aq_rho b β v) :: .int i :: .ref (aq_rho b β a) :: r.map (aq_cV b β)))
  obtain ⟨g1, g2, g3⟩ := aq_R_arr hR h0 ha
  obtain ⟨w1, w2, w3, w4⟩ := aq_R_obj hR hv
  rw [g1, w1]
  have hlt : i.toNatClampNeg < q := Nat.not_le.mp fun z => hi (Or.inr z)
  have hi0 : ¬ i < 0 := fun z => hi (Or.inl z)
  obtain ⟨r', hr', cellV, y1, y2, y3, -⟩ := w4
  have hc : aq_cl[5]? = some (RX5, TX5, 2) := rfl
  have hcls := (hV.1.1 5 _ hc).2
  obtain ⟨kA, comp, k1, k2, k3, -⟩ := (hV.1.2 5 _ rfl).2
  have hcomp : comp = D.1 5 := Option.some.inj (k3.symm.trans hcls.1)
  subst hcomp
  obtain ⟨kC, hkC, -⟩ := hcls.2
  have g3c : H[β + a]? = some (vp_cell (cA 5) (q, .inr (.inr (.inr (.inr (fun j => (f j).map (aq_rho b β))))))) := g3
  refine W.aast hx hb g3c (fun z h => by cases h) (fun h => by cases h) k1 k2 rfl hkC ⟨hi0, by show _ < (arrV _ _ _).slots.size; rw [arrV_size]; exact hlt⟩ y1 (fun z h => by rw [y3] at h; cases h) (by rw [y2]; exact hkC) (by rw [y2]; exact va_assign hcls) rfl rfl hd fun H1 e z oq => ?_
  refine h4 H1 _ cells slots ls (aq_R_set hR h0 g2 z oq hbβ ?_) (hS.put z oq (aq_pos h0)) hl e1 e2
  show H1[β + a]? = some (vp_cell (cA 5) (q, .inr (.inr (.inr (.inr (fun j => (va_up f i.toNatClampNeg (some v) j).map (aq_rho b β)))))))
  rw [e]
  rw [vp_cell_q, vp_cell_q, arrV_store]
  congr 2
  funext w
  by_cases hq : w = i.toNatClampNeg
  · subst hq
    simp [updV, va_up, va_rf, w1]
  · simp [updV, va_up, hq]
theorem so_len (hd : decode cc pc = .ok (.arraylength, 1)) : aq_SOp T Nl Ms nc strs cc nL own mn ret hh pc (aq_len (pc + 1)) := by
  intro p l e R s m args below meth c D cA b β d S0 S' o C0 IH K L st S hK h
  obtain ⟨hx, hb, hr, hml, hown, hlk, hts, hV, hbβ, hβs, hst0, het, hmn, hRf, hRl, hRc, hRs⟩ := C0
  obtain ⟨a, r, kd, x, rfl, hkd, ha, h⟩ := h
  obtain ⟨h1, h2, h3, h4⟩ := hK _ _ _ _ h
  refine ⟨h1, h2, h3, fun H locs cells slots ls hR hS hl e1 e2 => ?_⟩
  have kk := h4 H locs cells slots ls hR hS hl e1 e2
  rw [List.map_cons] at kk
  rw [List.map_cons]
  show W p l e R s m args below meth c H locs cells slots _ (F0 m pc ls (.ref (aq_rho b β a) :: r.map (aq_cV b β)))
  obtain ⟨q, dd⟩ := x
  by_cases h0 : a = 0
  · subst h0
    obtain ⟨n0, xs, e, hX⟩ := hR.2.2.2.1 _ ha
    cases e
    obtain ⟨scr, x1, x2, x3, x4, x5⟩ := hX
    exact W.alen (n := Int32.ofNat q) hx hb x1 x2 (by rw [x4]) rfl rfl hd kk
  · obtain ⟨g1, g2, g3⟩ := aq_R_arr hR h0 ha
    rw [g1]
    have hcell : ∃ g : Nat → Value, H[β + a]? = some (arrV (cA kd) q g) := by
      have g3' : H[β + a]? = some (vp_cell (cA kd) (q, aq_cD b β dd)) := g3
      rcases dd with f | f | f | f | f
      · exact ⟨fun j => .int (f j), g3'⟩
      · exact ⟨fun j => .long (f j), g3'⟩
      · exact ⟨fun j => .float (f j), g3'⟩
      · exact ⟨fun j => .double (f j), g3'⟩
      · exact ⟨fun j => va_rf ((f j).map (aq_rho b β)), g3'⟩
    obtain ⟨g, hg⟩ := hcell
    by_cases hk6 : kd < 6
    · obtain ⟨ty, hty⟩ : ∃ ty, (aq_tys cA)[kd]? = some (cA kd, ty) := by
        match kd, hk6 with
        | 0, _ => exact ⟨_, rfl⟩
        | 1, _ => exact ⟨_, rfl⟩
        | 2, _ => exact ⟨_, rfl⟩
        | 3, _ => exact ⟨_, rfl⟩
        | 4, _ => exact ⟨_, rfl⟩
        | 5, _ => exact ⟨_, rfl⟩
        | k + 6, h => omega
      exact W.alen (n := Int32.ofNat q) hx hb hg ((hV.1.2 kd _ hty).1 q g) (by rw [arrV_size] <;> rfl) rfl rfl hd kk
    · exact absurd hkd hk6
theorem so_oi {idx : Nat} (hd : decode cc pc = .ok (.invokespecial idx, 3)) (hw : Jvm.Cond.methodLink own idx objectInit ∈ lw_tbl) (hw2 : Jvm.Cond.instanceMethod objectInit ∈ lw_tbl) (hw3 : Jvm.Cond.code objectInit ⟨#[0xb1]⟩ 1 none ∈ lw_tbl) : aq_SOp T Nl Ms nc strs cc nL own mn ret hh pc (aq_oi (pc + 3)) := by
  intro p l e R s m args below meth c D cA b β d S0 S' o C0 IH K L st S hK h
  obtain ⟨hx, hb, hr, hml, hown, hlk, hts, hV, hbβ, hβs, hst0, het, hmn, hRf, hRl, hRc, hRs⟩ := C0
  obtain ⟨a, r, rfl, hsum, h⟩ := h
  obtain ⟨h1, h2, h3, h4⟩ := hK _ _ _ _ h
  refine ⟨h1, h2, h3, fun H locs cells slots ls hR hS hl e1 e2 => ?_⟩
  rw [List.map_cons]
  refine W.objInit hx hb hown (hts _ (List.mem_filter.mpr ⟨hw, rfl⟩)) (hts _ (List.mem_filter.mpr ⟨hw2, rfl⟩)) (hts _ (List.mem_filter.mpr ⟨hw3, rfl⟩)) rfl (by rw [hml]; exact hl.1) rfl hd (by omega) (by show 2 * 0 + _ + 12 ≤ _; rw [aq_cV_sum]; omega) ?_
  exact W.eq (g2 := F0 m (pc + 3) ls (r.map (aq_cV b β))) rfl (h4 H locs cells slots ls hR hS hl e1 e2)
theorem so_new {ci idx : Nat} {C : String} {TT : u_T} {N : Nat} {tys : Nat → FieldType} {fs : List Value} (hd : decode cc pc = .ok (.new idx, 3)) (hc : aq_cl[ci]? = some (C, TT, N)) (hin : ∀ w ∈ u_ws C TT N, w ∈ aq_WA) (hw : Jvm.Cond.classLink own idx C ∈ lw_tbl) (hw2 : Jvm.Cond.instantiable C N ∈ lw_tbl) (hw3 : Jvm.Cond.initialized C ∈ lw_tbl)
    (hty : ∀ k, k < N → parseFieldDescriptor (TT k).2.2.1 = some (tys k)) (hfs : ∀ j, j < N → defaultValue (tys j) = vp_V fs j) (hcV : ∀ b β, fs.map (aq_cV b β) = fs) : aq_SOp T Nl Ms nc strs cc nL own mn ret hh pc (aq_new ci N fs (pc + 3)) := by
  intro p l e R s m args below meth c D cA b β d S0 S' o C0 IH K L st S hK h
  obtain ⟨hx, hb, hr, hml, hown, hlk, hts, hV, hbβ, hβs, hst0, het, hmn, hRf, hRl, hRc, hRs⟩ := C0
  obtain ⟨hex, h⟩ := h
  obtain ⟨h1, h2, h3, h4⟩ := hK _ _ _ _ h
  refine ⟨Nat.le_trans (Nat.le_succ _) h1, h2, Nat.le_trans (Nat.le_add_right _ _) h3, fun H locs cells slots ls hR hS hl e1 e2 => ?_⟩
  have h1' : S.1 + 1 ≤ S'.1 := h1
  have h3' : S.2.2.1 + N ≤ S'.2.2.1 := h3
  have hKn := hV.1.1 ci _ hc
  refine W.newcK hx hb hown (hts _ (List.mem_filter.mpr ⟨hw, rfl⟩)) (hts _ (List.mem_filter.mpr ⟨hw2, rfl⟩)) (hts _ (List.mem_filter.mpr ⟨hw3, rfl⟩)) rfl hd (by omega) (by omega) hKn.2.1 rfl fun H1 kC hkC f1 z1 o1 => ?_
  obtain ⟨r1, r2⟩ := aq_R_mk (e := .inr (ci, fs)) (n := N) hR hex z1 o1 hbβ (by
    show va_at D aq_cl (H.size, .inr (ci, fs.map (aq_cV b β))) H1
    rw [hcV]
    exact ⟨_, hc, (u_born tys hts hin hKn hkC f1 hty).to hfs⟩)
  have kk := h4 H1 locs (cells + 1) (slots + N) ls r1 ⟨Nat.le_trans hS.1 (by omega), fun x g1 g2 => (o1 x (Nat.lt_of_lt_of_le g1 hS.1)).trans (hS.2.1 x g1 g2), hS.2.2⟩ hl (by show _ = S.1 + 1 + S.2.1; omega) (by show _ = S.2.2.1 + N; omega)
  rw [List.map_cons, show aq_cV b β (.ref S.1) = .ref (aq_rho b β S.1) from rfl, r2] at kk
  exact kk
theorem so_newa0 (hd : decode cc pc = .ok (.newarray .int, 2)) (hw : Jvm.Cond.arrayClass .int ∈ lw_tbl) : aq_SOp T Nl Ms nc strs cc nL own mn ret hh pc (aq_newa 0 (pc + 2)) := by
  intro p l e R s m args below meth c D cA b β d S0 S' o C0 IH K L st S hK h
  obtain ⟨hx, hb, hr, hml, hown, hlk, hts, hV, hbβ, hβs, hst0, het, hmn, hRf, hRl, hRc, hRs⟩ := C0
  obtain ⟨i, r, rfl, hex, hi, hi2, h⟩ := h
  obtain ⟨h1, h2, h3, h4⟩ := hK _ _ _ _ h
  have h1' : S.1 + 1 ≤ S'.1 := h1
  have h3' : S.2.2.1 + i.toNatClampNeg ≤ S'.2.2.1 := h3
  refine ⟨Nat.le_trans (Nat.le_succ _) h1, h2, Nat.le_trans (Nat.le_add_right _ _) h3, fun H locs cells slots ls hR hS hl e1 e2 => ?_⟩
  rw [List.map_cons]
  refine va_newaK (atype := .int) hx hb (hts _ (List.mem_filter.mpr ⟨hw, rfl⟩)) rfl hd rfl hi rfl (by show i.toNatClampNeg * _ ≤ _; simp [componentBytes, newarray.typeOf]; omega) (by omega) (by omega) rfl fun H1 cB f1 z1 o1 hAr hNm => ?_
  have hcB : cB = cA 0 := Option.some.inj (hNm.symm.trans (hV.1.2 0 _ rfl).2)
  subst hcB
  obtain ⟨r1, r2⟩ := aq_R_mk (e := .inl (0, (i.toNatClampNeg, aq_dflt 0))) (n := i.toNatClampNeg) hR hex z1 o1 hbβ f1
  have kk := h4 H1 locs (cells + 1) (slots + i.toNatClampNeg) ls r1 ⟨Nat.le_trans hS.1 (by omega), fun x g1 g2 => (o1 x (Nat.lt_of_lt_of_le g1 hS.1)).trans (hS.2.1 x g1 g2), hS.2.2⟩ hl (by show _ = S.1 + 1 + S.2.1; omega) (by show _ = S.2.2.1 + i.toNatClampNeg; omega)
  rw [List.map_cons, show aq_cV b β (.ref S.1) = .ref (aq_rho b β S.1) from rfl, r2] at kk
  exact kk
theorem so_newa1 (hd : decode cc pc = .ok (.newarray .long, 2)) (hw : Jvm.Cond.arrayClass .long ∈ lw_tbl) : aq_SOp T Nl Ms nc strs cc nL own mn ret hh pc (aq_newa 1 (pc + 2)) := by
  intro p l e R s m args below meth c D cA b β d S0 S' o C0 IH K L st S hK h
  obtain ⟨hx, hb, hr, hml, hown, hlk, hts, hV, hbβ, hβs, hst0, het, hmn, hRf, hRl, hRc, hRs⟩ := C0
  obtain ⟨i, r, rfl, hex, hi, hi2, h⟩ := h
  obtain ⟨h1, h2, h3, h4⟩ := hK _ _ _ _ h
  have h1' : S.1 + 1 ≤ S'.1 := h1
  have h3' : S.2.2.1 + i.toNatClampNeg ≤ S'.2.2.1 := h3
  refine ⟨Nat.le_trans (Nat.le_succ _) h1, h2, Nat.le_trans (Nat.le_add_right _ _) h3, fun H locs cells slots ls hR hS hl e1 e2 => ?_⟩
  rw [List.map_cons]
  refine va_newaK (atype := .long) hx hb (hts _ (List.mem_filter.mpr ⟨hw, rfl⟩)) rfl hd rfl hi rfl (by show i.toNatClampNeg * _ ≤ _; simp [componentBytes, newarray.typeOf]; omega) (by omega) (by omega) rfl fun H1 cB f1 z1 o1 hAr hNm => ?_
  have hcB : cB = cA 1 := Option.some.inj (hNm.symm.trans (hV.1.2 1 _ rfl).2)
  subst hcB
  obtain ⟨r1, r2⟩ := aq_R_mk (e := .inl (1, (i.toNatClampNeg, aq_dflt 1))) (n := i.toNatClampNeg) hR hex z1 o1 hbβ f1
  have kk := h4 H1 locs (cells + 1) (slots + i.toNatClampNeg) ls r1 ⟨Nat.le_trans hS.1 (by omega), fun x g1 g2 => (o1 x (Nat.lt_of_lt_of_le g1 hS.1)).trans (hS.2.1 x g1 g2), hS.2.2⟩ hl (by show _ = S.1 + 1 + S.2.1; omega) (by show _ = S.2.2.1 + i.toNatClampNeg; omega)
  rw [List.map_cons, show aq_cV b β (.ref S.1) = .ref (aq_rho b β S.1) from rfl, r2] at kk
  exact kk
theorem so_newa2 (hd : decode cc pc = .ok (.newarray .double, 2)) (hw : Jvm.Cond.arrayClass .double ∈ lw_tbl) : aq_SOp T Nl Ms nc strs cc nL own mn ret hh pc (aq_newa 2 (pc + 2)) := by
  intro p l e R s m args below meth c D cA b β d S0 S' o C0 IH K L st S hK h
  obtain ⟨hx, hb, hr, hml, hown, hlk, hts, hV, hbβ, hβs, hst0, het, hmn, hRf, hRl, hRc, hRs⟩ := C0
  obtain ⟨i, r, rfl, hex, hi, hi2, h⟩ := h
  obtain ⟨h1, h2, h3, h4⟩ := hK _ _ _ _ h
  have h1' : S.1 + 1 ≤ S'.1 := h1
  have h3' : S.2.2.1 + i.toNatClampNeg ≤ S'.2.2.1 := h3
  refine ⟨Nat.le_trans (Nat.le_succ _) h1, h2, Nat.le_trans (Nat.le_add_right _ _) h3, fun H locs cells slots ls hR hS hl e1 e2 => ?_⟩
  rw [List.map_cons]
  refine va_newaK (atype := .double) hx hb (hts _ (List.mem_filter.mpr ⟨hw, rfl⟩)) rfl hd rfl hi rfl (by show i.toNatClampNeg * _ ≤ _; simp [componentBytes, newarray.typeOf]; omega) (by omega) (by omega) rfl fun H1 cB f1 z1 o1 hAr hNm => ?_
  have hcB : cB = cA 2 := Option.some.inj (hNm.symm.trans (hV.1.2 2 _ rfl).2)
  subst hcB
  obtain ⟨r1, r2⟩ := aq_R_mk (e := .inl (2, (i.toNatClampNeg, aq_dflt 2))) (n := i.toNatClampNeg) hR hex z1 o1 hbβ f1
  have kk := h4 H1 locs (cells + 1) (slots + i.toNatClampNeg) ls r1 ⟨Nat.le_trans hS.1 (by omega), fun x g1 g2 => (o1 x (Nat.lt_of_lt_of_le g1 hS.1)).trans (hS.2.1 x g1 g2), hS.2.2⟩ hl (by show _ = S.1 + 1 + S.2.1; omega) (by show _ = S.2.2.1 + i.toNatClampNeg; omega)
  rw [List.map_cons, show aq_cV b β (.ref S.1) = .ref (aq_rho b β S.1) from rfl, r2] at kk
  exact kk
theorem so_newa3 (hd : decode cc pc = .ok (.newarray .boolean, 2)) (hw : Jvm.Cond.arrayClass .boolean ∈ lw_tbl) : aq_SOp T Nl Ms nc strs cc nL own mn ret hh pc (aq_newa 3 (pc + 2)) := by
  intro p l e R s m args below meth c D cA b β d S0 S' o C0 IH K L st S hK h
  obtain ⟨hx, hb, hr, hml, hown, hlk, hts, hV, hbβ, hβs, hst0, het, hmn, hRf, hRl, hRc, hRs⟩ := C0
  obtain ⟨i, r, rfl, hex, hi, hi2, h⟩ := h
  obtain ⟨h1, h2, h3, h4⟩ := hK _ _ _ _ h
  have h1' : S.1 + 1 ≤ S'.1 := h1
  have h3' : S.2.2.1 + i.toNatClampNeg ≤ S'.2.2.1 := h3
  refine ⟨Nat.le_trans (Nat.le_succ _) h1, h2, Nat.le_trans (Nat.le_add_right _ _) h3, fun H locs cells slots ls hR hS hl e1 e2 => ?_⟩
  rw [List.map_cons]
  refine va_newaK (atype := .boolean) hx hb (hts _ (List.mem_filter.mpr ⟨hw, rfl⟩)) rfl hd rfl hi rfl (by show i.toNatClampNeg * _ ≤ _; simp [componentBytes, newarray.typeOf]; omega) (by omega) (by omega) rfl fun H1 cB f1 z1 o1 hAr hNm => ?_
  have hcB : cB = cA 3 := Option.some.inj (hNm.symm.trans (hV.1.2 3 _ rfl).2)
  subst hcB
  obtain ⟨r1, r2⟩ := aq_R_mk (e := .inl (3, (i.toNatClampNeg, aq_dflt 3))) (n := i.toNatClampNeg) hR hex z1 o1 hbβ f1
  have kk := h4 H1 locs (cells + 1) (slots + i.toNatClampNeg) ls r1 ⟨Nat.le_trans hS.1 (by omega), fun x g1 g2 => (o1 x (Nat.lt_of_lt_of_le g1 hS.1)).trans (hS.2.1 x g1 g2), hS.2.2⟩ hl (by show _ = S.1 + 1 + S.2.1; omega) (by show _ = S.2.2.1 + i.toNatClampNeg; omega)
  rw [List.map_cons, show aq_cV b β (.ref S.1) = .ref (aq_rho b β S.1) from rfl, r2] at kk
  exact kk
theorem so_newq4 {idx : Nat} (hd : decode cc pc = .ok (.anewarray idx, 3)) (hw : Jvm.Cond.classLink own idx RX1 ∈ lw_tbl) : aq_SOp T Nl Ms nc strs cc nL own mn ret hh pc (aq_newa 4 (pc + 3)) := by
  intro p l e R s m args below meth c D cA b β d S0 S' o C0 IH K L st S hK h
  obtain ⟨hx, hb, hr, hml, hown, hlk, hts, hV, hbβ, hβs, hst0, het, hmn, hRf, hRl, hRc, hRs⟩ := C0
  obtain ⟨i, r, rfl, hex, hi, hi2, h⟩ := h
  obtain ⟨h1, h2, h3, h4⟩ := hK _ _ _ _ h
  have h1' : S.1 + 1 ≤ S'.1 := h1
  have h3' : S.2.2.1 + i.toNatClampNeg ≤ S'.2.2.1 := h3
  refine ⟨Nat.le_trans (Nat.le_succ _) h1, h2, Nat.le_trans (Nat.le_add_right _ _) h3, fun H locs cells slots ls hR hS hl e1 e2 => ?_⟩
  rw [List.map_cons]
  refine W.anew hx hb hown (hts _ (List.mem_filter.mpr ⟨hw, rfl⟩)) (va_AO.use hV.2.2.2.2.2.2.1) rfl hd rfl hi (by omega) (by omega) (by omega) fun cB kA comp f1 f2 f3 f4 => ?_
  generalize hH1 : H.push ({ cls := cB, slots := Array.replicate i.toNatClampNeg .null, vm := .none } : Cell) = H1
  have z1 : H1.size = H.size + 1 := by rw [← hH1, Array.size_push]
  have y1 : H1[H.size]? = some (arrV cB i.toNatClampNeg (fun _ => .null)) := by rw [← hH1, Array.getElem?_push_size, ← arrV_new]
  have o1 : ∀ q : Nat, q < H.size → H1[q]? = H[q]? := fun q hq => by rw [← hH1, Array.getElem?_push, if_neg (Nat.ne_of_lt hq)]
  have hcB : cB = cA 4 := by
    obtain ⟨_, _, _, _, _, k4⟩ := (hV.1.2 4 _ rfl).2
    exact Option.some.inj (f1.symm.trans k4)
  subst hcB
  obtain ⟨r1, r2⟩ := aq_R_mk (e := .inl (4, (i.toNatClampNeg, aq_dflt 4))) (n := i.toNatClampNeg) hR hex z1 o1 hbβ y1
  have kk := h4 H1 locs (cells + 1) (slots + i.toNatClampNeg) ls r1 ⟨Nat.le_trans hS.1 (by omega), fun x g1 g2 => (o1 x (Nat.lt_of_lt_of_le g1 hS.1)).trans (hS.2.1 x g1 g2), hS.2.2⟩ hl (by show _ = S.1 + 1 + S.2.1; omega) (by show _ = S.2.2.1 + i.toNatClampNeg; omega)
  rw [List.map_cons, show aq_cV b β (.ref S.1) = .ref (aq_rho b β S.1) from rfl, r2] at kk
  exact kk
theorem so_newq5 {idx : Nat} (hd : decode cc pc = .ok (.anewarray idx, 3)) (hw : Jvm.Cond.classLink own idx RX5 ∈ lw_tbl) : aq_SOp T Nl Ms nc strs cc nL own mn ret hh pc (aq_newa 5 (pc + 3)) := by
  intro p l e R s m args below meth c D cA b β d S0 S' o C0 IH K L st S hK h
  obtain ⟨hx, hb, hr, hml, hown, hlk, hts, hV, hbβ, hβs, hst0, het, hmn, hRf, hRl, hRc, hRs⟩ := C0
  obtain ⟨i, r, rfl, hex, hi, hi2, h⟩ := h
  obtain ⟨h1, h2, h3, h4⟩ := hK _ _ _ _ h
  have h1' : S.1 + 1 ≤ S'.1 := h1
  have h3' : S.2.2.1 + i.toNatClampNeg ≤ S'.2.2.1 := h3
  refine ⟨Nat.le_trans (Nat.le_succ _) h1, h2, Nat.le_trans (Nat.le_add_right _ _) h3, fun H locs cells slots ls hR hS hl e1 e2 => ?_⟩
  rw [List.map_cons]
  refine W.anew hx hb hown (hts _ (List.mem_filter.mpr ⟨hw, rfl⟩)) (va_AO.use hV.2.2.2.2.2.2.2) rfl hd rfl hi (by omega) (by omega) (by omega) fun cB kA comp f1 f2 f3 f4 => ?_
  generalize hH1 : H.push ({ cls := cB, slots := Array.replicate i.toNatClampNeg .null, vm := .none } : Cell) = H1
  have z1 : H1.size = H.size + 1 := by rw [← hH1, Array.size_push]
  have y1 : H1[H.size]? = some (arrV cB i.toNatClampNeg (fun _ => .null)) := by rw [← hH1, Array.getElem?_push_size, ← arrV_new]
  have o1 : ∀ q : Nat, q < H.size → H1[q]? = H[q]? := fun q hq => by rw [← hH1, Array.getElem?_push, if_neg (Nat.ne_of_lt hq)]
  have hcB : cB = cA 5 := by
    obtain ⟨_, _, _, _, _, k4⟩ := (hV.1.2 5 _ rfl).2
    exact Option.some.inj (f1.symm.trans k4)
  subst hcB
  obtain ⟨r1, r2⟩ := aq_R_mk (e := .inl (5, (i.toNatClampNeg, aq_dflt 5))) (n := i.toNatClampNeg) hR hex z1 o1 hbβ y1
  have kk := h4 H1 locs (cells + 1) (slots + i.toNatClampNeg) ls r1 ⟨Nat.le_trans hS.1 (by omega), fun x g1 g2 => (o1 x (Nat.lt_of_lt_of_le g1 hS.1)).trans (hS.2.1 x g1 g2), hS.2.2⟩ hl (by show _ = S.1 + 1 + S.2.1; omega) (by show _ = S.2.2.1 + i.toNatClampNeg; omega)
  rw [List.map_cons, show aq_cV b β (.ref S.1) = .ref (aq_rho b β S.1) from rfl, r2] at kk
  exact kk
end
