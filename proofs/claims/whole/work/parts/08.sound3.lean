/-! ===== the rules of the heap hold ===== -/
section
variable {D : va_G} {cA : Nat → ClassId} {b β : Nat} {U : State} {S : aq_S} {H : Heap}
theorem aq_R_obj (h : aq_R D cA b β U S H) {a ci : Nat} {fs : List Value} (ha : S.2.2.2 a = some (.inr (ci, fs))) : aq_rho b β a = β + a ∧ a ≠ 0 ∧ a < S.1 ∧ va_at D aq_cl (β + a, .inr (ci, fs.map (aq_cV b β))) H := by
  obtain ⟨-, -, -, h4, h5⟩ := h
  cases a with
  | zero => obtain ⟨n, xs, e, -⟩ := h4 _ ha; cases e
  | succ a =>
    obtain ⟨k1, k2⟩ := h5 a _ ha
    exact ⟨if_neg (Nat.succ_ne_zero a), Nat.succ_ne_zero a, k1, k2⟩
theorem aq_R_arr (h : aq_R D cA b β U S H) {a kd n : Nat} {d : (Nat → Int32) ⊕ (Nat → Int64) ⊕ (Nat → UInt32) ⊕ (Nat → UInt64) ⊕ (Nat → Option Nat)} (h0 : a ≠ 0) (ha : S.2.2.2 a = some (.inl (kd, (n, d)))) : aq_rho b β a = β + a ∧ a < S.1 ∧ va_at D aq_cl (β + a, .inl (cA kd, n, aq_cD b β d)) H := by
  obtain ⟨-, -, -, h4, h5⟩ := h
  cases a with
  | zero => exact absurd rfl h0
  | succ a =>
    obtain ⟨k1, k2⟩ := h5 a _ ha
    exact ⟨if_neg (Nat.succ_ne_zero a), k1, k2⟩
/-- a cell is written -/
theorem aq_R_set (h : aq_R D cA b β U S H) {a : Nat} {e : aq_E} {H1 : Heap} (h0 : a ≠ 0) (hl : a < S.1) (z : H1.size = H.size) (oq : ∀ q : Nat, q ≠ β + a → H1[q]? = H[q]?) (hb : b ≤ β) (he : va_at D aq_cl (β + a, aq_cE cA b β e) H1) : aq_R D cA b β U (aq_set S a e) H1 := by
  obtain ⟨h1, h2, h3, h4, h5⟩ := h
  refine ⟨by rw [z]; exact h1, fun q => by rw [z]; exact h2 q, h3, fun e0 he0 => ?_, fun k e0 he0 => ?_⟩
  · have hne : Nat.beq 0 a = false := by
      cases hq : Nat.beq 0 a with
      | false => rfl
      | true => exact absurd (Nat.eq_of_beq_eq_true hq).symm h0
    simp only [aq_set, hne, cond_false] at he0
    obtain ⟨n, xs, e1, e2⟩ := h4 e0 he0
    exact ⟨n, xs, e1, e2.kept (oq b (by omega))⟩
  · by_cases hk : k + 1 = a
    · subst hk
      have hq : Nat.beq (k + 1) (k + 1) = true := Nat.beq_refl _
      simp only [aq_set, hq, cond_true] at he0
      cases he0
      exact ⟨hl, he⟩
    · have hne : Nat.beq (k + 1) a = false := by
        cases hq : Nat.beq (k + 1) a with
        | false => rfl
        | true => exact absurd (Nat.eq_of_beq_eq_true hq) hk
      simp only [aq_set, hne, cond_false] at he0
      obtain ⟨g1, g2⟩ := h5 k e0 he0
      exact ⟨g1, g2.kept (oq _ (by show β + (k + 1) ≠ _; omega))⟩
/-- a cell is made -/
theorem aq_R_mk (h : aq_R D cA b β U S H) {e : aq_E} {n : Nat} {H1 : Heap} (hx : S.2.1 = 0) (z : H1.size = H.size + 1) (oq : ∀ q : Nat, q < H.size → H1[q]? = H[q]?) (hb : b ≤ β) (he : va_at D aq_cl (H.size, aq_cE cA b β e) H1) : aq_R D cA b β U (aq_mk S e n) H1 ∧ aq_rho b β S.1 = H.size := by
  obtain ⟨h1, h2, h3, h4, h5⟩ := h
  have hz := h2 hx
  refine ⟨⟨by rw [z]; show β + (S.1 + 1) ≤ _; omega, fun _ => by rw [z]; show _ = β + (S.1 + 1); omega, Nat.le_add_left 1 S.1, fun e0 he0 => ?_, fun k e0 he0 => ?_⟩, by rw [hz]; exact if_neg (by omega)⟩
  · have hne : Nat.beq 0 S.1 = false := by
      cases hq : Nat.beq 0 S.1 with
      | false => rfl
      | true => have := Nat.eq_of_beq_eq_true hq; omega
    simp only [aq_mk, hne, cond_false] at he0
    obtain ⟨n, xs, e1, e2⟩ := h4 e0 he0
    exact ⟨n, xs, e1, e2.kept (oq b (by omega))⟩
  · by_cases hk : k + 1 = S.1
    · have hq : Nat.beq (k + 1) S.1 = true := by rw [hk]; exact Nat.beq_refl _
      simp only [aq_mk, hq, cond_true] at he0
      cases he0
      refine ⟨by show k + 1 < S.1 + 1; omega, ?_⟩
      rw [hk, ← hz]; exact he
    · have hne : Nat.beq (k + 1) S.1 = false := by
        cases hq : Nat.beq (k + 1) S.1 with
        | false => rfl
        | true => exact absurd (Nat.eq_of_beq_eq_true hq) hk
      simp only [aq_mk, hne, cond_false] at he0
      obtain ⟨g1, g2⟩ := h5 k e0 he0
      exact ⟨by show k + 1 < S.1 + 1; omega, g2.kept (oq _ (by show β + (k + 1) < _; omega))⟩
/-- more cells behind -/
theorem aq_R_more (h : aq_R D cA b β U S H) {H1 : Heap} {k : Nat} (z : H.size ≤ H1.size) (oq : ∀ q : Nat, q < H.size → H1[q]? = H[q]?) (hb : b ≤ β) (hk : k ≠ 0) : aq_R D cA b β U (S.1, S.2.1 + k, S.2.2.1 + 6, S.2.2.2) H1 := by
  obtain ⟨h1, h2, h3, h4, h5⟩ := h
  refine ⟨by show β + S.1 ≤ _; omega, fun q => by have : S.2.1 + k = 0 := q; omega, h3, fun e he => ?_, fun k e he => ?_⟩
  · obtain ⟨n, xs, e1, e2⟩ := h4 e he
    exact ⟨n, xs, e1, e2.kept (oq b (by omega))⟩
  · obtain ⟨g1, g2⟩ := h5 k e he
    exact ⟨g1, g2.kept (oq _ (by show β + (k + 1) < _; have : k + 1 < S.1 := g1; omega))⟩
theorem aq_P1 {q : Nat × va_E} (h : va_at D aq_cl q H) : va_P D aq_cl [q] H := fun k x hx => by
  have hz : k < 1 := (List.getElem?_eq_some_iff.mp hx).1
  rw [show k = 0 by omega] at hx
  cases hx
  exact h
end
section
variable {T : Nat → Nat → Option aq_Op} {Nl : Nat → Nat} {Ms : Nat → aq_M} {nc : List (String × String)} {strs : List (Nat × String)} {cc : ByteArray} {nL : Nat} {own mn : String} {ret : Option FieldType} {hh : List (Nat × Nat × Nat × Nat)} {pc n : Nat}
theorem so_gf {ci k idx : Nat} {C : String} {TT : u_T} {N : Nat} (hd : decode cc pc = .ok (.getfield idx, 3)) (hc : aq_cl[ci]? = some (C, TT, N)) (hk : k < N) (hin : ∀ w ∈ u_ws C TT N, w ∈ aq_WA) (hw : Jvm.Cond.fieldLink own idx (TT k).1 (TT k).2.1 (TT k).2.2.1 ∈ lw_tbl) : aq_SOp T Nl Ms nc strs cc nL own mn ret hh pc (aq_gf ci k (pc + 3)) := by
  intro p l e R s m args below meth c D cA b β d S0 S' o C0 IH K L st S hK h
  obtain ⟨hx, hb, hr, hml, hown, hlk, hts, hV, -⟩ := C0
  obtain ⟨a, r, fs, v, rfl, ha, hv, h⟩ := h
  obtain ⟨h1, h2, h3, h4⟩ := hK _ _ _ _ h
  refine ⟨h1, h2, h3, fun H locs cells slots ls hR hS hl e1 e2 => ?_⟩
  obtain ⟨g1, g2, g3, g4⟩ := aq_R_obj hR ha
  have kk := h4 H locs cells slots ls hR hS hl e1 e2
  rw [List.map_cons] at kk ⊢
  show W p l e R s m args below meth c H locs cells slots _ (F0 m pc ls (.ref (aq_rho b β a) :: r.map (aq_cV b β)))
  rw [g1]
  exact va_get (ws := [(β + a, .inr (ci, fs.map (aq_cV b β)))]) hx hb hts hin hown hV.1 (aq_P1 g4) 0 rfl hc k hk (hts _ (List.mem_filter.mpr ⟨hw, rfl⟩)) (fun _ z => z) (by rw [List.getElem?_map, hv]; rfl) hd kk
theorem aq_fit_ok {t b β : Nat} {v : Value} {ft : FieldType} (h : aq_fit t v) (ht : (t = 0 ∧ ft = .int) ∨ (t = 1 ∧ ft = .long) ∨ (t = 3 ∧ ft = .double) ∨ (t = 5 ∧ ft = .boolean) ∨ (t = 4 ∧ ((∃ C, ft = .object C) ∨ ∃ e, ft = .array e))) : narrow ft (aq_cV b β v) = aq_cV b β v ∧ fits ft (aq_cV b β v) = true := by
  rcases ht with ⟨rfl, rfl⟩ | ⟨rfl, rfl⟩ | ⟨rfl, rfl⟩ | ⟨rfl, rfl⟩ | ⟨rfl, ⟨C, rfl⟩ | ⟨C, rfl⟩⟩
  · cases v <;> first | cases h; done | exact ⟨rfl, rfl⟩
  · cases v <;> first | cases h; done | exact ⟨rfl, rfl⟩
  · cases v <;> first | cases h; done | exact ⟨rfl, rfl⟩
  · cases v with
    | int x =>
      rcases h with rfl | rfl
      · exact (by decide +kernel : narrow .boolean (.int 0) = .int 0 ∧ fits .boolean (.int 0) = true)
      · exact (by decide +kernel : narrow .boolean (.int 1) = .int 1 ∧ fits .boolean (.int 1) = true)
    | _ => cases h
  · cases v <;> first | cases h; done | exact ⟨rfl, rfl⟩
  · cases v <;> first | cases h; done | exact ⟨rfl, rfl⟩
/-- a field is written: 'fin' tells whether it is final (in its own constructor) -/
theorem so_pf {ci k idx ty : Nat} {C : String} {TT : u_T} {N : Nat} {ft : FieldType} {tys : Nat → FieldType} (hd : decode cc pc = .ok (.putfield idx, 3)) (hc : aq_cl[ci]? = some (C, TT, N)) (hk : k < N) (hin : ∀ w ∈ u_ws C TT N, w ∈ aq_WA) (hw : Jvm.Cond.fieldLink own idx (TT k).1 (TT k).2.1 (TT k).2.2.1 ∈ lw_tbl)
    (hnm : ∀ a, a < N → ∀ b, b < N → a ≠ b → (TT a).2.1 ≠ (TT b).2.1) (hty : ∀ k, k < N → parseFieldDescriptor (TT k).2.2.1 = some (tys k)) (hft : tys k = ft) (ht : (ty = 0 ∧ ft = .int) ∨ (ty = 1 ∧ ft = .long) ∨ (ty = 3 ∧ ft = .double) ∨ (ty = 5 ∧ ft = .boolean) ∨ (ty = 4 ∧ ((∃ C, ft = .object C) ∨ ∃ e, ft = .array e))) (hfin : (TT k).2.2.2 = false ∨ ((TT k).2.2.2 = true ∧ mn = "<init>" ∧ (TT k).1 = own)) : aq_SOp T Nl Ms nc strs cc nL own mn ret hh pc (aq_pf ci k ty (pc + 3)) := by
  intro p l e R s m args below meth c D cA b β d S0 S' o C0 IH K L st S hK h
  obtain ⟨hx, hb, hr, hml, hown, hlk, hts, hV, hbβ, hβs, hst0, het, hmn, -⟩ := C0
  obtain ⟨v, a, r, fs, rfl, ha, hlen, hfit, h⟩ := h
  obtain ⟨h1, h2, h3, h4⟩ := hK _ _ _ _ h
  refine ⟨h1, h2, h3, fun H locs cells slots ls hR hS hl e1 e2 => ?_⟩
  obtain ⟨g1, g2, g3, g4⟩ := aq_R_obj hR ha
  rw [List.map_cons, List.map_cons]
  show W p l e R s m args below meth c H locs cells slots _ (F0 m pc ls (aq_cV b β v :: .ref (aq_rho b β a) :: r.map (aq_cV b β)))
  rw [g1]
  obtain ⟨n1, n2⟩ := aq_fit_ok (b := b) (β := β) hfit ht
  have hP := aq_P1 g4
  have hDw : va_D (fun q => β < q) [(β + a, .inr (ci, fs.map (aq_cV b β)))] := ⟨fun i j x y hi hj _ => by
      have := (List.getElem?_eq_some_iff.mp hi).1
      have := (List.getElem?_eq_some_iff.mp hj).1
      simp only [List.length_cons, List.length_nil] at *
      omega, fun k x hx => by
      have hz : k < 1 := (List.getElem?_eq_some_iff.mp hx).1
      rw [show k = 0 by omega] at hx
      cases hx
      show β < β + a
      omega⟩
  have hap := va_apart (own := own) hts hin tys hty hnm hV.1 hc
  obtain ⟨r0, k1, cell, q1, q2, q3, q4⟩ := hP 0 _ rfl
  have hr0 : r0 = (C, TT, N) := Option.some.inj (k1.symm.trans hc)
  subst hr0
  obtain ⟨hSl, hfc, kC, hkC, hkind⟩ := hV.1.1 ci _ hc
  obtain ⟨cf, kf, fi, f, hi, hsl⟩ := hSl k hk
  have hlay := hts _ (hin _ (u_in_lay hk))
  have hst := (u_facts hfc hkC (u_lays hts hin hk) hi).1
  have hlw := hts _ (List.mem_filter.mpr ⟨hw, rfl⟩)
  have hln : k < (fs.map (aq_cV b β)).length := by rw [List.length_map]; exact hlen
  have hmap : (fs.set k v).map (aq_cV b β) = (fs.map (aq_cV b β)).set k (aq_cV b β v) := by rw [List.map_set]
  have fin : ∀ (H' : Heap), H'[β + a]? = some (cell.setSlot (D.2 ci k) (aq_cV b β v)) → H'.size = H.size → (∀ q : Nat, q ≠ β + a → H'[q]? = H[q]?) → W p l e R s m args below meth c H' (locs ++ [⟨β + a, D.2 ci k⟩]) cells slots (vx_MQ below (aq_Qc D cA b β o S') (aq_XC D cA b β o S') args s R.cells R.slots (fun q => β < q)) (F0 m (pc + 3) ls (r.map (aq_cV b β))) := by
    intro H' e1' e2' e3'
    refine h4 H' _ cells slots ls (aq_R_set hR g2 g3 e2' e3' hbβ ?_) (hS.put e2' e3' (by show β < β + a; omega)) hl e1 e2
    show va_at D aq_cl (β + a, .inr (ci, (fs.set k v).map (aq_cV b β))) H'
    rw [hmap]
    exact ⟨_, hc, t_OB.to (V := updV (vp_V (fs.map (aq_cV b β))) k (aq_cV b β v)) ⟨_, e1', q2, q3, t_set q4 hap hk _⟩ (fun j _ => vp_updV_set hln _ j)⟩
  rcases hfin with hf | ⟨hf, hm1, hdecl⟩
  · unfold u_lay at hlay
    rw [if_neg (by rw [hf]; decide)] at hlay
    have h6 := u_store hfc hkC hkind hlay hi ((hty k hk).trans (congrArg some hft)) n1 n2
    refine W.putK hx hb (f := f) ⟨hown, hlw, ⟨_, _, _, hi⟩, hst⟩ (by rw [q2]; exact h6) q1 q3 (by rw [hsl]; exact k2_hasslot (q4 k hk)) rfl rfl hd fun H' e1' e2' e3' => ?_
    rw [hsl] at e1' ⊢
    exact fin H' e1' e2' e3'
  · unfold u_lay at hlay
    rw [if_pos hf] at hlay
    have hcf : m.cls = cf := by
      obtain ⟨_, _, c', _, _, _, -, -, hf', -, -, -, hown2, -⟩ := Cond.laysFinal_spec hlay
      have e1 : c' = cf := by have := hi.symm.trans hf'; simp at this; exact this.1.symm
      rw [hdecl] at hown2
      rw [← e1]; exact Option.some.inj (hown.symm.trans hown2)
    have h6 := u_fits hfc hkC hkind (Or.inr hlay) hi ((hty k hk).trans (congrArg some hft)) n1 n2
    refine W.putFinK hx hb hown hlw hi hst hcf (hmn.trans hm1) (by rw [q2]; exact h6) q1 q3 (by rw [hsl]; exact k2_hasslot (q4 k hk)) rfl rfl hd fun H' e1' e2' e3' => ?_
    rw [hsl] at e1' ⊢
    exact fin H' e1' e2' e3'
end
