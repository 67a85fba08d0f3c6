/-! ===== a method whose rules hold keeps its contract; all of them, by the depth of calls ===== -/
section
theorem aq_sl_len (b β : Nat) (As : List Value) : (lg_sl (As.map (aq_cV b β))).length = (lg_sl As).length := by
  induction As with
  | nil => rfl
  | cons v As ih =>
    unfold lg_sl at ih ⊢
    rw [List.map_cons, List.flatMap_cons, List.flatMap_cons, List.length_append, List.length_append, ih]
    cases v <;> rfl
theorem aq_args (b β : Nat) (As : List Value) (i : Nat) : lv_args i (As.map (aq_cV b β)) = aq_mL b β (lv_args i As) := by
  induction As generalizing i with
  | nil => rfl
  | cons v As ih =>
    rw [List.map_cons]
    unfold lv_args
    rw [ih, aq_cV_cat]
    rfl
variable {T : Nat → Nat → Option aq_Op} {Nl : Nat → Nat} {Ms : Nat → aq_M} {nc : List (String × String)} {strs : List (Nat × String)}
/-- what is decided of a method's table -/
def aq_Ok (T : Nat → Nat → Option aq_Op) (Nl : Nat → Nat) (Ms : Nat → aq_M) (nc : List (String × String)) (strs : List (Nat × String)) (y : Nat) : Prop :=
  plainName (Ms y).1.cls = true ∧ Nl y = (Ms y).2.2.1 ∧ ∀ (pc : Nat) (op : aq_Op), T y pc = some op → aq_SOp T Nl Ms nc strs (Ms y).2.1 (Ms y).2.2.1 (Ms y).1.cls (Ms y).1.name (Ms y).2.2.2.1 (Ms y).2.2.2.2 pc op
theorem aq_meth {l : Launch} (hst : l.stackTraces = false) {D : va_G} {cA : Nat → ClassId} {b β d y : Nat} (hbβ : b ≤ β) (hok : (∃ pc op, T y pc = some op) → aq_Ok T Nl Ms nc strs y) (IH : aq_IH T Nl Ms l D cA nc strs b β d) {As : List Value} {S S' : aq_S} {o : aq_O} (h : aq_Ex T Nl (d + 1) y As S o S') :
    aq_le S S' ∧ vx_Met l (Ms y).1 (aq_cw (Ms y) :: aq_WA) (aq_rm (d + 1) ((S'.1 + S'.2.1) - (S.1 + S.2.1)) (S'.2.2.1 - S.2.2.1)) (aq_Pc D cA nc strs b β As S) (aq_Qc D cA b β o S') (aq_XC D cA b β o S') ((S'.1 + S'.2.1) - (S.1 + S.2.1)) (S'.2.2.1 - S.2.2.1) (fun q => β < q) := by
  obtain ⟨⟨hlen, hle⟩, hW⟩ := h
  obtain ⟨hle1, hle2, hle3⟩ := id hle
  refine ⟨hle, ?_⟩
  have hok' : aq_Ok T Nl Ms nc strs y := hok (by
    refine Classical.byContradiction fun hno => ?_
    exact hW (fun _ _ _ _ => False) (fun pc L st S op K hm _ _ => hno ⟨pc, op, hm⟩))
  obtain ⟨hpl, hNl, hall⟩ := hok'
  obtain ⟨yN, cc, nL, ret, hh, hM⟩ : ∃ yN cc nL ret hh, Ms y = (yN, cc, nL, ret, hh) := ⟨_, _, _, _, _, rfl⟩
  rw [hM] at hpl hNl hall ⊢
  dsimp only at hpl hNl hall ⊢
  have key : ∀ (p : Program) (e : Env) (s : State) (m : MethodId) (args : Array Value) (below : List Frame) (meth : Method) (c : Code) (s₁ : State) (ws : List Jvm.Cond),
      BodyLoose p l yN (headSpec ws (aq_rm (d + 1) ((S'.1 + S'.2.1) - (S.1 + S.2.1)) (S'.2.2.1 - S.2.2.1))) cc nL ret e s m args below meth c s₁ → c.maxLocals = nL → c.exceptionTable.toList = tableOf hh → (∀ w ∈ aq_WA, w ∈ ws) → aq_Pc D cA nc strs b β As S args s →
      W p l e (headSpec ws (aq_rm (d + 1) ((S'.1 + S'.2.1) - (S.1 + S.2.1)) (S'.2.2.1 - S.2.2.1))).room s m args below meth c s.heap [] 0 0 (vx_MQ below (aq_Qc D cA b β o S') (aq_XC D cA b β o S') args s ((S'.1 + S'.2.1) - (S.1 + S.2.1)) (S'.2.2.1 - S.2.2.1) (fun q => β < q)) (entryFrame m args nL) := by
    intro p e s m args below meth c s₁ ws B hml htab hws hP
    obtain ⟨rfl, hR, hV⟩ := hP
    have hts0 := atoms_spec (ws := ws) B.pre
    have C : aq_CX p l (aq_rm (d + 1) ((S'.1 + S'.2.1) - (S.1 + S.2.1)) (S'.2.2.1 - S.2.2.1)) s m (As.map (aq_cV b β)).toArray meth c D cA nc strs b β d S S' cc nL yN.cls yN.name ret hh :=
      ⟨B.exec, B.bytes, B.returns, hml, findClass_of_methodNamed B.named, B.notSynchronized, fun w hw => hts0 w (hws w hw), hV, hbβ, by have := hR.1; have := hR.2.2.1; omega, hst, htab, (name_of_methodNamed B.named B.method).1, Nat.le_refl _, by show _ ≤ 64 * (d + 1) + 200; omega, by show _ ≤ S.1 + S.2.1 + ((S'.1 + S'.2.1) - (S.1 + S.2.1)); omega, by show _ ≤ S.2.2.1 + (S'.2.2.1 - S.2.2.1); omega⟩
    have w := hW (aq_WW p l e (aq_rm (d + 1) ((S'.1 + S'.2.1) - (S.1 + S.2.1)) (S'.2.2.1 - S.2.2.1)) s m (As.map (aq_cV b β)).toArray below meth c D cA b β nL S S' (vx_MQ below (aq_Qc D cA b β o S') (aq_XC D cA b β o S') (As.map (aq_cV b β)).toArray s ((S'.1 + S'.2.1) - (S.1 + S.2.1)) (S'.2.2.1 - S.2.2.1) (fun q => β < q)))
      (fun pc L st S1 op K hm hK ho => hall pc op hm p l e _ s m _ below meth c D cA b β d S S' o C IH K L st S1 hK ho)
    have hl := lv_entry (As.map (aq_cV b β)) (n := nL) (by rw [aq_sl_len]; omega)
    rw [lg_entry_eq]
    rw [aq_args] at hl
    exact w.2.2.2 s.heap [] 0 0 _ hR va_S.rf hl rfl rfl
  cases hh with
  | nil =>
    refine vx_ofW (cc := cc) (maxL := nL) (ret := ret) hpl rfl fun p e s m args below meth c s₁ B hml hno hP => key p e s m args below meth c s₁ _ B hml ?_ (fun w hw => List.mem_cons_of_mem _ hw) hP
    show _ = []
    cases hx : c.exceptionTable.toList with
    | nil => rfl
    | cons x t => exact (hno x (by rw [hx]; exact List.mem_cons_self)).elim
  | cons h1 hr =>
    refine vx_ofWH (cc := cc) (maxL := nL) (ret := ret) (hh := h1 :: hr) hpl rfl fun p e s m args below meth c s₁ B hml hP => key p e s m args below meth c s₁ _ B hml ?_ (fun w hw => List.mem_cons_of_mem _ hw) hP
    exact vx_table (x := yN) B (atoms_spec B.pre _ List.mem_cons_self)
/-- every run of the abstract machine is a contract of the real one -/
theorem aq_sound {l : Launch} (hst : l.stackTraces = false) {D : va_G} {cA : Nat → ClassId} {b β : Nat} (hbβ : b ≤ β) (hok : ∀ y, (∃ pc op, T y pc = some op) → aq_Ok T Nl Ms nc strs y) : ∀ d, aq_IH T Nl Ms l D cA nc strs b β d
  | 0 => fun y As S o S' h => h.elim
  | d + 1 => fun y As S o S' h => aq_meth hst hbβ (hok y) (aq_sound hst hbβ hok d) h
end
