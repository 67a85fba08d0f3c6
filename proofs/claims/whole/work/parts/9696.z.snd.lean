/-! ===== the soundness again, by the method's own name (a method of Float has no native row, though its class has some) ===== -/
section
theorem vx_ofW2 {l : Launch} {y : MethodName} {ws ws' : List Cond} {rm : Room} {Pc : Array Value → State → Prop} {Qc : Array Value → State → Outcome → State → Prop} {XC : String → State → State → Prop} {mc ms : Nat} {free : Addr → Prop} {cc : ByteArray} {maxL : Nat} {ret : Option FieldType}
    (hy : plainFor y = true) (hw : ws = Cond.code y cc maxL ret :: ws')
    (body : ∀ p e s m args below meth c s₁, BodyLoose p l y (headSpec ws rm) cc maxL ret e s m args below meth c s₁ → c.maxLocals = maxL → (∀ x ∈ c.exceptionTable.toList, False) → Pc args s →
      W p l e (headSpec ws rm).room s m args below meth c s.heap [] 0 0 (vx_MQ below Qc XC args s mc ms free) (entryFrame m args maxL)) : vx_Met l y ws rm Pc Qc XC mc ms free := by
  refine MetFree.of_bodySF (code := cc) (maxLocals := maxL) (ret := ret) hy ?_ ?_
  · intro args s m h hn
    obtain ⟨meth, c, h1, h2, h3, h4, h5, h6, -, -⟩ := Cond.code_spec hn (atoms_spec (ws := ws) h _ (by rw [hw]; exact List.mem_cons_self))
    exact ⟨meth, c, h1, h2, h3, h4, h5, h6⟩
  · intro p e s m args below meth c s₁ B hml hP _
    have hh0 : s₁.heap = s.heap := by rw [B.state]; rfl
    have ht : ∀ x ∈ c.exceptionTable.toList, False := by
      obtain ⟨meth9, c9, h1, h2, -, -, -, -, h7, -⟩ := Cond.code_spec B.named (atoms_spec (ws := ws) B.pre _ (by rw [hw]; exact List.mem_cons_self))
      cases Option.some.inj (h1.symm.trans B.method)
      cases Option.some.inj (h2.symm.trans (Stand.of_body B).code)
      intro x hx
      rw [Array.isEmpty_iff.mp h7] at hx
      cases hx
    obtain ⟨t, a1, o, b1, b2, b3⟩ := body p e s m args below meth c s₁ B hml ht hP s₁ hh0 (Stand.of_body B)
    exact ⟨t, o, a1, b1, b2, b3⟩
theorem vx_ofWH2 {l : Launch} {y : MethodName} {ws ws' : List Cond} {rm : Room} {Pc : Array Value → State → Prop} {Qc : Array Value → State → Outcome → State → Prop} {XC : String → State → State → Prop} {mc ms : Nat} {free : Addr → Prop} {cc : ByteArray} {maxL : Nat} {ret : Option FieldType} {hh : List (Nat × Nat × Nat × Nat)}
    (hy : plainFor y = true) (hw : ws = Cond.codeWith y cc maxL ret hh :: ws')
    (body : ∀ p e s m args below meth c s₁, BodyLoose p l y (headSpec ws rm) cc maxL ret e s m args below meth c s₁ → c.maxLocals = maxL → Pc args s →
      W p l e (headSpec ws rm).room s m args below meth c s.heap [] 0 0 (vx_MQ below Qc XC args s mc ms free) (entryFrame m args maxL)) : vx_Met l y ws rm Pc Qc XC mc ms free := by
  refine MetFree.of_bodySF (code := cc) (maxLocals := maxL) (ret := ret) hy ?_ ?_
  · intro args s m h hn
    obtain ⟨m9, meth, c, hn9, h1, h2, h3, h4, -, h5, h6, -⟩ := Cond.codeWith_spec (atoms_spec (ws := ws) h _ (by rw [hw]; exact List.mem_cons_self))
    cases hn.symm.trans hn9
    exact ⟨meth, c, h1, h2, h3, h4, h5, h6⟩
  · intro p e s m args below meth c s₁ B hml hP _
    have hh0 : s₁.heap = s.heap := by rw [B.state]; rfl
    obtain ⟨t, a1, o, b1, b2, b3⟩ := body p e s m args below meth c s₁ B hml hP s₁ hh0 (Stand.of_body B)
    exact ⟨t, o, a1, b1, b2, b3⟩
variable {T : Nat → Nat → Option aq_Op} {Nl : Nat → Nat} {Ms : Nat → aq_M} {nc : List (String × String)} {strs : List (Nat × String)}
/-- what is decided of a method's table -/
def aq_Ok2 (T : Nat → Nat → Option aq_Op) (Nl : Nat → Nat) (Ms : Nat → aq_M) (nc : List (String × String)) (strs : List (Nat × String)) (y : Nat) : Prop :=
  plainFor (Ms y).1 = true ∧ Nl y = (Ms y).2.2.1 ∧ ∀ (pc : Nat) (op : aq_Op), T y pc = some op → aq_SOp T Nl Ms nc strs (Ms y).2.1 (Ms y).2.2.1 (Ms y).1.cls (Ms y).1.name (Ms y).2.2.2.1 (Ms y).2.2.2.2 pc op
theorem aq_meth2 {l : Launch} (hst : l.stackTraces = false) {D : va_G} {cA : Nat → ClassId} {b β d y : Nat} (hbβ : b ≤ β) (hok : (∃ pc op, T y pc = some op) → aq_Ok2 T Nl Ms nc strs y) (IH : aq_IH T Nl Ms l D cA nc strs b β d) {As : List Value} {S S' : aq_S} {o : aq_O} (h : aq_Ex T Nl (d + 1) y As S o S') :
    aq_le S S' ∧ vx_Met l (Ms y).1 (aq_cw (Ms y) :: aq_WA) (aq_rm (d + 1) ((S'.1 + S'.2.1) - (S.1 + S.2.1)) (S'.2.2.1 - S.2.2.1)) (aq_Pc D cA nc strs b β As S) (aq_Qc D cA b β o S') (aq_XC D cA b β o S') ((S'.1 + S'.2.1) - (S.1 + S.2.1)) (S'.2.2.1 - S.2.2.1) (fun q => β < q) := by
  obtain ⟨⟨hlen, hle⟩, hW⟩ := h
  obtain ⟨hle1, hle2, hle3⟩ := id hle
  refine ⟨hle, ?_⟩
  have hok' : aq_Ok2 T Nl Ms nc strs y := hok (by
    refine Classical.byContradiction fun hno => ?_
    exact hW (fun _ _ _ _ => False) (fun pc L st S op K hm _ _ => hno ⟨pc, op, hm⟩))
  obtain ⟨hpl, hNl, hall⟩ := hok'
  obtain ⟨yN, cc, nL, ret, hh, hM⟩ : ∃ yN cc nL ret hh, Ms y = (yN, cc, nL, ret, hh) := ⟨_, _, _, _, _, rfl⟩
  rw [hM] at hpl hNl hall ⊢
  dsimp only at hpl hNl hall ⊢
  have key : ∀ (p : Program) (e : Env) (s : State) (m : MethodId) (args : Array Value) (below : List Frame) (meth : Method) (c : Code) (s₁ : State) (ws : List Jvm.Cond),
      BodyLoose p l yN (headSpec ws (aq_rm (d + 1) ((S'.1 + S'.2.1) - (S.1 + S.2.1)) (S'.2.2.1 - S.2.2.1))) cc nL ret e s m args below meth c s₁ → c.maxLocals = nL → c.exceptionTable.toList = tableOf hh → (∀ w ∈ aq_WA, w ∈ ws) → aq_Pc D cA nc strs b β As S args s →
      W p l e (headSpec ws (aq_rm (d + 1) ((S'.1 + S'.2.1) - (S.1 + S.2.1)) (S'.2.2.1 - S.2.2.1))).room s m args below meth c s.heap [] 0 0 (vx_MQ below (aq_Qc D cA b β o S') (aq_XC D cA b β o S') args s ((S'.1 + S'.2.1) - (S.1 + S.2.1)) (S'.2.2.1 - S.2.2.1) (fun q => β < q)) (entryFrame m args nL) := by
    intro p e s m args below meth c s₁ ws B hml htab hws hP
    obtain ⟨rfl, hR, hV⟩ := hP
    have hts0 := atoms_spec (ws := ws) B.pre
    have C : aq_CX p l (aq_rm (d + 1) ((S'.1 + S'.2.1) - (S.1 + S.2.1)) (S'.2.2.1 - S.2.2.1)) s m (As.map (aq_cV b β)).toArray meth c D cA nc strs b β d S S' cc nL yN.cls yN.name ret hh :=
      ⟨B.exec, B.bytes, B.returns, hml, findClass_of_methodNamed B.named, B.notSynchronized, fun w hw => hts0 w (hws w hw), hV, hbβ, by have := hR.1; have := hR.2.2.1; omega, hst, htab, (name_of_methodNamed B.named B.method).1, Nat.le_refl _, by show _ ≤ 64 * (d + 1) + 200; omega, by show _ ≤ S.1 + S.2.1 + ((S'.1 + S'.2.1) - (S.1 + S.2.1)); omega, by show _ ≤ S.2.2.1 + (S'.2.2.1 - S.2.2.1); omega⟩
    have w := hW (aq_WW p l e (aq_rm (d + 1) ((S'.1 + S'.2.1) - (S.1 + S.2.1)) (S'.2.2.1 - S.2.2.1)) s m (As.map (aq_cV b β)).toArray below meth c D cA b β nL S S' (vx_MQ below (aq_Qc D cA b β o S') (aq_XC D cA b β o S') (As.map (aq_cV b β)).toArray s ((S'.1 + S'.2.1) - (S.1 + S.2.1)) (S'.2.2.1 - S.2.2.1) (fun q => β < q)))
      (fun pc L st S1 op K hm hK ho => hall pc op hm p l e _ s m _ below meth c D cA b β d S S' o C IH K L st S1 hK ho)
    have hl := lv_entry (As.map (aq_cV b β)) (n := nL) (by rw [aq_sl_len]; omega)
    rw [lg_entry_eq]
    rw [aq_args] at hl
    exact w.2.2.2 s.heap [] 0 0 _ hR va_S.rf hl rfl rfl
  cases hh with
  | nil =>
    refine vx_ofW2 (cc := cc) (maxL := nL) (ret := ret) hpl rfl fun p e s m args below meth c s₁ B hml hno hP => key p e s m args below meth c s₁ _ B hml ?_ (fun w hw => List.mem_cons_of_mem _ hw) hP
    show _ = []
    cases hx : c.exceptionTable.toList with
    | nil => rfl
    | cons x t => exact (hno x (by rw [hx]; exact List.mem_cons_self)).elim
  | cons h1 hr =>
    refine vx_ofWH2 (cc := cc) (maxL := nL) (ret := ret) (hh := h1 :: hr) hpl rfl fun p e s m args below meth c s₁ B hml hP => key p e s m args below meth c s₁ _ B hml ?_ (fun w hw => List.mem_cons_of_mem _ hw) hP
    exact vx_table (x := yN) B (atoms_spec B.pre _ List.mem_cons_self)
/-- every run of the abstract machine is a contract of the real one -/
theorem aq_sound2 {l : Launch} (hst : l.stackTraces = false) {D : va_G} {cA : Nat → ClassId} {b β : Nat} (hbβ : b ≤ β) (hok : ∀ y, (∃ pc op, T y pc = some op) → aq_Ok2 T Nl Ms nc strs y) : ∀ d, aq_IH T Nl Ms l D cA nc strs b β d
  | 0 => fun y As S o S' h => h.elim
  | d + 1 => fun y As S o S' h => aq_meth2 hst hbβ (hok y) (aq_sound2 hst hbβ hok d) h
end
