/-! ===== the abstract machine's rules hold of the real one: the relation, the context ===== -/
section
abbrev aq_cl : List vw_C := [(RX0, TX0, 3), (RX1, TX1, 4), (RX2, TX2, 3), (RX3, TX3, 10), (RX4, TX4, 12), (RX5, TX5, 2), (RX6, TX6, 9), (RX7, TX7, 29)]
abbrev aq_tys (cA : Nat → ClassId) : List (ClassId × FieldType) := [(cA 0, .int), (cA 1, .long), (cA 2, .double), (cA 3, .boolean), (cA 4, .object RX1), (cA 5, .object RX5)]
/-- where a numbered cell lies: the script is cell 0 -/
def aq_rho (b β k : Nat) : Nat := if k = 0 then b else β + k
def aq_cV (b β : Nat) (v : Value) : Value := match v with
  | .ref a => .ref (aq_rho b β a)
  | v => v
def aq_cD (b β : Nat) (x : (Nat → Int32) ⊕ (Nat → Int64) ⊕ (Nat → UInt32) ⊕ (Nat → UInt64) ⊕ (Nat → Option Nat)) : (Nat → Int32) ⊕ (Nat → Int64) ⊕ (Nat → UInt32) ⊕ (Nat → UInt64) ⊕ (Nat → Option Nat) := match x with
  | .inr (.inr (.inr (.inr f))) => .inr (.inr (.inr (.inr (fun j => (f j).map (aq_rho b β)))))
  | x => x
def aq_cE (cA : Nat → ClassId) (b β : Nat) (x : aq_E) : va_E := match x with
  | .inl (kd, n, d) => .inl (cA kd, n, aq_cD b β d)
  | .inr (ci, fs) => .inr (ci, fs.map (aq_cV b β))
def aq_R (D : va_G) (cA : Nat → ClassId) (b β : Nat) (U : State) (S : aq_S) (H : Heap) : Prop :=
  β + S.1 ≤ H.size ∧ (S.2.1 = 0 → H.size = β + S.1) ∧ 1 ≤ S.1 ∧ (∀ e, S.2.2.2 0 = some e → ∃ n xs, e = .inl (0, (n, .inl xs)) ∧ va_X b n xs U H) ∧
  ∀ k e, S.2.2.2 (k + 1) = some e → k + 1 < S.1 ∧ va_at D aq_cl (β + (k + 1), aq_cE cA b β e) H
/-- the tables' words that are not kept by every warming, but by one of their own -/
def aq_bad : Jvm.Cond → Bool
  | .castable .. => true
  | .declares _ => true
  | .methodLinkNest .. => true
  | .fieldLinkNest .. => true
  | _ => false
theorem aq_bad_warm {w : Jvm.Cond} (hw : aq_bad w = true) {s U : State} (hW : s.WarmedH U.vm) (h : va_Nw w s) : va_Nw w U := by
  cases w <;> first | exact va_Nw.warmC hW h | exact va_Nw.warmD hW h | exact va_Nw.warmM hW h | exact va_Nw.warmF hW h | cases hw
theorem aq_bad_tab {w : Jvm.Cond} (hw : aq_bad w = true) : w.onTables = true := by
  cases w <;> first | rfl | cases hw
abbrev aq_WA : List Jvm.Cond := lw_tbl.filter goodWord
def aq_V (D : va_G) (cA : Nat → ClassId) (nc : List (String × String)) (strs : List (Nat × String)) (β : Nat) (U : State) (H : Heap) : Prop :=
  va_K D aq_cl (aq_tys cA) U ∧ (∀ w ∈ lw_tbl, aq_bad w = true → va_Nw w U) ∧ (∀ q ∈ nc, va_Nc q.1 q.2 U) ∧ (∀ q ∈ strs, ∃ sa, vk_R RX6 q.1 q.2 sa U) ∧
  vx_Zq Bundle.tN "UNASSIGNED_STACK" Bundle.steD (fun q => β < q) U H ∧ vx_Zq Bundle.tN "SUPPRESSED_SENTINEL" Bundle.listD (fun q => β < q) U H ∧ va_AO RX1 U ∧ va_AO RX5 U
theorem aq_V.to {D : va_G} {cA : Nat → ClassId} {nc : List (String × String)} {strs : List (Nat × String)} {β : Nat} {s U : State} {H H1 : Heap} (hW : s.WarmedH U.vm) (hk : ∀ q : Nat, q < H.size → ¬ β < q → H1[q]? = H[q]?) (h : aq_V D cA nc strs β s H) : aq_V D cA nc strs β U H1 := by
  obtain ⟨h1, h2, h3, h4, h5, h6, h7, h8⟩ := h
  exact ⟨va_K.moved hW.alike h1, fun w hw hb => aq_bad_warm hb hW (h2 w hw hb), fun q hq => va_Nc.moved hW.alike (h3 q hq), fun q hq => by obtain ⟨sa, h⟩ := h4 q hq; exact ⟨sa, vk_R.warm hW h⟩, vx_Zq.moved hW.alike (h5.kept hk), vx_Zq.moved hW.alike (h6.kept hk), va_AO.moved hW.alike h7, va_AO.moved hW.alike h8⟩
theorem aq_R.to {D : va_G} {cA : Nat → ClassId} {b β : Nat} {s U : State} {S : aq_S} {H : Heap} (hvm : s.vm.Alike U.vm) (h : aq_R D cA b β s S H) : aq_R D cA b β U S H := by
  obtain ⟨h1, h2, h3, h4, h5⟩ := h
  exact ⟨h1, h2, h3, fun e he => by obtain ⟨n, xs, e1, e2⟩ := h4 e he; exact ⟨n, xs, e1, va_X.moved hvm e2⟩, h5⟩
-- values
theorem aq_cV_cat (b β : Nat) (v : Value) : (aq_cV b β v).category = v.category := by cases v <;> rfl
theorem aq_cV_sum (b β : Nat) (st : List Value) : ((st.map (aq_cV b β)).map fun v => v.category) = (st.map fun v => v.category) := by
  rw [List.map_map]
  exact List.map_congr_left fun v _ => aq_cV_cat b β v
abbrev aq_mL (b β : Nat) (L : aq_L) : List (Nat × Value) := L.map (fun q => (q.1, aq_cV b β q.2))
theorem aq_get_mem : ∀ {L : aq_L} {i : Nat} {v : Value}, aq_get L i = some v → (i, v) ∈ L
  | [], _, _, h => by cases h
  | (j, w) :: l, i, v, h => by
    unfold aq_get at h
    cases hb : Nat.beq j i with
    | true =>
      rw [hb] at h
      cases h
      have : j = i := Nat.eq_of_beq_eq_true hb
      subst this
      exact List.mem_cons_self
    | false =>
      rw [hb] at h
      exact List.mem_cons_of_mem _ (aq_get_mem h)
theorem aq_get_ls {L : aq_L} {i nL b β : Nat} {v : Value} {ls : Array Slot} (hl : lv_has ls nL (aq_mL b β L)) (h : aq_get L i = some v) : ls[i]? = some (.val (aq_cV b β v)) :=
  hl.2.2 (i, aq_cV b β v) (List.mem_map.mpr ⟨(i, v), aq_get_mem h, rfl⟩)
theorem aq_get_pl {L : aq_L} {i b β : Nat} {v : Value} (h : aq_get L i = some v) : ∃ k : Nat, (aq_mL b β L)[k]? = some (i, aq_cV b β v) := by
  obtain ⟨k, hk⟩ := List.getElem?_of_mem (aq_get_mem h)
  exact ⟨k, by rw [List.getElem?_map, hk]; rfl⟩
theorem aq_lv_mono {ls : Array Slot} {nL : Nat} {l l' : List (Nat × Value)} (h : lv_has ls nL l) (hs : ∀ q ∈ l', q ∈ l) : lv_has ls nL l' := ⟨h.1, h.2.1, fun q hq => h.2.2 q (hs q hq)⟩
theorem aq_m_put1 (b β i : Nat) (L : aq_L) (v : Value) : ∀ q ∈ aq_mL b β (aq_put1 L i v), q ∈ (i, aq_cV b β v) :: (aq_mL b β L).filter (fun q => !(q.1 == i) && !(q.1 + 1 == i && q.2.category == 2)) := fun q hq => by
  obtain ⟨x, hx, rfl⟩ := List.mem_map.mp hq
  rcases aq_ins_mem hx with rfl | hx
  · exact List.mem_cons_self
  · obtain ⟨h1, h2, h3⟩ := aq_k1_mem hx
    refine List.mem_cons_of_mem _ (List.mem_filter.mpr ⟨List.mem_map.mpr ⟨x, h1, rfl⟩, ?_⟩)
    simp only [aq_cV_cat, Bool.and_eq_true, Bool.not_eq_true', beq_eq_false_iff_ne, ne_eq, Bool.and_eq_false_iff]
    refine ⟨h2, ?_⟩
    by_cases h4 : x.1 + 1 = i
    · exact Or.inr (fun h5 => h3 ⟨h4, h5⟩)
    · exact Or.inl h4
theorem aq_m_put2 (b β i : Nat) (L : aq_L) (v : Value) : ∀ q ∈ aq_mL b β (aq_put2 L i v), q ∈ (i, aq_cV b β v) :: (aq_mL b β L).filter (fun q => !(q.1 == i) && (!(q.1 == i + 1) && !(q.1 + 1 == i && q.2.category == 2))) := fun q hq => by
  obtain ⟨x, hx, rfl⟩ := List.mem_map.mp hq
  rcases aq_ins_mem hx with rfl | hx
  · exact List.mem_cons_self
  · obtain ⟨h1, h2, h3⟩ := aq_k1_mem hx
    obtain ⟨k1, k2, k3⟩ := aq_k1_mem h1
    refine List.mem_cons_of_mem _ (List.mem_filter.mpr ⟨List.mem_map.mpr ⟨x, k1, rfl⟩, ?_⟩)
    simp only [aq_cV_cat, Bool.and_eq_true, Bool.not_eq_true', beq_eq_false_iff_ne, ne_eq, Bool.and_eq_false_iff]
    refine ⟨k2, h2, ?_⟩
    by_cases h4 : x.1 + 1 = i
    · exact Or.inr (fun h5 => k3 ⟨h4, h5⟩)
    · exact Or.inl h4
/-- the context of one method's run -/
def aq_CX (p : Program) (l : Launch) (R : Room) (s : State) (m : MethodId) (args : Array Value) (meth : Method) (c : Code) (D : va_G) (cA : Nat → ClassId) (nc : List (String × String)) (strs : List (Nat × String)) (b β d : Nat) (S0 S' : aq_S) (cc : ByteArray) (nL : Nat) (own mn : String) (ret : Option FieldType) (hh : List (Nat × Nat × Nat × Nat)) : Prop :=
  p.tables.exec = Jvm.exec ∧ c.code = cc ∧ meth.sig.returnType = ret ∧ c.maxLocals = nL ∧ s.vm.findClass own = some m.cls ∧ meth.locks = false ∧ (∀ w ∈ aq_WA, w.before args s = true) ∧ aq_V D cA nc strs β s s.heap ∧ b ≤ β ∧ β < s.heap.size ∧ l.stackTraces = false ∧
  c.exceptionTable.toList = tableOf hh ∧ meth.name = mn ∧ d + 11 ≤ R.frames ∧ 64 * d + 264 ≤ R.locals ∧ S'.1 + S'.2.1 ≤ S0.1 + S0.2.1 + R.cells ∧ S'.2.2.1 ≤ S0.2.2.1 + R.slots
def aq_WW (p : Program) (l : Launch) (e : Env) (R : Room) (s : State) (m : MethodId) (args : Array Value) (below : List Frame) (meth : Method) (c : Code) (D : va_G) (cA : Nat → ClassId) (b β nL : Nat) (S0 S' : aq_S) (Q : State → Prop) : aq_K := fun pc L st S =>
  S.1 ≤ S'.1 ∧ S.2.1 ≤ S'.2.1 ∧ S.2.2.1 ≤ S'.2.2.1 ∧ ∀ (H : Heap) (locs : List Loc) (cells slots : Nat) (ls : Array Slot), aq_R D cA b β s S H → va_S (fun q => β < q) s.heap H locs → lv_has ls nL (aq_mL b β L) → S0.1 + S0.2.1 + cells = S.1 + S.2.1 → S0.2.2.1 + slots = S.2.2.1 →
    W p l e R s m args below meth c H locs cells slots Q (F0 m pc ls (st.map (aq_cV b β)))
def aq_Pc (D : va_G) (cA : Nat → ClassId) (nc : List (String × String)) (strs : List (Nat × String)) (b β : Nat) (As : List Value) (S : aq_S) : Array Value → State → Prop := va_Pc (As.map (aq_cV b β)) (fun U => aq_R D cA b β U S U.heap ∧ aq_V D cA nc strs β U U.heap)
def aq_Qc (D : va_G) (cA : Nat → ClassId) (b β : Nat) (o : aq_O) (S : aq_S) : Array Value → State → Outcome → State → Prop := fun _ st oc t => (∃ v : Option Value, o = .inl v ∧ oc = .returned (v.map (aq_cV b β))) ∧ aq_R D cA b β t S t.heap ∧ va_F (fun q => β < q) st t
def aq_XC (D : va_G) (cA : Nat → ClassId) (b β : Nat) (o : aq_O) (S : aq_S) : String → State → State → Prop := fun E st t => o = .inr E ∧ aq_R D cA b β t S t.heap ∧ va_F (fun q => β < q) st t
/-- a method's name, code, locals, answer, handlers -/
abbrev aq_M : Type := MethodName × ByteArray × Nat × Option FieldType × List (Nat × Nat × Nat × Nat)
def aq_cw (q : aq_M) : Jvm.Cond := match q.2.2.2.2 with
  | [] => .code q.1 q.2.1 q.2.2.1 q.2.2.2.1
  | hh => .codeWith q.1 q.2.1 q.2.2.1 q.2.2.2.1 hh
def aq_rm (d mc ms : Nat) : Room := { frames := d + 10, cells := mc, slots := ms, locals := 64 * d + 200 }
def aq_IH (T : Nat → Nat → Option aq_Op) (Nl : Nat → Nat) (Ms : Nat → aq_M) (l : Launch) (D : va_G) (cA : Nat → ClassId) (nc : List (String × String)) (strs : List (Nat × String)) (b β d : Nat) : Prop :=
  ∀ (y : Nat) (As : List Value) (S : aq_S) (o : aq_O) (S' : aq_S), aq_Ex T Nl d y As S o S' → aq_le S S' ∧
    vx_Met l (Ms y).1 (aq_cw (Ms y) :: aq_WA) (aq_rm d ((S'.1 + S'.2.1) - (S.1 + S.2.1)) (S'.2.2.1 - S.2.2.1)) (aq_Pc D cA nc strs b β As S) (aq_Qc D cA b β o S') (aq_XC D cA b β o S') ((S'.1 + S'.2.1) - (S.1 + S.2.1)) (S'.2.2.1 - S.2.2.1) (fun q => β < q)
/-- a rule holds of the machine at a place of a method -/
def aq_SOp (T : Nat → Nat → Option aq_Op) (Nl : Nat → Nat) (Ms : Nat → aq_M) (nc : List (String × String)) (strs : List (Nat × String)) (cc : ByteArray) (nL : Nat) (own mn : String) (ret : Option FieldType) (hh : List (Nat × Nat × Nat × Nat)) (pc : Nat) (op : aq_Op) : Prop :=
  ∀ (p : Program) (l : Launch) (e : Env) (R : Room) (s : State) (m : MethodId) (args : Array Value) (below : List Frame) (meth : Method) (c : Code) (D : va_G) (cA : Nat → ClassId) (b β d : Nat) (S0 S' : aq_S) (o : aq_O),
    aq_CX p l R s m args meth c D cA nc strs b β d S0 S' cc nL own mn ret hh → aq_IH T Nl Ms l D cA nc strs b β d →
    ∀ (K : aq_K) (L : aq_L) (st : List Value) (S : aq_S), (∀ a1 a2 a3 a4, K a1 a2 a3 a4 → aq_WW p l e R s m args below meth c D cA b β nL S0 S' (vx_MQ below (aq_Qc D cA b β o S') (aq_XC D cA b β o S') args s R.cells R.slots (fun q => β < q)) a1 a2 a3 a4) →
      op (aq_Ex T Nl d) K (fun o1 S1 => o1 = o ∧ S1 = S') L st S → aq_WW p l e R s m args below meth c D cA b β nL S0 S' (vx_MQ below (aq_Qc D cA b β o S') (aq_XC D cA b β o S') args s R.cells R.slots (fun q => β < q)) pc L st S
end
