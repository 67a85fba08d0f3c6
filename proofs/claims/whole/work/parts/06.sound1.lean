/-! ===== the rules of the stack and the locals hold ===== -/
section
variable {T : Nat → Nat → Option aq_Op} {Nl : Nat → Nat} {Ms : Nat → aq_M} {nc : List (String × String)} {strs : List (Nat × String)} {cc : ByteArray} {nL : Nat} {own mn : String} {ret : Option FieldType} {hh : List (Nat × Nat × Nat × Nat)} {pc n : Nat}
theorem aq_is_cV {t b β : Nat} {v : Value} (h : aq_is t v = true) : aq_is t (aq_cV b β v) = true := by
  cases v <;> rcases t with _ | _ | _ | _ | _ | t <;> first | exact h | rfl | cases h
/-- a rule that leaves heap and locals: from the machine's row -/
theorem so_push {v : Value} (row : ∀ {p : Program} {l : Launch} {e : Env} {R : Room} {s : State} {m : MethodId} {args : Array Value} {below : List Frame} {meth : Method} {c : Code} {H : Heap} {locs : List Loc} {cells slots : Nat} {Q : State → Prop} {ls : Array Slot} {rest : List Value}, p.tables.exec = Jvm.exec → c.code = cc → s.vm.findClass own = some m.cls → (∀ w ∈ aq_WA, w.before args s = true) →
      W p l e R s m args below meth c H locs cells slots Q (F0 m n ls (v :: rest)) → W p l e R s m args below meth c H locs cells slots Q (F0 m pc ls rest)) (hv : ∀ b β, aq_cV b β v = v) : aq_SOp T Nl Ms nc strs cc nL own mn ret hh pc (aq_push v n) := by
  intro p l e R s m args below meth c D cA b β d S0 S' o C IH K L st S hK h
  obtain ⟨hx, hb, hr, hml, hown, hlk, hts, -⟩ := C
  obtain ⟨h1, h2, h3, h4⟩ := hK _ _ _ _ h
  refine ⟨h1, h2, h3, fun H locs cells slots ls hR hS hl e1 e2 => ?_⟩
  have k := h4 H locs cells slots ls hR hS hl e1 e2
  rw [List.map_cons, hv] at k
  exact row hx hb hown hts k
theorem so_go {tgt : Nat} {off : Int} (hd : decode cc pc = .ok (.goto off, 3)) (ht : (pc : Int) + off = (tgt : Int)) : aq_SOp T Nl Ms nc strs cc nL own mn ret hh pc (aq_go tgt) := by
  intro p l e R s m args below meth c D cA b β d S0 S' o C IH K L st S hK h
  obtain ⟨hx, hb, -⟩ := C
  obtain ⟨h1, h2, h3, h4⟩ := hK _ _ _ _ h
  exact ⟨h1, h2, h3, fun H locs cells slots ls hR hS hl e1 e2 => lv_goto hx hb hd ht (h4 H locs cells slots ls hR hS hl e1 e2)⟩
theorem so_ld {t i : Nat} (row : ∀ {p : Program} {l : Launch} {e : Env} {R : Room} {s : State} {m : MethodId} {args : Array Value} {below : List Frame} {meth : Method} {c : Code} {H : Heap} {locs : List Loc} {cells slots : Nat} {Q : State → Prop} {ls : Array Slot} {rest : List Value} {v : Value}, p.tables.exec = Jvm.exec → c.code = cc → aq_is t v = true → ls[i]? = some (.val v) →
      W p l e R s m args below meth c H locs cells slots Q (F0 m n ls (v :: rest)) → W p l e R s m args below meth c H locs cells slots Q (F0 m pc ls rest)) : aq_SOp T Nl Ms nc strs cc nL own mn ret hh pc (aq_ld t i n) := by
  intro p l e R s m args below meth c D cA b β d S0 S' o C IH K L st S hK h
  obtain ⟨hx, hb, -⟩ := C
  obtain ⟨v, hv, hi, h⟩ := h
  obtain ⟨h1, h2, h3, h4⟩ := hK _ _ _ _ h
  refine ⟨h1, h2, h3, fun H locs cells slots ls hR hS hl e1 e2 => ?_⟩
  have k := h4 H locs cells slots ls hR hS hl e1 e2
  rw [List.map_cons] at k
  exact row hx hb (v := aq_cV b β v) (aq_is_cV hi) (aq_get_ls hl hv) k
theorem so_iload_n {k : Fin 4} (hd : decode cc pc = .ok (.iload_n k, 1)) : aq_SOp T Nl Ms nc strs cc nL own mn ret hh pc (aq_ld 0 k (pc + 1)) :=
  so_ld fun {p l e R s m args below meth c H locs cells slots Q ls rest v} hx hb hi hl kk => by cases v <;> first | exact lv_iload_n hx hb hd rfl hl kk | cases hi
theorem so_iload {i : Nat} (hd : decode cc pc = .ok (.iload i, 2)) : aq_SOp T Nl Ms nc strs cc nL own mn ret hh pc (aq_ld 0 i (pc + 2)) :=
  so_ld fun {p l e R s m args below meth c H locs cells slots Q ls rest v} hx hb hi hl kk => by cases v <;> first | exact lv_iload hx hb hd hl kk | cases hi
theorem so_lload_n {k : Fin 4} (hd : decode cc pc = .ok (.lload_n k, 1)) : aq_SOp T Nl Ms nc strs cc nL own mn ret hh pc (aq_ld 1 k (pc + 1)) :=
  so_ld fun {p l e R s m args below meth c H locs cells slots Q ls rest v} hx hb hi hl kk => by cases v <;> first | exact lv_lload_n hx hb hd rfl hl kk | cases hi
theorem so_lload {i : Nat} (hd : decode cc pc = .ok (.lload i, 2)) : aq_SOp T Nl Ms nc strs cc nL own mn ret hh pc (aq_ld 1 i (pc + 2)) :=
  so_ld fun {p l e R s m args below meth c H locs cells slots Q ls rest v} hx hb hi hl kk => by cases v <;> first | exact lv_lload hx hb hd hl kk | cases hi
theorem so_fload_n {k : Fin 4} (hd : decode cc pc = .ok (.fload_n k, 1)) : aq_SOp T Nl Ms nc strs cc nL own mn ret hh pc (aq_ld 2 k (pc + 1)) :=
  so_ld fun {p l e R s m args below meth c H locs cells slots Q ls rest v} hx hb hi hl kk => by cases v <;> first | exact lv_fload_n hx hb hd rfl hl kk | cases hi
theorem so_fload {i : Nat} (hd : decode cc pc = .ok (.fload i, 2)) : aq_SOp T Nl Ms nc strs cc nL own mn ret hh pc (aq_ld 2 i (pc + 2)) :=
  so_ld fun {p l e R s m args below meth c H locs cells slots Q ls rest v} hx hb hi hl kk => by cases v <;> first | exact lv_fload hx hb hd hl kk | cases hi
theorem so_dload_n {k : Fin 4} (hd : decode cc pc = .ok (.dload_n k, 1)) : aq_SOp T Nl Ms nc strs cc nL own mn ret hh pc (aq_ld 3 k (pc + 1)) :=
  so_ld fun {p l e R s m args below meth c H locs cells slots Q ls rest v} hx hb hi hl kk => by cases v <;> first | exact lv_dload_n hx hb hd rfl hl kk | cases hi
theorem so_dload {i : Nat} (hd : decode cc pc = .ok (.dload i, 2)) : aq_SOp T Nl Ms nc strs cc nL own mn ret hh pc (aq_ld 3 i (pc + 2)) :=
  so_ld fun {p l e R s m args below meth c H locs cells slots Q ls rest v} hx hb hi hl kk => by cases v <;> first | exact lv_dload hx hb hd hl kk | cases hi
theorem so_aload_n {k : Fin 4} (hd : decode cc pc = .ok (.aload_n k, 1)) : aq_SOp T Nl Ms nc strs cc nL own mn ret hh pc (aq_ld 4 k (pc + 1)) :=
  so_ld fun {p l e R s m args below meth c H locs cells slots Q ls rest v} hx hb hi hl kk => by cases v <;> first | exact lv_aload_n hx hb hd rfl hl kk | exact lv_aload_nN hx hb hd rfl hl kk | cases hi
theorem so_aload {i : Nat} (hd : decode cc pc = .ok (.aload i, 2)) : aq_SOp T Nl Ms nc strs cc nL own mn ret hh pc (aq_ld 4 i (pc + 2)) :=
  so_ld fun {p l e R s m args below meth c H locs cells slots Q ls rest v} hx hb hi hl kk => by cases v <;> first | exact lv_aload hx hb hd hl kk | exact lv_aloadN hx hb hd hl kk | cases hi
/-- stores of one slot -/
theorem so_st1 {t i : Nat} (ht : t ≠ 1) (ht3 : t ≠ 3) (row : ∀ {p : Program} {l : Launch} {e : Env} {R : Room} {s : State} {m : MethodId} {args : Array Value} {below : List Frame} {meth : Method} {c : Code} {H : Heap} {locs : List Loc} {cells slots : Nat} {Q : State → Prop} {ls : Array Slot} {rest : List Value} {v : Value} {lv lv' : List (Nat × Value)}, p.tables.exec = Jvm.exec → c.code = cc → aq_is t v = true → lv_has ls nL lv → (i, v) :: lv.filter (fun q => !(q.1 == i) && !(q.1 + 1 == i && q.2.category == 2)) = lv' →
      (∀ ls' : Array Slot, lv_has ls' nL lv' → W p l e R s m args below meth c H locs cells slots Q (F0 m n ls' rest)) → W p l e R s m args below meth c H locs cells slots Q (F0 m pc ls (v :: rest))) : aq_SOp T Nl Ms nc strs cc nL own mn ret hh pc (aq_st t i n) := by
  intro p l e R s m args below meth c D cA b β d S0 S' o C IH K L st S hK h
  obtain ⟨hx, hb, -⟩ := C
  obtain ⟨v, r, rfl, hi, h⟩ := h
  have hp : aq_put t L i v = aq_put1 L i v := by
    unfold aq_put
    split <;> first | rfl | (exact absurd rfl ht) | (exact absurd rfl ht3)
  rw [hp] at h
  obtain ⟨h1, h2, h3, h4⟩ := hK _ _ _ _ h
  refine ⟨h1, h2, h3, fun H locs cells slots ls hR hS hl e1 e2 => ?_⟩
  rw [List.map_cons]
  exact row hx hb (aq_is_cV hi) hl rfl fun ls' hl' => h4 H locs cells slots ls' hR hS (aq_lv_mono hl' (aq_m_put1 b β i L v)) e1 e2
theorem so_st2 {t i : Nat} (ht : t = 1 ∨ t = 3) (row : ∀ {p : Program} {l : Launch} {e : Env} {R : Room} {s : State} {m : MethodId} {args : Array Value} {below : List Frame} {meth : Method} {c : Code} {H : Heap} {locs : List Loc} {cells slots : Nat} {Q : State → Prop} {ls : Array Slot} {rest : List Value} {v : Value} {lv lv' : List (Nat × Value)}, p.tables.exec = Jvm.exec → c.code = cc → aq_is t v = true → lv_has ls nL lv → (i, v) :: lv.filter (fun q => !(q.1 == i) && (!(q.1 == i + 1) && !(q.1 + 1 == i && q.2.category == 2))) = lv' →
      (∀ ls' : Array Slot, lv_has ls' nL lv' → W p l e R s m args below meth c H locs cells slots Q (F0 m n ls' rest)) → W p l e R s m args below meth c H locs cells slots Q (F0 m pc ls (v :: rest))) : aq_SOp T Nl Ms nc strs cc nL own mn ret hh pc (aq_st t i n) := by
  intro p l e R s m args below meth c D cA b β d S0 S' o C IH K L st S hK h
  obtain ⟨hx, hb, -⟩ := C
  obtain ⟨v, r, rfl, hi, h⟩ := h
  have hp : aq_put t L i v = aq_put2 L i v := by rcases ht with rfl | rfl <;> rfl
  rw [hp] at h
  obtain ⟨h1, h2, h3, h4⟩ := hK _ _ _ _ h
  refine ⟨h1, h2, h3, fun H locs cells slots ls hR hS hl e1 e2 => ?_⟩
  rw [List.map_cons]
  exact row hx hb (aq_is_cV hi) hl rfl fun ls' hl' => h4 H locs cells slots ls' hR hS (aq_lv_mono hl' (aq_m_put2 b β i L v)) e1 e2
theorem so_istore_n {k : Fin 4} (hd : decode cc pc = .ok (.istore_n k, 1)) (hn : (k : Nat) < nL) : aq_SOp T Nl Ms nc strs cc nL own mn ret hh pc (aq_st 0 k (pc + 1)) :=
  so_st1 (by decide) (by decide) fun {p l e R s m args below meth c H locs cells slots Q ls rest v lv lv'} hx hb hi hl hq kk => by cases v <;> first | exact lv_istore_n hx hb hd rfl hl hn hq kk | cases hi
theorem so_istore {i : Nat} (hd : decode cc pc = .ok (.istore i, 2)) (hn : i < nL) : aq_SOp T Nl Ms nc strs cc nL own mn ret hh pc (aq_st 0 i (pc + 2)) :=
  so_st1 (by decide) (by decide) fun {p l e R s m args below meth c H locs cells slots Q ls rest v lv lv'} hx hb hi hl hq kk => by cases v <;> first | exact lv_istore hx hb hd hl hn hq kk | cases hi
theorem so_astore_n {k : Fin 4} (hd : decode cc pc = .ok (.astore_n k, 1)) (hn : (k : Nat) < nL) : aq_SOp T Nl Ms nc strs cc nL own mn ret hh pc (aq_st 4 k (pc + 1)) :=
  so_st1 (by decide) (by decide) fun {p l e R s m args below meth c H locs cells slots Q ls rest v lv lv'} hx hb hi hl hq kk => by cases v <;> first | exact lv_astore_n hx hb hd rfl hl hn hq kk | exact lv_astore_nN hx hb hd rfl hl hn hq kk | cases hi
theorem so_astore {i : Nat} (hd : decode cc pc = .ok (.astore i, 2)) (hn : i < nL) : aq_SOp T Nl Ms nc strs cc nL own mn ret hh pc (aq_st 4 i (pc + 2)) :=
  so_st1 (by decide) (by decide) fun {p l e R s m args below meth c H locs cells slots Q ls rest v lv lv'} hx hb hi hl hq kk => by cases v <;> first | exact lv_astore hx hb hd hl hn hq kk | exact lv_astoreN hx hb hd hl hn hq kk | cases hi
theorem so_lstore_n {k : Fin 4} (hd : decode cc pc = .ok (.lstore_n k, 1)) (hn : (k : Nat) + 1 < nL) : aq_SOp T Nl Ms nc strs cc nL own mn ret hh pc (aq_st 1 k (pc + 1)) :=
  so_st2 (Or.inl rfl) fun {p l e R s m args below meth c H locs cells slots Q ls rest v lv lv'} hx hb hi hl hq kk => by cases v <;> first | exact lv_lstore_n hx hb hd rfl hl hn hq kk | cases hi
theorem so_lstore {i : Nat} (hd : decode cc pc = .ok (.lstore i, 2)) (hn : i + 1 < nL) : aq_SOp T Nl Ms nc strs cc nL own mn ret hh pc (aq_st 1 i (pc + 2)) :=
  so_st2 (Or.inl rfl) fun {p l e R s m args below meth c H locs cells slots Q ls rest v lv lv'} hx hb hi hl hq kk => by cases v <;> first | exact lv_lstore hx hb hd hl hn hq kk | cases hi
theorem so_dstore_n {k : Fin 4} (hd : decode cc pc = .ok (.dstore_n k, 1)) (hn : (k : Nat) + 1 < nL) : aq_SOp T Nl Ms nc strs cc nL own mn ret hh pc (aq_st 3 k (pc + 1)) :=
  so_st2 (Or.inr rfl) fun {p l e R s m args below meth c H locs cells slots Q ls rest v lv lv'} hx hb hi hl hq kk => by cases v <;> first | exact lv_dstore_n hx hb hd rfl hl hn hq kk | cases hi
theorem so_dstore {i : Nat} (hd : decode cc pc = .ok (.dstore i, 2)) (hn : i + 1 < nL) : aq_SOp T Nl Ms nc strs cc nL own mn ret hh pc (aq_st 3 i (pc + 2)) :=
  so_st2 (Or.inr rfl) fun {p l e R s m args below meth c H locs cells slots Q ls rest v lv lv'} hx hb hi hl hq kk => by cases v <;> first | exact lv_dstore hx hb hd hl hn hq kk | cases hi
theorem so_inc {i : Nat} {k : Int} {x : Int32} (hd : decode cc pc = .ok (.iinc i k, 3)) (hx0 : Int32.ofInt k = x) (hn : i < nL) : aq_SOp T Nl Ms nc strs cc nL own mn ret hh pc (aq_inc i x (pc + 3)) := by
  intro p l e R s m args below meth c D cA b β d S0 S' o C IH K L st S hK h
  obtain ⟨hx, hb, -⟩ := C
  obtain ⟨v, hv, h⟩ := h
  obtain ⟨h1, h2, h3, h4⟩ := hK _ _ _ _ h
  refine ⟨h1, h2, h3, fun H locs cells slots ls hR hS hl e1 e2 => ?_⟩
  obtain ⟨j, hj⟩ := aq_get_pl (b := b) (β := β) hv
  exact lv_iinc hx hb hd hl hj (by rw [hx0]) hn rfl fun ls' hl' => h4 H locs cells slots ls' hR hS (aq_lv_mono hl' (aq_m_put1 b β i L (.int (v + x)))) e1 e2
/-- the stack alone -/
theorem so_ar {f : List Value → Option (List Value)} (row : ∀ {p : Program} {l : Launch} {e : Env} {R : Room} {s : State} {m : MethodId} {args : Array Value} {below : List Frame} {meth : Method} {c : Code} {H : Heap} {locs : List Loc} {cells slots : Nat} {Q : State → Prop} {ls : Array Slot} {st r : List Value} {b β : Nat}, p.tables.exec = Jvm.exec → c.code = cc → f st = some r →
      W p l e R s m args below meth c H locs cells slots Q (F0 m n ls (r.map (aq_cV b β))) → W p l e R s m args below meth c H locs cells slots Q (F0 m pc ls (st.map (aq_cV b β)))) : aq_SOp T Nl Ms nc strs cc nL own mn ret hh pc (aq_ar f n) := by
  intro p l e R s m args below meth c D cA b β d S0 S' o C IH K L st S hK h
  obtain ⟨hx, hb, -⟩ := C
  obtain ⟨r, hf, h⟩ := h
  obtain ⟨h1, h2, h3, h4⟩ := hK _ _ _ _ h
  exact ⟨h1, h2, h3, fun H locs cells slots ls hR hS hl e1 e2 => row hx hb hf (h4 H locs cells slots ls hR hS hl e1 e2)⟩
theorem so_arc {f : List Value → Option (Prop × List Value)} (row : ∀ {p : Program} {l : Launch} {e : Env} {R : Room} {s : State} {m : MethodId} {args : Array Value} {below : List Frame} {meth : Method} {c : Code} {H : Heap} {locs : List Loc} {cells slots : Nat} {Q : State → Prop} {ls : Array Slot} {st r : List Value} {b β : Nat} {a : Prop}, p.tables.exec = Jvm.exec → c.code = cc → f st = some (a, r) → a →
      W p l e R s m args below meth c H locs cells slots Q (F0 m n ls (r.map (aq_cV b β))) → W p l e R s m args below meth c H locs cells slots Q (F0 m pc ls (st.map (aq_cV b β)))) : aq_SOp T Nl Ms nc strs cc nL own mn ret hh pc (aq_arc f n) := by
  intro p l e R s m args below meth c D cA b β d S0 S' o C IH K L st S hK h
  obtain ⟨hx, hb, -⟩ := C
  obtain ⟨a, r, hf, ha, h⟩ := h
  obtain ⟨h1, h2, h3, h4⟩ := hK _ _ _ _ h
  exact ⟨h1, h2, h3, fun H locs cells slots ls hR hS hl e1 e2 => row hx hb hf ha (h4 H locs cells slots ls hR hS hl e1 e2)⟩
theorem so_if {f : List Value → Option (Prop × List Value)} {tgt : Nat} (row : ∀ {p : Program} {l : Launch} {e : Env} {R : Room} {s : State} {m : MethodId} {args : Array Value} {below : List Frame} {meth : Method} {c : Code} {H : Heap} {locs : List Loc} {cells slots : Nat} {Q : State → Prop} {ls : Array Slot} {st r : List Value} {b β : Nat} {a : Prop}, p.tables.exec = Jvm.exec → c.code = cc → f st = some (a, r) →
      (a → W p l e R s m args below meth c H locs cells slots Q (F0 m tgt ls (r.map (aq_cV b β)))) → (¬ a → W p l e R s m args below meth c H locs cells slots Q (F0 m n ls (r.map (aq_cV b β)))) → W p l e R s m args below meth c H locs cells slots Q (F0 m pc ls (st.map (aq_cV b β)))) : aq_SOp T Nl Ms nc strs cc nL own mn ret hh pc (aq_if f tgt n) := by
  intro p l e R s m args below meth c D cA b β d S0 S' o C IH K L st S hK h
  obtain ⟨hx, hb, -⟩ := C
  obtain ⟨a, r, hf, ht, hn⟩ := h
  have hle : S.1 ≤ S'.1 ∧ S.2.1 ≤ S'.2.1 ∧ S.2.2.1 ≤ S'.2.2.1 := by
    rcases Classical.em a with q | q
    · obtain ⟨h1, h2, h3, -⟩ := hK _ _ _ _ (ht q)
      exact ⟨h1, h2, h3⟩
    · obtain ⟨h1, h2, h3, -⟩ := hK _ _ _ _ (hn q)
      exact ⟨h1, h2, h3⟩
  exact ⟨hle.1, hle.2.1, hle.2.2, fun H locs cells slots ls hR hS hl e1 e2 => row hx hb hf (fun q => (hK _ _ _ _ (ht q)).2.2.2 H locs cells slots ls hR hS hl e1 e2) (fun q => (hK _ _ _ _ (hn q)).2.2.2 H locs cells slots ls hR hS hl e1 e2)⟩
end
