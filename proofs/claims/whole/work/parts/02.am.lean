/-! ===== the abstract machine: a method's bytecode as a table of rules over a heap of numbered cells; its rows ===== -/
section
abbrev aq_E : Type := (Nat × vp_A) ⊕ (Nat × List Value)
abbrev aq_H : Type := Nat → Option aq_E
/-- how many cells were made (the next cell's number), how many objects were thrown, how many slots all of them have, the cells -/
abbrev aq_S : Type := Nat × Nat × Nat × aq_H
abbrev aq_O : Type := Option Value ⊕ String
abbrev aq_L : Type := List (Nat × Value)
abbrev aq_K : Type := Nat → aq_L → List Value → aq_S → Prop
abbrev aq_F : Type := aq_O → aq_S → Prop
abbrev aq_C : Type := Nat → List Value → aq_S → aq_O → aq_S → Prop
abbrev aq_Op : Type := aq_C → aq_K → aq_F → aq_L → List Value → aq_S → Prop
def aq_get : aq_L → Nat → Option Value
  | [], _ => none
  | (j, v) :: l, i => bif Nat.beq j i then some v else aq_get l i
/-- the locals stand in the order of their places -/
def aq_ins : aq_L → Nat → Value → aq_L
  | [], i, v => [(i, v)]
  | (j, w) :: l, i, v => bif Nat.ble i j then (i, v) :: (j, w) :: l else (j, w) :: aq_ins l i v
def aq_k1 : aq_L → Nat → aq_L
  | [], _ => []
  | (j, w) :: l, i => bif Nat.beq j i then aq_k1 l i else bif Nat.beq (j + 1) i && Nat.beq w.category 2 then aq_k1 l i else (j, w) :: aq_k1 l i
def aq_put1 (l : aq_L) (i : Nat) (v : Value) : aq_L := aq_ins (aq_k1 l i) i v
def aq_put2 (l : aq_L) (i : Nat) (v : Value) : aq_L := aq_ins (aq_k1 (aq_k1 l i) (i + 1)) i v
theorem aq_ins_mem {q : Nat × Value} : ∀ {l : aq_L} {i : Nat} {v : Value}, q ∈ aq_ins l i v → q = (i, v) ∨ q ∈ l
  | [], i, v, h => Or.inl (List.mem_singleton.mp h)
  | (j, w) :: l, i, v, h => by
    unfold aq_ins at h
    cases hb : Nat.ble i j with
    | true =>
      rw [hb] at h
      exact List.mem_cons.mp h
    | false =>
      rw [hb] at h
      rcases List.mem_cons.mp h with h | h
      · exact Or.inr (h ▸ List.mem_cons_self)
      · rcases aq_ins_mem h with h | h
        · exact Or.inl h
        · exact Or.inr (List.mem_cons_of_mem _ h)
theorem aq_k1_mem {q : Nat × Value} : ∀ {l : aq_L} {i : Nat}, q ∈ aq_k1 l i → q ∈ l ∧ q.1 ≠ i ∧ ¬ (q.1 + 1 = i ∧ q.2.category = 2)
  | [], i, h => by cases h
  | (j, w) :: l, i, h => by
    unfold aq_k1 at h
    cases hb : Nat.beq j i with
    | true =>
      rw [hb] at h
      obtain ⟨h1, h2⟩ := aq_k1_mem h
      exact ⟨List.mem_cons_of_mem _ h1, h2⟩
    | false =>
      rw [hb] at h
      cases hc : Nat.beq (j + 1) i && Nat.beq w.category 2 with
      | true =>
        rw [hc] at h
        obtain ⟨h1, h2⟩ := aq_k1_mem h
        exact ⟨List.mem_cons_of_mem _ h1, h2⟩
      | false =>
        rw [hc] at h
        rcases List.mem_cons.mp h with h | h
        · subst h
          refine ⟨List.mem_cons_self, fun e => ?_, fun e => ?_⟩
          · have e' : j = i := e
            rw [e', Nat.beq_refl] at hb
            cases hb
          · have e1 : j + 1 = i := e.1
            have e2 : w.category = 2 := e.2
            rw [e1, e2, Nat.beq_refl, Nat.beq_refl] at hc
            cases hc
        · obtain ⟨h1, h2⟩ := aq_k1_mem h
          exact ⟨List.mem_cons_of_mem _ h1, h2⟩
/-- kinds of values: 0 int, 1 long, 2 float, 3 double, 4 a reference or null -/
def aq_is (t : Nat) (v : Value) : Bool := match t, v with
  | 0, .int _ => true
  | 1, .long _ => true
  | 2, .float _ => true
  | 3, .double _ => true
  | 4, .ref _ => true
  | 4, .null => true
  | _, _ => false
def aq_put (t : Nat) (l : aq_L) (i : Nat) (v : Value) : aq_L := match t with
  | 1 => aq_put2 l i v
  | 3 => aq_put2 l i v
  | _ => aq_put1 l i v
def aq_set (S : aq_S) (a : Nat) (e : aq_E) : aq_S := (S.1, S.2.1, S.2.2.1, fun q => bif Nat.beq q a then some e else S.2.2.2 q)
def aq_mk (S : aq_S) (e : aq_E) (n : Nat) : aq_S := (S.1 + 1, S.2.1, S.2.2.1 + n, fun q => bif Nat.beq q S.1 then some e else S.2.2.2 q)
def aq_thrown (S : aq_S) : aq_S := (S.1, S.2.1 + 1, S.2.2.1 + 6, S.2.2.2)
-- rules
def aq_push (v : Value) (n : Nat) : aq_Op := fun _ k _ L st S => k n L (v :: st) S
def aq_ld (t i n : Nat) : aq_Op := fun _ k _ L st S => ∃ v, aq_get L i = some v ∧ aq_is t v = true ∧ k n L (v :: st) S
def aq_st (t i n : Nat) : aq_Op := fun _ k _ L st S => ∃ v r, st = v :: r ∧ aq_is t v = true ∧ k n (aq_put t L i v) r S
def aq_inc (i : Nat) (c : Int32) (n : Nat) : aq_Op := fun _ k _ L st S => ∃ x, aq_get L i = some (.int x) ∧ k n (aq_put1 L i (.int (x + c))) st S
def aq_ar (f : List Value → Option (List Value)) (n : Nat) : aq_Op := fun _ k _ L st S => ∃ r, f st = some r ∧ k n L r S
def aq_arc (f : List Value → Option (Prop × List Value)) (n : Nat) : aq_Op := fun _ k _ L st S => ∃ c r, f st = some (c, r) ∧ c ∧ k n L r S
def aq_if (f : List Value → Option (Prop × List Value)) (tgt n : Nat) : aq_Op := fun _ k _ L st S => ∃ c r, f st = some (c, r) ∧ (c → k tgt L r S) ∧ (¬ c → k n L r S)
def aq_go (tgt : Nat) : aq_Op := fun _ k _ L st S => k tgt L st S
def aq_gf (ci kf n : Nat) : aq_Op := fun _ k _ L st S => ∃ a r fs v, st = .ref a :: r ∧ S.2.2.2 a = some (.inr (ci, fs)) ∧ fs[kf]? = some v ∧ k n L (v :: r) S
/-- does a value fit a field's type: 0..4 as above, 5 boolean -/
def aq_fit (t : Nat) (v : Value) : Prop := match t, v with
  | 5, .int x => x = 0 ∨ x = 1
  | t, v => aq_is t v = true
def aq_pf (ci kf ty n : Nat) : aq_Op := fun _ k _ L st S => ∃ v a r fs, st = v :: .ref a :: r ∧ S.2.2.2 a = some (.inr (ci, fs)) ∧ kf < fs.length ∧ aq_fit ty v ∧ k n L r (aq_set S a (.inr (ci, fs.set kf v)))
/-- arrays of ints (0), booleans (3) -/
def aq_ldi (kd n : Nat) : aq_Op := fun _ k _ L st S => ∃ i a r m f, st = .int i :: .ref a :: r ∧ S.2.2.2 a = some (.inl (kd, (m, .inl f))) ∧ vp_in i m ∧ k n L (.int (f i.toNatClampNeg) :: r) S
def aq_ldl (n : Nat) : aq_Op := fun _ k _ L st S => ∃ i a r m f, st = .int i :: .ref a :: r ∧ S.2.2.2 a = some (.inl (1, (m, .inr (.inl f)))) ∧ vp_in i m ∧ k n L (.long (f i.toNatClampNeg) :: r) S
def aq_ldd (n : Nat) : aq_Op := fun _ k _ L st S => ∃ i a r m f, st = .int i :: .ref a :: r ∧ S.2.2.2 a = some (.inl (2, (m, .inr (.inr (.inr (.inl f)))))) ∧ vp_in i m ∧ k n L (.double (f i.toNatClampNeg) :: r) S
def aq_lda (kd n : Nat) : aq_Op := fun _ k _ L st S => ∃ i a r m f, st = .int i :: .ref a :: r ∧ S.2.2.2 a = some (.inl (kd, (m, .inr (.inr (.inr (.inr f)))))) ∧ vp_in i m ∧ k n L (va_rf (f i.toNatClampNeg) :: r) S
def aq_sti (n : Nat) : aq_Op := fun _ k _ L st S => ∃ x i a r m f, st = .int x :: .int i :: .ref a :: r ∧ a ≠ 0 ∧ S.2.2.2 a = some (.inl (0, (m, .inl f))) ∧ vp_in i m ∧ k n L r (aq_set S a (.inl (0, (m, .inl (upd f i.toNatClampNeg x)))))
def aq_stz (n : Nat) : aq_Op := fun _ k _ L st S => ∃ x i a r m f, st = .int x :: .int i :: .ref a :: r ∧ a ≠ 0 ∧ S.2.2.2 a = some (.inl (3, (m, .inl f))) ∧ vp_in i m ∧ (x = 0 ∨ x = 1) ∧ k n L r (aq_set S a (.inl (3, (m, .inl (upd f i.toNatClampNeg x)))))
def aq_stl (n : Nat) : aq_Op := fun _ k _ L st S => ∃ x i a r m f, st = .long x :: .int i :: .ref a :: r ∧ a ≠ 0 ∧ S.2.2.2 a = some (.inl (1, (m, .inr (.inl f)))) ∧ vp_in i m ∧ k n L r (aq_set S a (.inl (1, (m, .inr (.inl (vp_updL f i.toNatClampNeg x))))))
def aq_std (n : Nat) : aq_Op := fun _ k _ L st S => ∃ x i a r m f, st = .double x :: .int i :: .ref a :: r ∧ a ≠ 0 ∧ S.2.2.2 a = some (.inl (2, (m, .inr (.inr (.inr (.inl f)))))) ∧ vp_in i m ∧ k n L r (aq_set S a (.inl (2, (m, .inr (.inr (.inr (.inl (vf_upd f i.toNatClampNeg x))))))))
/-- into an array of objects of the class ci -/
def aq_sta (kd ci n : Nat) : aq_Op := fun _ k _ L st S => ∃ v i a r m f vs, st = .ref v :: .int i :: .ref a :: r ∧ a ≠ 0 ∧ v ≠ 0 ∧ S.2.2.2 a = some (.inl (kd, (m, .inr (.inr (.inr (.inr f)))))) ∧ S.2.2.2 v = some (.inr (ci, vs)) ∧ vp_in i m ∧ k n L r (aq_set S a (.inl (kd, (m, .inr (.inr (.inr (.inr (va_up f i.toNatClampNeg (some v)))))))))
def aq_len (n : Nat) : aq_Op := fun _ k _ L st S => ∃ a r kd x, st = .ref a :: r ∧ kd < 6 ∧ S.2.2.2 a = some (.inl (kd, x)) ∧ k n L (.int (Int32.ofNat x.1) :: r) S
def aq_new (ci nf : Nat) (fs : List Value) (n : Nat) : aq_Op := fun _ k _ L st S => S.2.1 = 0 ∧ k n L (.ref S.1 :: st) (aq_mk S (.inr (ci, fs)) nf)
def aq_dflt (kd : Nat) : (Nat → Int32) ⊕ (Nat → Int64) ⊕ (Nat → UInt32) ⊕ (Nat → UInt64) ⊕ (Nat → Option Nat) := match kd with
  | 1 => .inr (.inl (fun _ => 0))
  | 2 => .inr (.inr (.inr (.inl (fun _ => 0))))
  | 4 => .inr (.inr (.inr (.inr (fun _ => none))))
  | 5 => .inr (.inr (.inr (.inr (fun _ => none))))
  | _ => .inl (fun _ => 0)
def aq_newa (kd n : Nat) : aq_Op := fun _ k _ L st S => ∃ i r, st = .int i :: r ∧ S.2.1 = 0 ∧ ¬ i < 0 ∧ i.toNatClampNeg ≤ 1000 ∧ k n L (.ref S.1 :: r) (aq_mk S (.inl (kd, (i.toNatClampNeg, aq_dflt kd))) i.toNatClampNeg)
/-- Object.<init> -/
def aq_oi (n : Nat) : aq_Op := fun _ k _ L st S => ∃ a r, st = .ref a :: r ∧ (r.map fun v => v.category).sum ≤ 8 ∧ k n L r S
def aq_pop : Nat → List Value → Option (List Value × List Value)
  | 0, st => some ([], st)
  | n + 1, v :: st => (aq_pop n st).map (fun q => (q.1 ++ [v], q.2))
  | _ + 1, [] => none
/-- what the receiver must be: nothing, or an object of that class -/
def aq_rcv (rc : Option Nat) (As : List Value) (S : aq_S) : Prop := match rc with
  | none => True
  | some ci => ∃ a As' fs, As = .ref a :: As' ∧ S.2.2.2 a = some (.inr (ci, fs))
def aq_call (y nA : Nat) (rc : Option Nat) (n : Nat) : aq_Op := fun call k fin L st S => ∃ As r, aq_pop nA st = some (As, r) ∧ aq_rcv rc As S ∧ (r.map fun v => v.category).sum ≤ 8 ∧ ∃ o1 S1, call y As S o1 S1 ∧ (∀ v, o1 = .inl v → k n L (v.toList ++ r) S1) ∧ (∀ E, o1 = .inr E → fin (.inr E) S1)
/-- a call under handlers each of which answers a number -/
def aq_callh (y nA : Nat) (rc : Option Nat) (hs : List (String × Int32)) (n : Nat) : aq_Op := fun call k fin L st S => ∃ As r, aq_pop nA st = some (As, r) ∧ aq_rcv rc As S ∧ (r.map fun v => v.category).sum ≤ 8 ∧ ∃ o1 S1, call y As S o1 S1 ∧ (∀ v, o1 = .inl v → k n L (v.toList ++ r) S1) ∧ (∀ E, o1 = .inr E → ∃ c, hs.lookup E = some c ∧ fin (.inl (some (.int c))) S1)
def aq_ret (t : Nat) : aq_Op := fun _ _ fin _ st S => ∃ v, st = [v] ∧ aq_fit t v ∧ fin (.inl (some v)) S
def aq_retv : aq_Op := fun _ _ fin _ st S => st = [] ∧ fin (.inl none) S
def aq_thr (E : String) : aq_Op := fun _ _ fin _ st S => (st.map fun v => v.category).sum ≤ 8 ∧ fin (.inr E) (aq_thrown S)
/-- a switch from 0 on: by places, else -/
def aq_sw (ts : List Nat) (dflt : Nat) : aq_Op := fun _ k _ L st S => ∃ x r, st = .int x :: r ∧ (∀ (i t : Nat), x.toInt = (i : Int) → ts[i]? = some t → k t L r S) ∧ (x.toInt < 0 ∨ (ts.length : Int) ≤ x.toInt → k dflt L r S)
/-- a method's run: the least relation that its table closes -/
def aq_W (m : Nat → Option aq_Op) (call : aq_C) (fin : aq_F) (pc : Nat) (L : aq_L) (st : List Value) (S : aq_S) : Prop :=
  ∀ P : aq_K, (∀ (pc : Nat) (L : aq_L) (st : List Value) (S : aq_S) (op : aq_Op) (K : aq_K), m pc = some op → (∀ a b c d, K a b c d → P a b c d) → op call K fin L st S → P pc L st S) → P pc L st S
theorem aq_W_i {m : Nat → Option aq_Op} {call : aq_C} {fin : aq_F} {pc : Nat} {L : aq_L} {st : List Value} {S : aq_S} {op : aq_Op} (hm : m pc = some op) (h : op call (aq_W m call fin) fin L st S) : aq_W m call fin pc L st S :=
  fun P hP => hP pc L st S op (aq_W m call fin) hm (fun _ _ _ _ w => w P hP) h
/-- counts only grow -/
def aq_le (S S' : aq_S) : Prop := S.1 ≤ S'.1 ∧ S.2.1 ≤ S'.2.1 ∧ S.2.2.1 ≤ S'.2.2.1
def aq_Ex (tbl : Nat → Nat → Option aq_Op) (Nl : Nat → Nat) : Nat → aq_C
  | 0 => fun _ _ _ _ _ => False
  | d + 1 => fun y As S o S' => ((lg_sl As).length ≤ Nl y ∧ aq_le S S') ∧ aq_W (tbl y) (aq_Ex tbl Nl d) (fun o1 S1 => o1 = o ∧ S1 = S') 0 (lv_args 0 As) [] S
theorem aq_W_mono {m : Nat → Option aq_Op} {c1 c2 : aq_C} {fin : aq_F} (hop : ∀ (pc : Nat) (op : aq_Op), m pc = some op → ∀ (K : aq_K) (L : aq_L) (st : List Value) (S : aq_S), op c1 K fin L st S → op c2 K fin L st S) {pc : Nat} {L : aq_L} {st : List Value} {S : aq_S} (h : aq_W m c1 fin pc L st S) : aq_W m c2 fin pc L st S :=
  h (aq_W m c2 fin) fun pc L st S op K hm hK ho => fun P hP => hP pc L st S op K hm (fun a b c d z => hK a b c d z P hP) (hop pc op hm K L st S ho)
end
/-! ===== what the instructions do to the stack ===== -/
section
def af_iadd : List Value → Option (List Value)
  | .int y :: .int x :: r => some (.int (x + y) :: r)
  | _ => none
def af_isub : List Value → Option (List Value)
  | .int y :: .int x :: r => some (.int (x - y) :: r)
  | _ => none
def af_imul : List Value → Option (List Value)
  | .int y :: .int x :: r => some (.int (x * y) :: r)
  | _ => none
def af_iand : List Value → Option (List Value)
  | .int y :: .int x :: r => some (.int (x &&& y) :: r)
  | _ => none
def af_ior : List Value → Option (List Value)
  | .int y :: .int x :: r => some (.int (x ||| y) :: r)
  | _ => none
def af_ixor : List Value → Option (List Value)
  | .int y :: .int x :: r => some (.int (x ^^^ y) :: r)
  | _ => none
def af_ladd : List Value → Option (List Value)
  | .long y :: .long x :: r => some (.long (x + y) :: r)
  | _ => none
def af_lsub : List Value → Option (List Value)
  | .long y :: .long x :: r => some (.long (x - y) :: r)
  | _ => none
def af_lmul : List Value → Option (List Value)
  | .long y :: .long x :: r => some (.long (x * y) :: r)
  | _ => none
def af_land : List Value → Option (List Value)
  | .long y :: .long x :: r => some (.long (x &&& y) :: r)
  | _ => none
def af_lor : List Value → Option (List Value)
  | .long y :: .long x :: r => some (.long (x ||| y) :: r)
  | _ => none
def af_lxor : List Value → Option (List Value)
  | .long y :: .long x :: r => some (.long (x ^^^ y) :: r)
  | _ => none
def af_ineg : List Value → Option (List Value)
  | .int x :: r => some (.int (-x) :: r)
  | _ => none
def af_i2l : List Value → Option (List Value)
  | .int x :: r => some (.long x.toInt64 :: r)
  | _ => none
def af_l2i : List Value → Option (List Value)
  | .long x :: r => some (.int x.toInt32 :: r)
  | _ => none
def af_i2d : List Value → Option (List Value)
  | .int x :: r => some (.double (FP.i2d x) :: r)
  | _ => none
def af_i2f : List Value → Option (List Value)
  | .int x :: r => some (.float (FP.i2f x) :: r)
  | _ => none
def af_l2d : List Value → Option (List Value)
  | .long x :: r => some (.double (FP.l2d x) :: r)
  | _ => none
def af_d2i : List Value → Option (List Value)
  | .double x :: r => some (.int (FP.d2i x) :: r)
  | _ => none
def af_d2l : List Value → Option (List Value)
  | .double x :: r => some (.long (FP.d2l x) :: r)
  | _ => none
def af_lcmp : List Value → Option (List Value)
  | .long y :: .long x :: r => some (.int (lg_cmp x y) :: r)
  | _ => none
def af_lshl : List Value → Option (List Value)
  | .int y :: .long x :: r => some (.long (x <<< (y.toInt64 &&& 63)) :: r)
  | _ => none
def af_lushr : List Value → Option (List Value)
  | .int y :: .long x :: r => some (.long ((x.toUInt64 >>> (y.toInt64.toUInt64 &&& Int64.toUInt64 63)).toInt64) :: r)
  | _ => none
def af_dcmp (op : CmpOp) : List Value → Option (List Value)
  | .double y :: .double x :: r => some (.int (Op.cmpValue (FP.dcmp x y) op) :: r)
  | _ => none
def af_fcmp (op : CmpOp) : List Value → Option (List Value)
  | .float y :: .float x :: r => some (.int (Op.cmpValue (FP.fcmp x y) op) :: r)
  | _ => none
def af_dup : List Value → Option (List Value)
  | v :: r => bif Nat.beq v.category 1 then some (v :: v :: r) else none
  | _ => none
def af_dup11 : List Value → Option (List Value)
  | v :: w :: r => bif Nat.beq v.category 1 then (bif Nat.beq w.category 1 then some (v :: w :: v :: w :: r) else none) else none
  | _ => none
def af_dup2 : List Value → Option (List Value)
  | v :: r => bif Nat.beq v.category 2 then some (v :: v :: r) else none
  | _ => none
def af_pop : List Value → Option (List Value)
  | v :: r => bif Nat.beq v.category 1 then some r else none
  | _ => none
def af_imin : List Value → Option (List Value)
  | [.int y, .int x] => some [.int (if y < x then y else x)]
  | _ => none
def af_d2bits : List Value → Option (List Value)
  | [.double x] => some [.long x.toInt64]
  | _ => none
def af_f2bits : List Value → Option (List Value)
  | [.float x] => some [.int x.toInt32]
  | _ => none
def ac_idiv : List Value → Option (Prop × List Value)
  | .int y :: .int x :: r => some (¬ y = 0, .int (x / y) :: r)
  | _ => none
def ac_irem : List Value → Option (Prop × List Value)
  | .int y :: .int x :: r => some (¬ y = 0, .int (x - x / y * y) :: r)
  | _ => none
def ac_ldiv : List Value → Option (Prop × List Value)
  | .long y :: .long x :: r => some (¬ y = 0, .long (x / y) :: r)
  | _ => none
def ac_lrem : List Value → Option (Prop × List Value)
  | .long y :: .long x :: r => some (¬ y = 0, .long (x - x / y * y) :: r)
  | _ => none
def ac_dadd : List Value → Option (Prop × List Value)
  | .double y :: .double x :: r => some (vf_n64 (FP.dadd x y), .double (FP.dadd x y) :: r)
  | _ => none
def ac_dsub : List Value → Option (Prop × List Value)
  | .double y :: .double x :: r => some (vf_n64 (FP.dsub x y), .double (FP.dsub x y) :: r)
  | _ => none
def ac_dmul : List Value → Option (Prop × List Value)
  | .double y :: .double x :: r => some (vf_n64 (FP.dmul x y), .double (FP.dmul x y) :: r)
  | _ => none
def ac_ddiv : List Value → Option (Prop × List Value)
  | .double y :: .double x :: r => some (vf_n64 (FP.ddiv x y), .double (FP.ddiv x y) :: r)
  | _ => none
def ac_drem : List Value → Option (Prop × List Value)
  | .double y :: .double x :: r => some (vf_n64 (FP.drem x y), .double (FP.drem x y) :: r)
  | _ => none
def ac_fdiv : List Value → Option (Prop × List Value)
  | .float y :: .float x :: r => some (vf_n32 (FP.fdiv x y), .float (FP.fdiv x y) :: r)
  | _ => none
def ac_f2d : List Value → Option (Prop × List Value)
  | .float x :: r => some (vf_n64 (FP.f2d x), .double (FP.f2d x) :: r)
  | _ => none
def ac_d2f : List Value → Option (Prop × List Value)
  | .double x :: r => some (vf_n32 (FP.d2f x), .float (FP.d2f x) :: r)
  | _ => none
def ai_eq0 : List Value → Option (Prop × List Value)
  | .int x :: r => some (x = 0, r)
  | _ => none
def ai_ne0 : List Value → Option (Prop × List Value)
  | .int x :: r => some (¬ x = 0, r)
  | _ => none
def ai_lt0 : List Value → Option (Prop × List Value)
  | .int x :: r => some (x < 0, r)
  | _ => none
def ai_ge0 : List Value → Option (Prop × List Value)
  | .int x :: r => some (0 ≤ x, r)
  | _ => none
def ai_gt0 : List Value → Option (Prop × List Value)
  | .int x :: r => some (0 < x, r)
  | _ => none
def ai_le0 : List Value → Option (Prop × List Value)
  | .int x :: r => some (x ≤ 0, r)
  | _ => none
def ai_eq : List Value → Option (Prop × List Value)
  | .int y :: .int x :: r => some (x = y, r)
  | _ => none
def ai_ne : List Value → Option (Prop × List Value)
  | .int y :: .int x :: r => some (¬ x = y, r)
  | _ => none
def ai_lt : List Value → Option (Prop × List Value)
  | .int y :: .int x :: r => some (x < y, r)
  | _ => none
def ai_ge : List Value → Option (Prop × List Value)
  | .int y :: .int x :: r => some (y ≤ x, r)
  | _ => none
def ai_gt : List Value → Option (Prop × List Value)
  | .int y :: .int x :: r => some (y < x, r)
  | _ => none
def ai_le : List Value → Option (Prop × List Value)
  | .int y :: .int x :: r => some (x ≤ y, r)
  | _ => none
def ai_null : List Value → Option (Prop × List Value)
  | .null :: r => some (True, r)
  | .ref _ :: r => some (False, r)
  | _ => none
def ai_nonnull : List Value → Option (Prop × List Value)
  | .null :: r => some (False, r)
  | .ref _ :: r => some (True, r)
  | _ => none
end
