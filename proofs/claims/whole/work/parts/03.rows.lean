/-! ===== rows of the abstract machine: a walk towards any post ===== -/
section
variable {T : Nat → Nat → Option aq_Op} {Nl : Nat → Nat} {d y : Nat} {Q : aq_F} {pc n : Nat} {L : aq_L} {st r : List Value} {S : aq_S}
def aq_G (T : Nat → Nat → Option aq_Op) (Nl : Nat → Nat) (d y : Nat) (Q : aq_F) (pc : Nat) (L : aq_L) (st : List Value) (S : aq_S) : Prop :=
  ∃ o S', aq_W (T y) (aq_Ex T Nl d) (fun o1 S1 => o1 = o ∧ S1 = S') pc L st S ∧ Q o S'
/-- a call's end: an answer or a throw, and what holds then -/
def aq_X (T : Nat → Nat → Option aq_Op) (Nl : Nat → Nat) (d y : Nat) (As : List Value) (S : aq_S) (Q : aq_F) : Prop := ∃ o S', aq_Ex T Nl d y As S o S' ∧ Q o S'
theorem ar_run {As : List Value} (hn : (lg_sl As).length ≤ Nl y) (hle : ∀ o S1, Q o S1 → aq_le S S1) (k : aq_G T Nl d y Q 0 (lv_args 0 As) [] S) : aq_X T Nl (d + 1) y As S Q := by
  obtain ⟨o, S', hw, hq⟩ := k
  exact ⟨o, S', ⟨⟨hn, hle o S' hq⟩, hw⟩, hq⟩
theorem ar_weak {As : List Value} {Q' : aq_F} (h : aq_X T Nl d y As S Q) (hQ : ∀ o S1, Q o S1 → Q' o S1) : aq_X T Nl d y As S Q' := by
  obtain ⟨o, S', hw, hq⟩ := h
  exact ⟨o, S', hw, hQ o S' hq⟩
theorem ar_gweak {Q' : aq_F} (h : aq_G T Nl d y Q pc L st S) (hQ : ∀ o S1, Q o S1 → Q' o S1) : aq_G T Nl d y Q' pc L st S := by
  obtain ⟨o, S', hw, hq⟩ := h
  exact ⟨o, S', hw, hQ o S' hq⟩
theorem ar_push {v : Value} (hm : T y pc = some (aq_push v n)) (k : aq_G T Nl d y Q n L (v :: st) S) : aq_G T Nl d y Q pc L st S := by
  obtain ⟨o, S', hw, hq⟩ := k
  exact ⟨o, S', aq_W_i hm hw, hq⟩
theorem ar_ld {t i : Nat} {v : Value} (hm : T y pc = some (aq_ld t i n)) (hv : aq_get L i = some v) (ht : aq_is t v = true) (k : aq_G T Nl d y Q n L (v :: st) S) : aq_G T Nl d y Q pc L st S := by
  obtain ⟨o, S', hw, hq⟩ := k
  exact ⟨o, S', aq_W_i hm ⟨v, hv, ht, hw⟩, hq⟩
theorem ar_st {t i : Nat} {v : Value} {L' : aq_L} (hm : T y pc = some (aq_st t i n)) (ht : aq_is t v = true) (hL : aq_put t L i v = L') (k : aq_G T Nl d y Q n L' r S) : aq_G T Nl d y Q pc L (v :: r) S := by
  obtain ⟨o, S', hw, hq⟩ := k
  subst hL
  exact ⟨o, S', aq_W_i hm ⟨v, r, rfl, ht, hw⟩, hq⟩
theorem ar_inc {i : Nat} {c x : Int32} {L' : aq_L} (hm : T y pc = some (aq_inc i c n)) (hv : aq_get L i = some (.int x)) (hL : aq_put1 L i (.int (x + c)) = L') (k : aq_G T Nl d y Q n L' st S) : aq_G T Nl d y Q pc L st S := by
  obtain ⟨o, S', hw, hq⟩ := k
  subst hL
  exact ⟨o, S', aq_W_i hm ⟨x, hv, hw⟩, hq⟩
theorem ar_ar {f : List Value → Option (List Value)} (hm : T y pc = some (aq_ar f n)) (hf : f st = some r) (k : aq_G T Nl d y Q n L r S) : aq_G T Nl d y Q pc L st S := by
  obtain ⟨o, S', hw, hq⟩ := k
  exact ⟨o, S', aq_W_i hm ⟨r, hf, hw⟩, hq⟩
theorem ar_arc {f : List Value → Option (Prop × List Value)} {c : Prop} (hm : T y pc = some (aq_arc f n)) (hf : f st = some (c, r)) (hc : c) (k : aq_G T Nl d y Q n L r S) : aq_G T Nl d y Q pc L st S := by
  obtain ⟨o, S', hw, hq⟩ := k
  exact ⟨o, S', aq_W_i hm ⟨c, r, hf, hc, hw⟩, hq⟩
theorem ar_if {f : List Value → Option (Prop × List Value)} {c : Prop} {tgt : Nat} (hm : T y pc = some (aq_if f tgt n)) (hf : f st = some (c, r)) (kt : c → aq_G T Nl d y Q tgt L r S) (kf : ¬ c → aq_G T Nl d y Q n L r S) : aq_G T Nl d y Q pc L st S := by
  rcases Classical.em c with h | h
  · obtain ⟨o, S', hw, hq⟩ := kt h
    exact ⟨o, S', aq_W_i hm ⟨c, r, hf, fun _ => hw, fun q => absurd h q⟩, hq⟩
  · obtain ⟨o, S', hw, hq⟩ := kf h
    exact ⟨o, S', aq_W_i hm ⟨c, r, hf, fun q => absurd q h, fun _ => hw⟩, hq⟩
theorem ar_ift {f : List Value → Option (Prop × List Value)} {c : Prop} {tgt : Nat} (hm : T y pc = some (aq_if f tgt n)) (hf : f st = some (c, r)) (hc : c) (k : aq_G T Nl d y Q tgt L r S) : aq_G T Nl d y Q pc L st S := ar_if hm hf (fun _ => k) (fun q => absurd hc q)
theorem ar_iff {f : List Value → Option (Prop × List Value)} {c : Prop} {tgt : Nat} (hm : T y pc = some (aq_if f tgt n)) (hf : f st = some (c, r)) (hc : ¬ c) (k : aq_G T Nl d y Q n L r S) : aq_G T Nl d y Q pc L st S := ar_if hm hf (fun q => absurd q hc) (fun _ => k)
theorem ar_go {tgt : Nat} (hm : T y pc = some (aq_go tgt)) (k : aq_G T Nl d y Q tgt L st S) : aq_G T Nl d y Q pc L st S := by
  obtain ⟨o, S', hw, hq⟩ := k
  exact ⟨o, S', aq_W_i hm hw, hq⟩
theorem ar_gf {ci kf a : Nat} {fs : List Value} {v : Value} (hm : T y pc = some (aq_gf ci kf n)) (ha : S.2.2.2 a = some (.inr (ci, fs))) (hv : fs[kf]? = some v) (k : aq_G T Nl d y Q n L (v :: r) S) : aq_G T Nl d y Q pc L (.ref a :: r) S := by
  obtain ⟨o, S', hw, hq⟩ := k
  exact ⟨o, S', aq_W_i hm ⟨a, r, fs, v, rfl, ha, hv, hw⟩, hq⟩
theorem ar_pf {ci kf ty a : Nat} {fs fs' : List Value} {v : Value} {S2 : aq_S} (hm : T y pc = some (aq_pf ci kf ty n)) (ha : S.2.2.2 a = some (.inr (ci, fs))) (hk : kf < fs.length) (hv : aq_fit ty v) (hf : fs.set kf v = fs') (hS : aq_set S a (.inr (ci, fs')) = S2) (k : aq_G T Nl d y Q n L r S2) : aq_G T Nl d y Q pc L (v :: .ref a :: r) S := by
  obtain ⟨o, S', hw, hq⟩ := k
  subst hS hf
  exact ⟨o, S', aq_W_i hm ⟨v, a, r, fs, rfl, ha, hk, hv, hw⟩, hq⟩
theorem ar_ldi {kd a m : Nat} {i : Int32} {f : Nat → Int32} (hm : T y pc = some (aq_ldi kd n)) (ha : S.2.2.2 a = some (.inl (kd, (m, .inl f)))) (hi : vp_in i m) (k : aq_G T Nl d y Q n L (.int (f i.toNatClampNeg) :: r) S) : aq_G T Nl d y Q pc L (.int i :: .ref a :: r) S := by
  obtain ⟨o, S', hw, hq⟩ := k
  exact ⟨o, S', aq_W_i hm ⟨i, a, r, m, f, rfl, ha, hi, hw⟩, hq⟩
theorem ar_ldl {a m : Nat} {i : Int32} {f : Nat → Int64} (hm : T y pc = some (aq_ldl n)) (ha : S.2.2.2 a = some (.inl (1, (m, .inr (.inl f))))) (hi : vp_in i m) (k : aq_G T Nl d y Q n L (.long (f i.toNatClampNeg) :: r) S) : aq_G T Nl d y Q pc L (.int i :: .ref a :: r) S := by
  obtain ⟨o, S', hw, hq⟩ := k
  exact ⟨o, S', aq_W_i hm ⟨i, a, r, m, f, rfl, ha, hi, hw⟩, hq⟩
theorem ar_ldd {a m : Nat} {i : Int32} {f : Nat → UInt64} (hm : T y pc = some (aq_ldd n)) (ha : S.2.2.2 a = some (.inl (2, (m, .inr (.inr (.inr (.inl f))))))) (hi : vp_in i m) (k : aq_G T Nl d y Q n L (.double (f i.toNatClampNeg) :: r) S) : aq_G T Nl d y Q pc L (.int i :: .ref a :: r) S := by
  obtain ⟨o, S', hw, hq⟩ := k
  exact ⟨o, S', aq_W_i hm ⟨i, a, r, m, f, rfl, ha, hi, hw⟩, hq⟩
theorem ar_lda {kd a m : Nat} {i : Int32} {f : Nat → Option Nat} (hm : T y pc = some (aq_lda kd n)) (ha : S.2.2.2 a = some (.inl (kd, (m, .inr (.inr (.inr (.inr f))))))) (hi : vp_in i m) (k : aq_G T Nl d y Q n L (va_rf (f i.toNatClampNeg) :: r) S) : aq_G T Nl d y Q pc L (.int i :: .ref a :: r) S := by
  obtain ⟨o, S', hw, hq⟩ := k
  exact ⟨o, S', aq_W_i hm ⟨i, a, r, m, f, rfl, ha, hi, hw⟩, hq⟩
theorem ar_sti {a m : Nat} {i x : Int32} {f : Nat → Int32} {S2 : aq_S} (hm : T y pc = some (aq_sti n)) (h0 : a ≠ 0) (ha : S.2.2.2 a = some (.inl (0, (m, .inl f)))) (hi : vp_in i m) (hS : aq_set S a (.inl (0, (m, .inl (upd f i.toNatClampNeg x)))) = S2) (k : aq_G T Nl d y Q n L r S2) : aq_G T Nl d y Q pc L (.int x :: .int i :: .ref a :: r) S := by
  obtain ⟨o, S', hw, hq⟩ := k
  subst hS
  exact ⟨o, S', aq_W_i hm ⟨x, i, a, r, m, f, rfl, h0, ha, hi, hw⟩, hq⟩
theorem ar_stz {a m : Nat} {i x : Int32} {f : Nat → Int32} {S2 : aq_S} (hm : T y pc = some (aq_stz n)) (h0 : a ≠ 0) (ha : S.2.2.2 a = some (.inl (3, (m, .inl f)))) (hi : vp_in i m) (hx : x = 0 ∨ x = 1) (hS : aq_set S a (.inl (3, (m, .inl (upd f i.toNatClampNeg x)))) = S2) (k : aq_G T Nl d y Q n L r S2) : aq_G T Nl d y Q pc L (.int x :: .int i :: .ref a :: r) S := by
  obtain ⟨o, S', hw, hq⟩ := k
  subst hS
  exact ⟨o, S', aq_W_i hm ⟨x, i, a, r, m, f, rfl, h0, ha, hi, hx, hw⟩, hq⟩
theorem ar_stl {a m : Nat} {i : Int32} {x : Int64} {f : Nat → Int64} {S2 : aq_S} (hm : T y pc = some (aq_stl n)) (h0 : a ≠ 0) (ha : S.2.2.2 a = some (.inl (1, (m, .inr (.inl f))))) (hi : vp_in i m) (hS : aq_set S a (.inl (1, (m, .inr (.inl (vp_updL f i.toNatClampNeg x))))) = S2) (k : aq_G T Nl d y Q n L r S2) : aq_G T Nl d y Q pc L (.long x :: .int i :: .ref a :: r) S := by
  obtain ⟨o, S', hw, hq⟩ := k
  subst hS
  exact ⟨o, S', aq_W_i hm ⟨x, i, a, r, m, f, rfl, h0, ha, hi, hw⟩, hq⟩
theorem ar_std {a m : Nat} {i : Int32} {x : UInt64} {f : Nat → UInt64} {S2 : aq_S} (hm : T y pc = some (aq_std n)) (h0 : a ≠ 0) (ha : S.2.2.2 a = some (.inl (2, (m, .inr (.inr (.inr (.inl f))))))) (hi : vp_in i m) (hS : aq_set S a (.inl (2, (m, .inr (.inr (.inr (.inl (vf_upd f i.toNatClampNeg x))))))) = S2) (k : aq_G T Nl d y Q n L r S2) : aq_G T Nl d y Q pc L (.double x :: .int i :: .ref a :: r) S := by
  obtain ⟨o, S', hw, hq⟩ := k
  subst hS
  exact ⟨o, S', aq_W_i hm ⟨x, i, a, r, m, f, rfl, h0, ha, hi, hw⟩, hq⟩
theorem ar_sta {kd ci a m v : Nat} {i : Int32} {f : Nat → Option Nat} {vs : List Value} {S2 : aq_S} (hm : T y pc = some (aq_sta kd ci n)) (h0 : a ≠ 0) (h1 : v ≠ 0) (ha : S.2.2.2 a = some (.inl (kd, (m, .inr (.inr (.inr (.inr f))))))) (hv : S.2.2.2 v = some (.inr (ci, vs))) (hi : vp_in i m) (hS : aq_set S a (.inl (kd, (m, .inr (.inr (.inr (.inr (va_up f i.toNatClampNeg (some v)))))))) = S2) (k : aq_G T Nl d y Q n L r S2) : aq_G T Nl d y Q pc L (.ref v :: .int i :: .ref a :: r) S := by
  obtain ⟨o, S', hw, hq⟩ := k
  subst hS
  exact ⟨o, S', aq_W_i hm ⟨v, i, a, r, m, f, vs, rfl, h0, h1, ha, hv, hi, hw⟩, hq⟩
theorem ar_len {a kd : Nat} {x : vp_A} (hm : T y pc = some (aq_len n)) (hkd : kd < 6) (ha : S.2.2.2 a = some (.inl (kd, x))) (k : aq_G T Nl d y Q n L (.int (Int32.ofNat x.1) :: r) S) : aq_G T Nl d y Q pc L (.ref a :: r) S := by
  obtain ⟨o, S', hw, hq⟩ := k
  exact ⟨o, S', aq_W_i hm ⟨a, r, kd, x, rfl, hkd, ha, hw⟩, hq⟩
theorem ar_new {ci nf : Nat} {fs : List Value} {S2 : aq_S} (hm : T y pc = some (aq_new ci nf fs n)) (h0 : S.2.1 = 0) (hS : aq_mk S (.inr (ci, fs)) nf = S2) (k : aq_G T Nl d y Q n L (.ref S.1 :: st) S2) : aq_G T Nl d y Q pc L st S := by
  obtain ⟨o, S', hw, hq⟩ := k
  subst hS
  exact ⟨o, S', aq_W_i hm ⟨h0, hw⟩, hq⟩
theorem ar_newa {kd m : Nat} {i : Int32} {S2 : aq_S} (hm : T y pc = some (aq_newa kd n)) (h0 : S.2.1 = 0) (hi : ¬ i < 0) (hz : i.toNatClampNeg = m) (hm2 : m ≤ 1000) (hS : aq_mk S (.inl (kd, (m, aq_dflt kd))) m = S2) (k : aq_G T Nl d y Q n L (.ref S.1 :: r) S2) : aq_G T Nl d y Q pc L (.int i :: r) S := by
  obtain ⟨o, S', hw, hq⟩ := k
  subst hS hz
  exact ⟨o, S', aq_W_i hm ⟨i, r, rfl, h0, hi, hm2, hw⟩, hq⟩
theorem ar_oi {a : Nat} (hm : T y pc = some (aq_oi n)) (hc : (r.map fun v => v.category).sum ≤ 8) (k : aq_G T Nl d y Q n L r S) : aq_G T Nl d y Q pc L (.ref a :: r) S := by
  obtain ⟨o, S', hw, hq⟩ := k
  exact ⟨o, S', aq_W_i hm ⟨a, r, rfl, hc, hw⟩, hq⟩
theorem ar_call {y' nA : Nat} {rc : Option Nat} {As : List Value} {Q1 : aq_F} (hm : T y pc = some (aq_call y' nA rc n)) (hp : aq_pop nA st = some (As, r)) (hr : aq_rcv rc As S) (hc : (r.map fun v => v.category).sum ≤ 8) (hX : aq_X T Nl d y' As S Q1) (k : ∀ v S1, Q1 (.inl v) S1 → aq_G T Nl d y Q n L (v.toList ++ r) S1) (kx : ∀ E S1, Q1 (.inr E) S1 → Q (.inr E) S1) : aq_G T Nl d y Q pc L st S := by
  obtain ⟨o1, S1, hx, h1⟩ := hX
  rcases o1 with v | E
  · obtain ⟨o, S', hw, hq⟩ := k v S1 h1
    exact ⟨o, S', aq_W_i hm ⟨As, r, hp, hr, hc, _, S1, hx, fun v' e => by cases e; exact hw, fun E e => by cases e⟩, hq⟩
  · exact ⟨_, S1, aq_W_i hm ⟨As, r, hp, hr, hc, _, S1, hx, (fun v' e => by cases e), (fun E' e => by cases e; exact ⟨rfl, rfl⟩)⟩, kx E S1 h1⟩
/-- a call that answers, with a known answer and a known state behind it -/
theorem ar_cr {y' nA : Nat} {rc : Option Nat} {As : List Value} {v : Value} {S1 : aq_S} (hm : T y pc = some (aq_call y' nA rc n)) (hp : aq_pop nA st = some (As, r)) (hr : aq_rcv rc As S) (hc : (r.map fun v => v.category).sum ≤ 8) (hX : aq_X T Nl d y' As S (fun o S' => o = .inl (some v) ∧ S' = S1)) (k : aq_G T Nl d y Q n L (v :: r) S1) : aq_G T Nl d y Q pc L st S :=
  ar_call hm hp hr hc hX (fun _ _ h => by obtain ⟨h1, h2⟩ := h; cases h1; subst h2; exact k) (fun _ _ h => by obtain ⟨h1, h2⟩ := h; cases h1)
theorem ar_cv {y' nA : Nat} {rc : Option Nat} {As : List Value} {S1 : aq_S} (hm : T y pc = some (aq_call y' nA rc n)) (hp : aq_pop nA st = some (As, r)) (hr : aq_rcv rc As S) (hc : (r.map fun v => v.category).sum ≤ 8) (hX : aq_X T Nl d y' As S (fun o S' => o = .inl none ∧ S' = S1)) (k : aq_G T Nl d y Q n L r S1) : aq_G T Nl d y Q pc L st S :=
  ar_call hm hp hr hc hX (fun _ _ h => by obtain ⟨h1, h2⟩ := h; cases h1; subst h2; exact k) (fun _ _ h => by obtain ⟨h1, h2⟩ := h; cases h1)
theorem ar_callh {y' nA : Nat} {rc : Option Nat} {hs : List (String × Int32)} {As : List Value} {Q1 : aq_F} (hm : T y pc = some (aq_callh y' nA rc hs n)) (hp : aq_pop nA st = some (As, r)) (hr : aq_rcv rc As S) (hc : (r.map fun v => v.category).sum ≤ 8) (hX : aq_X T Nl d y' As S Q1) (k : ∀ v S1, Q1 (.inl v) S1 → aq_G T Nl d y Q n L (v.toList ++ r) S1) (kx : ∀ E S1, Q1 (.inr E) S1 → ∃ c, hs.lookup E = some c ∧ Q (.inl (some (.int c))) S1) : aq_G T Nl d y Q pc L st S := by
  obtain ⟨o1, S1, hx, h1⟩ := hX
  rcases o1 with v | E
  · obtain ⟨o, S', hw, hq⟩ := k v S1 h1
    exact ⟨o, S', aq_W_i hm ⟨As, r, hp, hr, hc, _, S1, hx, fun v' e => by cases e; exact hw, fun E e => by cases e⟩, hq⟩
  · obtain ⟨c, hc1, hc2⟩ := kx E S1 h1
    exact ⟨_, S1, aq_W_i hm ⟨As, r, hp, hr, hc, _, S1, hx, (fun v' e => by cases e), (fun E' e => by cases e; exact ⟨c, hc1, rfl, rfl⟩)⟩, hc2⟩
theorem ar_ret {t : Nat} {v : Value} (hm : T y pc = some (aq_ret t)) (hv : aq_fit t v) (k : Q (.inl (some v)) S) : aq_G T Nl d y Q pc L [v] S := ⟨_, S, aq_W_i hm ⟨v, rfl, hv, rfl, rfl⟩, k⟩
theorem ar_retv (hm : T y pc = some aq_retv) (k : Q (.inl none) S) : aq_G T Nl d y Q pc L [] S := ⟨_, S, aq_W_i hm ⟨rfl, rfl, rfl⟩, k⟩
theorem ar_thr {E : String} (hm : T y pc = some (aq_thr E)) (hc : (st.map fun v => v.category).sum ≤ 8) (k : Q (.inr E) (aq_thrown S)) : aq_G T Nl d y Q pc L st S := ⟨_, _, aq_W_i hm ⟨hc, rfl, rfl⟩, k⟩
theorem ar_sw {ts : List Nat} {dflt : Nat} {x : Int32} (hm : T y pc = some (aq_sw ts dflt)) (k : ∃ t, ((∃ i : Nat, x.toInt = (i : Int) ∧ ts[i]? = some t) ∨ ((x.toInt < 0 ∨ (ts.length : Int) ≤ x.toInt) ∧ t = dflt)) ∧ aq_G T Nl d y Q t L r S) : aq_G T Nl d y Q pc L (.int x :: r) S := by
  obtain ⟨t, h, o, S', hw, hq⟩ := k
  refine ⟨o, S', aq_W_i hm ⟨x, r, rfl, fun i t' h1 h2 => ?_, fun h1 => ?_⟩, hq⟩
  · rcases h with ⟨j, h3, h4⟩ | ⟨h3, -⟩
    · have : i = j := by omega
      subst this
      rw [h2] at h4
      cases h4
      exact hw
    · have := (List.getElem?_eq_some_iff.mp h2).1
      omega
  · rcases h with ⟨j, h3, h4⟩ | ⟨-, rfl⟩
    · have := (List.getElem?_eq_some_iff.mp h4).1
      omega
    · exact hw
end
