/-! ===== class and reference side by side (printed by wip/whole/mkJ.py) ===== -/
section
abbrev jD : Type := (Nat × Nat × Nat × Int32 × Int32) × ((Nat → Nat) × (Nat → Nat → Int32) × (Nat → Nat) × (Nat → Nat → Int32) × (Nat → Nat)) × (Nat × Nat × (Nat → Nat) × (Nat → Nat → Int32) × (Nat → Nat) × (Nat → Nat → Int32)) × (Nat → Int32) × (Nat → Nat) × (Nat → Nat → UInt64)
/-- the class holds these data -/
def jC (S : aq_S) : jD → Prop
  | ((k, c, n, hs, err), (N, G, pn, pg, inp), (ks, cs, Ns, Gs, pns, pgs), ty, sz, v) => hT S k hs ∧ hWs S 2 N G ∧ hP S 4 c pn pg ∧ (hS S 14 ks ∧ hA S 14 ∧ hWs S 14 Ns Gs ∧ hP S 16 cs pns pgs) ∧ hI S n inp err ∧ hD S ∧ kQ S ∧ hRA S ∧ (∃ acc, la S 47 3 acc) ∧ hRs S ty sz v
/-- the reference holds these data -/
def jM (S : aq_S) (th : Int32) : jD → Prop
  | ((k, c, n, hs, err), (N, G, pn, pg, inp), (ks, cs, Ns, Gs, pns, pgs), ty, sz, v) => (∃ rd tl cur sv, mO S th (nI k) (nI n) err rd tl (nI c) (-1) cur hs sv) ∧ mW S N G ∧ mPt S c pn pg ∧ mI S n inp ∧ mP S ∧ mBg S ∧ mGr S ∧ mRw S ty sz v ∧ (∃ F, ia S 70 240 F) ∧ (hs = 1 → mSv S ks cs Ns Gs pns pgs)
def jV : jD → Prop
  | ((k, c, _, hs, err), (N, G, pn, pg, _), (ks, cs, Ns, Gs, pns, pgs), ty, _, v) => (0 < k ∧ k ≤ 3) ∧ pOk c pn pg ∧ (∀ r, r < 4 → ∀ i, i < N r → isY k (G r i)) ∧ (hs = 0 ∨ hs = 1) ∧ (hs = 1 → (0 < ks ∧ ks ≤ 3) ∧ pOk cs pns pgs ∧ ∀ r, r < 4 → ∀ i, i < Ns r → isY ks (Gs r i)) ∧ (err = -1 ∨ ∃ e, e ≤ 30 ∧ err = nI e) ∧ ∀ r, r < 2 → (ty r = -1 ∨ ty r = 0 ∨ ty r = 1) ∧ (¬ ty r = -1 → ∀ i, i < 41 → eI (ty r) (v r i))
def jQc (q : Nat) : Prop := 1 ≤ q ∧ q ≤ 51
def jQm (q : Nat) : Prop := 52 ≤ q ∧ q ≤ 70
theorem rg (x : Int32) (n : Nat) (hn : n < 2 ^ 31) : (x < 0 ∨ nI n ≤ x) ∨ ∃ j, j < n ∧ x = nI j := (pk_ix x hn).elim (fun z => Or.inl (Or.inl z)) (fun z => z.elim (fun z => Or.inl (Or.inr z)) Or.inr)
theorem rgb (x : Int32) (a n : Nat) (ha : a ≤ n) (hn : n < 2 ^ 31) : (x < nI a ∨ nI n ≤ x) ∨ ∃ j, a ≤ j ∧ j < n ∧ x = nI j := by
  rcases rg x n hn with (h | h) | ⟨j, h, e⟩
  · refine Or.inl (Or.inl ?_)
    have := nI_pos' (n := a) (by omega)
    exact Int32.lt_of_lt_of_le h this
  · exact Or.inl (Or.inr h)
  · rcases Nat.lt_or_ge j a with z | z
    · exact Or.inl (Or.inl (e ▸ nI_lt z (by omega)))
    · exact Or.inr ⟨j, z, h, e⟩
theorem rgl (x : Int64) (n : Nat) (hn : n < 2 ^ 63) : (x < 0 ∨ lN n ≤ x) ∨ ∃ j, j < n ∧ x = lN j := by
  rcases Classical.em (x < 0) with h | h
  · exact Or.inl (Or.inl h)
  · obtain ⟨j, hj, e⟩ := pk_lOf h
    rcases Nat.lt_or_ge j n with z | z
    · exact Or.inr ⟨j, z, e⟩
    · exact Or.inl (Or.inr (e ▸ (pk_lLE hn hj).mpr z))
theorem hWs.fr' {S S' : aq_S} {b : Nat} {N : Nat → Nat} {G : Nat → Nat → Int32} {P : Nat → Prop} (h : hWs S b N G) (q : aq_fr S S' P) (hp : ∀ x, b + 4 ≤ x → x ≤ b + 11 → ¬ P x) : hWs S' b N G := fun r hr => (h r hr).fr q (hp _ (by omega) (by omega)) (hp _ (by omega) (by omega))
theorem hD.fr' {S S' : aq_S} {P : Nat → Prop} (h : hD S) (q : aq_fr S S' P) (hp : ∀ x, 43 ≤ x → x ≤ 46 → ¬ P x) : hD S' := by
  obtain ⟨⟨n, g, h1⟩, m, f, h2⟩ := h
  exact ⟨⟨n, g, h1.fr q (hp _ (by omega) (by omega)) (hp _ (by omega) (by omega))⟩, m, f, h2.fr q (hp _ (by omega) (by omega)) (hp _ (by omega) (by omega))⟩
theorem kQ.fr' {S S' : aq_S} {P : Nat → Prop} (h : kQ S) (q : aq_fr S S' P) (hp : ∀ x, 31 ≤ x → x ≤ 41 → ¬ P x) : kQ S' := by
  obtain ⟨⟨lt, st, h0⟩, ⟨f2, h2⟩, ⟨f3, h3⟩, ⟨f4, h4⟩, ⟨f5, h5, h5'⟩, ⟨f6, h6⟩, ⟨f7, h7⟩, ⟨f8, h8⟩, ⟨f9, h9⟩, ⟨f10, h10⟩, ⟨f11, h11⟩⟩ := h
  exact ⟨⟨lt, st, h0.fr q (hp _ (by omega) (by omega))⟩, ⟨f2, h2.fr q (hp _ (by omega) (by omega))⟩, ⟨f3, h3.fr q (hp _ (by omega) (by omega))⟩, ⟨f4, h4.fr q (hp _ (by omega) (by omega))⟩, ⟨f5, h5.fr q (hp _ (by omega) (by omega)), h5'⟩, ⟨f6, h6.fr q (hp _ (by omega) (by omega))⟩, ⟨f7, h7.fr q (hp _ (by omega) (by omega))⟩, ⟨f8, h8.fr q (hp _ (by omega) (by omega))⟩, ⟨f9, h9.fr q (hp _ (by omega) (by omega))⟩, ⟨f10, h10.fr q (hp _ (by omega) (by omega))⟩, ⟨f11, h11.fr q (hp _ (by omega) (by omega))⟩⟩
theorem hRs.fr' {S S' : aq_S} {ty : Nat → Int32} {sz : Nat → Nat} {v : Nat → Nat → UInt64} {P : Nat → Prop} (h : hRs S ty sz v) (q : aq_fr S S' P) (hp : ∀ x, 48 ≤ x → x ≤ 51 → ¬ P x) : hRs S' ty sz v := fun r hr => (h r hr).fr q (hp _ (by omega) (by omega)) (hp _ (by omega) (by omega))
theorem hWs_put {S S' : aq_S} {N : Nat → Nat} {G : Nat → Nat → Int32} {P : Nat → Prop} {r m : Nat} {g : Nat → Int32} (h : hWs S 2 N G) (q : aq_fr S S' P) (hP : ∀ x, P x → (x = 6 + 2 * r ∨ x = 6 + 2 * r + 1) ∨ x < 6 ∨ 13 < x) (w : isW S' (6 + 2 * r) m g) : hWs S' 2 (updN N r m) (updG G r g) := fun j hj => by
  show isW S' (6 + 2 * j) _ _
  by_cases e : j = r
  · subst e
    rw [updN_eq, updG_eq]
    exact w
  · rw [updN_ne e, updG_ne e]
    have h1 : isW S (6 + 2 * j) (N j) (G j) := h j hj
    exact h1.fr q (fun z => by have := hP _ z; omega) (fun z => by have := hP _ z; omega)
theorem hRs_put {S S' : aq_S} {ty ty' : Nat → Int32} {sz sz' : Nat → Nat} {v v' : Nat → Nat → UInt64} {P : Nat → Prop} {r : Nat} (h : hRs S ty sz v) (q : aq_fr S S' P) (hP : ∀ x, P x → x = 48 + 2 * r ∨ x = 48 + 2 * r + 1) (w : hRow S' (48 + 2 * r) (ty' r) (sz' r) (v' r)) (hne : ∀ j, j ≠ r → ty' j = ty j ∧ sz' j = sz j ∧ v' j = v j) : hRs S' ty' sz' v' := fun j hj => by
  by_cases e : j = r
  · subst e
    exact w
  · obtain ⟨e1, e2, e3⟩ := hne j e
    rw [e1, e2, e3]
    exact (h j hj).fr q (fun z => by have := hP _ z; omega) (fun z => by have := hP _ z; omega)
theorem mPt.zero {S : aq_S} {c : Nat} {pn pn' : Nat → Nat} {pg pg' : Nat → Nat → Int32} (h : mPt S c pn pg) : mPt S 0 pn' pg' := by
  obtain ⟨fL, fp, h1, h2, -⟩ := h
  exact ⟨fL, fp, h1, h2, fun i z => absurd z (Nat.not_lt_zero _), fun i z => absurd z (Nat.not_lt_zero _)⟩
theorem mI.zero {S : aq_S} {n : Nat} {inp inp' : Nat → Nat} (h : mI S n inp) : mI S 0 inp' := by
  obtain ⟨F, h1, -⟩ := h
  exact ⟨F, h1, Nat.zero_le _, fun i z => absurd z (Nat.not_lt_zero _)⟩
theorem hI.le {S : aq_S} {n : Nat} {inp : Nat → Nat} {err : Int32} (h : hI S n inp err) : n ≤ 30 := by
  obtain ⟨m, g, tl, oc, is, mr, mc, F, O, -, -, h3, -⟩ := h
  exact h3
theorem upd_put {k r m : Nat} {N : Nat → Nat} {G : Nat → Nat → Int32} {g : Nat → Int32} (h : ∀ r, r < 4 → ∀ i, i < N r → isY k (G r i)) (hg : ∀ i, i < m → isY k (g i)) : ∀ j, j < 4 → ∀ i, i < updN N r m j → isY k (updG G r g j i) := fun j hj i hi => by
  by_cases e : j = r
  · subst e
    rw [updG_eq]
    rw [updN_eq] at hi
    exact hg i hi
  · rw [updG_ne e]
    rw [updN_ne e] at hi
    exact h j hj i hi
theorem isY.mono {k j : Nat} {s : Int32} (h : isY k s) (hk : k ≤ j) (hj : j ≤ 3) : isY j s := by
  rcases h with h | ⟨h1, h2⟩
  · exact Or.inl h
  · exact Or.inr ⟨h1, Int32.lt_of_lt_of_le h2 (nI_le hk (by omega))⟩
theorem isY_nI {k l : Nat} (h : l < k) (hk : k ≤ 3) : isY k (nI l) := Or.inr ⟨nI_pos (by omega), nI_lt h (by omega)⟩
theorem isY.fY {k : Nat} {s : Int32} (h : isY k s) (hk : k ≤ 3) : s = -1 ∨ ∃ l, l < k ∧ s = nI l := by
  rcases h with h | ⟨h1, h2⟩
  · exact Or.inl h
  · obtain ⟨j, hj, e⟩ := nI_of h1
    subst e
    exact Or.inr ⟨j, (nI_ltI hj (by omega)).mp h2, rfl⟩
theorem jC.fr {S S' : aq_S} {P : Nat → Prop} : ∀ {D : jD}, jC S D → aq_fr S S' P → (∀ x, 1 ≤ x → x ≤ 51 → ¬ P x) → jC S' D := by
  rintro ⟨⟨k, c, n, hs, err⟩, ⟨N, G, pn, pg, inp⟩, ⟨ks, cs, Ns, Gs, pns, pgs⟩, ty, sz, v⟩ ⟨c1, c2, c3, ⟨c4, c5, c6, c7⟩, c8, c9, c10, c11, ⟨acc, c12⟩, c13⟩ q hp
  exact ⟨⟨c1.1.fr q (hp _ (by omega) (by omega)), c1.2.1.fr q (hp _ (by omega) (by omega)), c1.2.2.fr q (hp _ (by omega) (by omega))⟩, c2.fr' q (fun x _ _ => hp x (by omega) (by omega)), c3.fr q (hp _ (by omega) (by omega)) (hp _ (by omega) (by omega)), ⟨c4.fr q (hp _ (by omega) (by omega)), c5.fr q (hp _ (by omega) (by omega)), c6.fr' q (fun x _ _ => hp x (by omega) (by omega)), c7.fr q (hp _ (by omega) (by omega)) (hp _ (by omega) (by omega))⟩, c8.fr q (fun x _ _ => hp x (by omega) (by omega)), c9.fr' q (fun x _ _ => hp x (by omega) (by omega)), c10.fr' q (fun x _ _ => hp x (by omega) (by omega)), c11.fr q (hp _ (by omega) (by omega)), ⟨acc, c12.fr q (hp _ (by omega) (by omega))⟩, c13.fr' q (fun x _ _ => hp x (by omega) (by omega))⟩
theorem jM.fr {S S' : aq_S} {th : Int32} {P : Nat → Prop} : ∀ {D : jD}, jM S th D → aq_fr S S' P → (∀ x, 52 ≤ x → x ≤ 70 → ¬ P x) → jM S' th D := by
  rintro ⟨⟨k, c, n, hs, err⟩, ⟨N, G, pn, pg, inp⟩, ⟨ks, cs, Ns, Gs, pns, pgs⟩, ty, sz, v⟩ ⟨⟨rd, tl, cur, sv, m1⟩, m2, m3, m4, m5, m6, m7, m8, ⟨F70, m9⟩, m10⟩ q hp
  exact ⟨⟨rd, tl, cur, sv, m1.fr q (hp _ (by omega) (by omega))⟩, m2.fr q (hp _ (by omega) (by omega)) (hp _ (by omega) (by omega)), m3.fr q (hp _ (by omega) (by omega)) (hp _ (by omega) (by omega)), m4.fr q (hp _ (by omega) (by omega)), m5.fr q (hp _ (by omega) (by omega)), m6.fr q (hp _ (by omega) (by omega)), m7.fr q (fun x _ _ => hp x (by omega) (by omega)), m8.fr q (hp _ (by omega) (by omega)) (hp _ (by omega) (by omega)) (hp _ (by omega) (by omega)), ⟨F70, m9.fr q (hp _ (by omega) (by omega))⟩, fun z => (m10 z).fr q (hp _ (by omega) (by omega))⟩
theorem jC.th {S : aq_S} : ∀ {D : jD}, jC S D → jC (aq_thrown S) D := by
  rintro ⟨⟨k, c, n, hs, err⟩, ⟨N, G, pn, pg, inp⟩, ⟨ks, cs, Ns, Gs, pns, pgs⟩, ty, sz, v⟩ ⟨c1, c2, c3, ⟨c4, c5, c6, c7⟩, c8, c9, c10, c11, ⟨acc, c12⟩, c13⟩
  exact ⟨c1, c2, c3, ⟨c4, c5, c6, c7⟩, c8, c9, c10, c11, ⟨acc, c12⟩, c13⟩
theorem jM.th {S : aq_S} {t : Int32} : ∀ {D : jD}, jM S t D → jM (aq_thrown S) t D := by
  rintro ⟨⟨k, c, n, hs, err⟩, ⟨N, G, pn, pg, inp⟩, ⟨ks, cs, Ns, Gs, pns, pgs⟩, ty, sz, v⟩ ⟨⟨rd, tl, cur, sv, m1⟩, m2, m3, m4, m5, m6, m7, m8, ⟨F70, m9⟩, m10⟩
  exact ⟨⟨rd, tl, cur, sv, m1⟩, m2, m3, m4, m5, m6, m7, m8, ⟨F70, m9⟩, m10⟩
theorem jC.x {S : aq_S} : ∀ {D : jD}, jC S D → ∃ hs, hX S hs := by
  rintro ⟨⟨k, c, n, hs, err⟩, ⟨N, G, pn, pg, inp⟩, ⟨ks, cs, Ns, Gs, pns, pgs⟩, ty, sz, v⟩ h
  exact ⟨hs, h.1.1⟩
theorem jM.o {S : aq_S} {th : Int32} : ∀ {D : jD}, jM S th D → ∃ fs, S.2.2.2 52 = some (.inr (7, .int th :: fs)) := by
  rintro ⟨⟨k, c, n, hs, err⟩, ⟨N, G, pn, pg, inp⟩, ⟨ks, cs, Ns, Gs, pns, pgs⟩, ty, sz, v⟩ ⟨⟨rd, tl, cur, sv, m1⟩, m2, m3, m4, m5, m6, m7, m8, ⟨F70, m9⟩, m10⟩
  exact ⟨_, m1⟩
/-- how many cells there are, how many were thrown, the script -/
def jB (S : aq_S) (t n : Nat) (xs : Nat → Int32) : Prop := S.1 = 72 ∧ S.2.1 ≤ t ∧ S.2.2.1 ≤ 4000 + 6 * t ∧ S.2.2.2 0 = some (.inl (0, (n, .inl xs)))
theorem jB.fr {S S' : aq_S} {t n : Nat} {xs : Nat → Int32} {P : Nat → Prop} (h : jB S t n xs) (q : aq_fr S S' P) (hp : ¬ P 0) : jB S' t n xs := ⟨q.1.trans h.1, q.2.1 ▸ h.2.1, q.2.2.1 ▸ h.2.2.1, (q.2.2.2 0 hp).trans h.2.2.2⟩
theorem jB.up {S : aq_S} {t n : Nat} {xs : Nat → Int32} (h : jB S t n xs) : jB S (t + 1) n xs := ⟨h.1, Nat.le_succ_of_le h.2.1, by have := h.2.2.1; omega, h.2.2.2⟩
theorem jB.th {S : aq_S} {t n : Nat} {xs : Nat → Int32} (h : jB S t n xs) : jB (aq_thrown S) (t + 1) n xs := ⟨h.1, Nat.succ_le_succ h.2.1, by show S.2.2.1 + 6 ≤ _; have := h.2.2.1; omega, h.2.2.2⟩
def jJ (S : aq_S) (t n : Nat) (xs : Nat → Int32) (D : jD) : Prop := jC S D ∧ (∃ th, jM S th D) ∧ jV D ∧ jB S t n xs ∧ oA S
/-- both answer, or both throw -/
def jU {A : Type} (V : A → Value) (z : A) (y6 y7 : Nat) (As : List Value) (S : aq_S) (D : jD) (tb : List (String × Int32)) : Prop := ∃ D' : jD, jV D' ∧ ((∃ a, aX 20 y6 (.ref 1 :: As) S (fun o S' => o = .inl (some (V a)) ∧ jC S' D' ∧ aq_fr S S' jQc) ∧ ∀ S1 th, jM S1 th D → aX 21 y7 (.ref 52 :: As) S1 (fun o S' => o = .inl (some (V a)) ∧ jM S' 0 D' ∧ aq_fr S1 S' jQm)) ∨ ∃ E r, tb.lookup E = some r ∧ ¬ r = 0 ∧ aX 20 y6 (.ref 1 :: As) S (fun o S' => o = .inr E ∧ ∃ S2, S' = aq_thrown S2 ∧ jC S2 D' ∧ aq_fr S S2 jQc) ∧ ∀ S1 th, jM S1 th D → aX 21 y7 (.ref 52 :: As) S1 (fun o S' => o = .inl (some (V z)) ∧ jM S' r D' ∧ aq_fr S1 S' jQm))
/-- nothing changes but the reference's note -/
theorem jU_q {A : Type} {V : A → Value} {z a : A} {y6 y7 : Nat} {As : List Value} {S : aq_S} {D : jD} {tb : List (String × Int32)} (hC : jC S D) (hV : jV D) (hx : aX 20 y6 (.ref 1 :: As) S (fun o S' => o = .inl (some (V a)) ∧ S' = S)) (hm : ∀ S1 th, jM S1 th D → aX 21 y7 (.ref 52 :: As) S1 (fun o S' => o = .inl (some (V a)) ∧ jM S' 0 D ∧ aq_fr S1 S' jQm)) : jU V z y6 y7 As S D tb :=
  ⟨D, hV, Or.inl ⟨a, ar_weak hx (fun o S' q => ⟨q.1, by rw [q.2]; exact hC, by rw [q.2]; exact aq_fr.rf⟩), hm⟩⟩
theorem jU_t {A : Type} {V : A → Value} {z : A} {y6 y7 : Nat} {As : List Value} {S : aq_S} {D : jD} {tb : List (String × Int32)} {E : String} {r : Int32} (hC : jC S D) (hV : jV D) (hE : tb.lookup E = some r) (hr : ¬ r = 0) (hx : aX 20 y6 (.ref 1 :: As) S (fun o S' => o = .inr E ∧ S' = aq_thrown S)) (hm : ∀ S1 th, jM S1 th D → aX 21 y7 (.ref 52 :: As) S1 (fun o S' => o = .inl (some (V z)) ∧ jM S' r D ∧ aq_fr S1 S' jQm)) : jU V z y6 y7 As S D tb :=
  ⟨D, hV, Or.inr ⟨E, r, hE, hr, ar_weak hx (fun o S' q => ⟨q.1, S, q.2, hC, aq_fr.rf⟩), hm⟩⟩
/-- only the note was written -/
theorem jM_w {k c n : Nat} {hs err : Int32} {N : Nat → Nat} {G : Nat → Nat → Int32} {pn : Nat → Nat} {pg : Nat → Nat → Int32} {inp : Nat → Nat} {ks cs : Nat} {Ns : Nat → Nat} {Gs : Nat → Nat → Int32} {pns : Nat → Nat} {pgs : Nat → Nat → Int32} {ty : Nat → Int32} {sz : Nat → Nat} {v : Nat → Nat → UInt64} {S1 S' : aq_S} {th r : Int32} {o v9 : aq_O} {rd tl cur sv : Int32} (hm : jM S1 th ((k, c, n, hs, err), (N, G, pn, pg, inp), (ks, cs, Ns, Gs, pns, pgs), ty, sz, v)) (h : o = v9 ∧ mO S' r (nI k) (nI n) err rd tl (nI c) (-1) cur hs sv ∧ aq_fr S1 S' (fun q => q = 52)) : o = v9 ∧ jM S' r ((k, c, n, hs, err), (N, G, pn, pg, inp), (ks, cs, Ns, Gs, pns, pgs), ty, sz, v) ∧ aq_fr S1 S' jQm := by
  obtain ⟨h1, h2, q⟩ := h
  obtain ⟨-, m2, m3, m4, m5, m6, m7, m8, ⟨F70, m9⟩, m10⟩ := hm
  exact ⟨h1, ⟨⟨rd, tl, cur, sv, h2⟩, m2.fr q (by omega) (by omega), m3.fr q (by omega) (by omega), m4.fr q (by omega), m5.fr q (by omega), m6.fr q (by omega), m7.fr q (fun x _ _ => by omega), m8.fr q (by omega) (by omega) (by omega), ⟨F70, m9.fr q (by omega)⟩, fun z => (m10 z).fr q (by omega)⟩, q.mono (fun x hx => by show 52 ≤ x ∧ x ≤ 70; omega)⟩
/-- the end of a call on both sides, out of a helper of the law -/
theorem jP {A : Type} {V : A → Value} {z : A} {w9 : A → Int64} {y6 y7 yL : Nat} {As AL : List Value} {S : aq_S} {t n : Nat} {xs : Nat → Int32} {D : jD} {tb : List (String × Int32)} (hJ : jJ S t n xs D) (hu : jU V z y6 y7 As S D tb)
    (hl : ∀ (a : A) (P : aq_S → Prop), (∀ S', P S' → aq_le S S' ∧ oA S') → aX 20 y6 (.ref 1 :: As) S (fun o S' => o = .inl (some (V a)) ∧ P S') → aX 21 yL AL S (fun o S' => o = .inl (some (.int 0)) ∧ ∃ S1, P S1 ∧ aq_fr S1 S' (fun q => q = 71) ∧ oV S' (w9 a)))
    (hlx : ∀ (E : String) (r : Int32) (P : aq_S → Prop), (∀ S', P S' → aq_le S S') → tb.lookup E = some r → aX 20 y6 (.ref 1 :: As) S (fun o S' => o = .inr E ∧ P S') → aX 21 yL AL S (fun o S' => o = .inl (some (.int r)) ∧ P S')) :
    ∃ (D' : jD) (r : Int32) (a : A), jV D' ∧ aX 21 yL AL S (fun o S' => o = .inl (some (.int r)) ∧ (jC S' D' ∧ (∃ th, jM S' th D) ∧ jB S' (t + 1) n xs ∧ oA S' ∧ (r = 0 → oV S' (w9 a)))) ∧ ∀ S1, (jC S1 D' ∧ (∃ th, jM S1 th D) ∧ jB S1 (t + 1) n xs ∧ oA S1 ∧ (r = 0 → oV S1 (w9 a))) → aX 21 y7 (.ref 52 :: As) S1 (fun o S' => o = .inl (some (V a)) ∧ (jC S' D' ∧ jM S' r D' ∧ jB S' (t + 1) n xs ∧ oA S' ∧ (r = 0 → oV S' (w9 a)))) := by
  obtain ⟨hC, ⟨th, hM⟩, hV, hB, hO⟩ := hJ
  obtain ⟨D', hV', h⟩ := hu
  have hm2 : ∀ (r : Int32) (a b : A) (S1 : aq_S), (∀ S2 th2, jM S2 th2 D → aX 21 y7 (.ref 52 :: As) S2 (fun o S' => o = .inl (some (V b)) ∧ jM S' r D' ∧ aq_fr S2 S' jQm)) → (jC S1 D' ∧ (∃ th, jM S1 th D) ∧ jB S1 (t + 1) n xs ∧ oA S1 ∧ (r = 0 → oV S1 (w9 a))) → aX 21 y7 (.ref 52 :: As) S1 (fun o S' => o = .inl (some (V b)) ∧ (jC S' D' ∧ jM S' r D' ∧ jB S' (t + 1) n xs ∧ oA S' ∧ (r = 0 → oV S' (w9 a)))) := by
    intro r a b S1 hm h
    obtain ⟨p1, ⟨th1, p2⟩, p3, p4, p5⟩ := h
    refine ar_weak (hm S1 th1 p2) (fun o S' q => ⟨q.1, p1.fr q.2.2 (fun x _ _ z => by have z : 52 ≤ x ∧ x ≤ 70 := z; omega), q.2.1, p3.fr q.2.2 (fun z => by have z : 52 ≤ 0 ∧ 0 ≤ 70 := z; omega), p4.fr q.2.2 (fun z => by have z : 52 ≤ 71 ∧ 71 ≤ 70 := z; omega), fun e => ?_⟩)
    obtain ⟨f, hf, hf0⟩ := p5 e
    exact ⟨f, (q.2.2.2.2.2 71 (fun z => by have z : 52 ≤ 71 ∧ 71 ≤ 70 := z; omega)).trans hf, hf0⟩
  rcases h with ⟨a, hx, hm⟩ | ⟨E, r, hE, hr, hx, hm⟩
  · refine ⟨D', 0, a, hV', ?_, fun S1 h1 => hm2 0 a a S1 hm h1⟩
    refine ar_weak (hl a (fun S' => jC S' D' ∧ aq_fr S S' jQc) (fun S' q => ⟨q.2.le, hO.fr q.2 (fun z => by have z : 1 ≤ 71 ∧ 71 ≤ 51 := z; omega)⟩) hx) ?_
    rintro o S' ⟨e, S1, ⟨q1, q2⟩, q3, q4⟩
    obtain ⟨f, hf, hf0⟩ := q4
    exact ⟨e, q1.fr q3 (fun x _ _ => by omega), ⟨th, (hM.fr q2 (fun x _ _ z => by have z : 1 ≤ x ∧ x ≤ 51 := z; omega)).fr q3 (fun x _ _ => by omega)⟩, ((hB.fr q2 (fun z => by have z : 1 ≤ 0 ∧ 0 ≤ 51 := z; omega)).fr q3 (by omega)).up, ⟨f, hf⟩, fun _ => ⟨f, hf, hf0⟩⟩
  · refine ⟨D', r, z, hV', ?_, fun S1 h1 => hm2 r z z S1 hm h1⟩
    refine ar_weak (hlx E r (fun S' => ∃ S2, S' = aq_thrown S2 ∧ jC S2 D' ∧ aq_fr S S2 jQc) (fun S' q => by obtain ⟨S2, e, -, q⟩ := q; subst e; have := q.le; exact ⟨this.1, Nat.le_succ_of_le this.2.1, Nat.le_trans this.2.2 (Nat.le_add_right _ _)⟩) hE hx) ?_
    rintro o S' ⟨e, S2, e2, q1, q2⟩
    subst e2
    exact ⟨e, q1.th, ⟨th, (hM.fr q2 (fun x _ _ z => by have z : 1 ≤ x ∧ x ≤ 51 := z; omega)).th⟩, (hB.fr q2 (fun z => by have z : 1 ≤ 0 ∧ 0 ≤ 51 := z; omega)).th, (hO.fr q2 (fun z => by have z : 1 ≤ 71 ∧ 71 ≤ 51 := z; omega)).th, fun e => absurd e hr⟩
end
