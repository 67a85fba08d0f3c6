/-! ===== words (printed by wip/whole/mkK.py) ===== -/
section
theorem c_setLetters {S : aq_S} {D : jD} {a : Int32} (hC : jC S D) (hV : jV D) : jU Value.int 0 67 133 [.int a] S D [("java/lang/IllegalArgumentException", 1)] := by
  obtain ⟨⟨k, c, n, hs, err⟩, ⟨N, G, pn, pg, inp⟩, ⟨ks, cs, Ns, Gs, pns, pgs⟩, ty, sz, v⟩ := D
  have hC0 := hC
  have hV0 := hV
  obtain ⟨c1, c2, c3, ⟨c4, c5, c6, c7⟩, c8, c9, c10, c11, ⟨acc, c12⟩, c13⟩ := hC0
  obtain ⟨⟨hk0, hk3⟩, hpk, hy, hhs, hsv, herr, hty⟩ := hV0
  rcases rgb a 1 4 (by omega) (by decide) with hp | ⟨x, hx0, hx, rfl⟩
  · refine jU_t hC hV (E := "java/lang/IllegalArgumentException") (r := 1) (by decide +kernel) (by decide) (x_setLetters_no _ hp) (fun S1 th hm => ?_)
    have hm0 := hm
    obtain ⟨⟨rd, tl, cur, sv, m1⟩, m2, m3, m4, m5, m6, m7, m8, ⟨F70, m9⟩, m10⟩ := hm0
    exact ar_weak (m_setLetters_no _ m1 hp) (fun o S' q => jM_w hm q)
  · refine ⟨((x, 0, n, hs, err), ((fun _ => 0), G, pn, pg, inp), (ks, cs, Ns, Gs, pns, pgs), ty, sz, v), ⟨⟨by omega, by omega⟩, ⟨by omega, fun i z => absurd z (Nat.not_lt_zero _), fun i j z => absurd z (Nat.not_lt_zero _)⟩, fun r _ i z => absurd z (Nat.not_lt_zero _), hhs, hsv, herr, hty⟩, Or.inl ⟨nI k, ar_weak (x_setLetters _ (N' := fun _ => 0) (G' := G) (pn' := pn) (pg' := pg) c1 c2 c3 (by omega) (by omega) (fun _ _ => rfl)) (fun o S' z => ?_), fun S1 th hm => ?_⟩⟩
    · obtain ⟨z0, ⟨za, zb, zc⟩, q⟩ := z
      exact ⟨z0, ⟨⟨c1.1.fr q (by omega), za, c1.2.2.fr q (by omega)⟩, zb, zc, ⟨c4.fr q (by omega), c5.fr q (by omega), c6.fr' q (fun x _ _ => by omega), c7.fr q (by omega) (by omega)⟩, c8.fr q (fun x _ _ => by omega), c9.fr' q (fun x _ _ => by omega), c10.fr' q (fun x _ _ => by omega), c11.fr q (by omega), ⟨acc, c12.fr q (by omega)⟩, c13.fr' q (fun x _ _ => by omega)⟩, q.mono (fun x hx => by show 1 ≤ x ∧ x ≤ 51; omega)⟩
    · obtain ⟨⟨rd, tl, cur, sv, m1⟩, m2, m3, m4, m5, m6, m7, m8, ⟨F70, m9⟩, m10⟩ := hm
      refine ar_weak (m_setLetters _ (N' := fun _ => 0) (G' := G) m1 m2 (by omega) (by omega) (fun _ _ => rfl)) (fun o S' z => ?_)
      obtain ⟨z0, ⟨za, zb⟩, q⟩ := z
      exact ⟨z0, ⟨⟨_, _, _, _, za⟩, zb, (m3.fr q (by omega) (by omega)).zero, m4.fr q (by omega), m5.fr q (by omega), m6.fr q (by omega), m7.fr q (fun x _ _ => by omega), m8.fr q (by omega) (by omega) (by omega), ⟨F70, m9.fr q (by omega)⟩, fun z => (m10 z).fr q (by omega)⟩, q.mono (fun x hx => by show 52 ≤ x ∧ x ≤ 70; omega)⟩
theorem c_append {S : aq_S} {D : jD} {a : Int32} {b : Int32} (hC : jC S D) (hV : jV D) : jU Value.int 0 68 134 [.int a, .int b] S D [("java/lang/IllegalArgumentException", 1), ("java/lang/IllegalStateException", 2)] := by
  obtain ⟨⟨k, c, n, hs, err⟩, ⟨N, G, pn, pg, inp⟩, ⟨ks, cs, Ns, Gs, pns, pgs⟩, ty, sz, v⟩ := D
  have hC0 := hC
  have hV0 := hV
  obtain ⟨c1, c2, c3, ⟨c4, c5, c6, c7⟩, c8, c9, c10, c11, ⟨acc, c12⟩, c13⟩ := hC0
  obtain ⟨⟨hk0, hk3⟩, hpk, hy, hhs, hsv, herr, hty⟩ := hV0
  rcases rg a 4 (by decide) with hp | ⟨r, hr, rfl⟩
  · refine jU_t hC hV (E := "java/lang/IllegalArgumentException") (r := 1) (by decide +kernel) (by decide) (x_append_r _ c1 hp) (fun S1 th hm => ?_)
    have hm0 := hm
    obtain ⟨⟨rd, tl, cur, sv, m1⟩, m2, m3, m4, m5, m6, m7, m8, ⟨F70, m9⟩, m10⟩ := hm0
    exact ar_weak (m_append_r _ m1 hp) (fun o S' q => jM_w hm q)
  · by_cases hyb : isY k b
    · by_cases hn : N r = 40
      · refine jU_t hC hV (E := "java/lang/IllegalStateException") (r := 2) (by decide +kernel) (by decide) (x_append_full _ c1 c2 hr hyb hn) (fun S1 th hm => ?_)
        have hm0 := hm
        obtain ⟨⟨rd, tl, cur, sv, m1⟩, m2, m3, m4, m5, m6, m7, m8, ⟨F70, m9⟩, m10⟩ := hm0
        exact ar_weak (m_append_full _ m1 m2 hk3 hr hyb hn) (fun o S' q => jM_w hm q)
      · have hle := (c2 r hr).le
        have hn : N r < 40 := by omega
        have hy' : ∀ i, i < N r + 1 → isY k (upd (G r) (N r) b i) := fun i hi => by
          by_cases e : i = N r
          · rw [e, upd_eq]
            exact hyb
          · rw [upd_ne e]
            exact hy r hr i (by omega)
        refine ⟨((k, c, n, hs, err), ((updN N r (N r + 1)), (updG G r (upd (G r) (N r) b)), pn, pg, inp), (ks, cs, Ns, Gs, pns, pgs), ty, sz, v), ⟨⟨hk0, hk3⟩, hpk, upd_put hy hy', hhs, hsv, herr, hty⟩, Or.inl ⟨nI (N r + 1), ar_weak (x_append _ c1 c2 hr hyb hn) (fun o S' z => ?_), fun S1 th hm => ?_⟩⟩
        · obtain ⟨z0, zw, q⟩ := z
          exact ⟨z0, ⟨⟨c1.1.fr q (by omega), c1.2.1.fr q (by omega), c1.2.2.fr q (by omega)⟩, hWs_put c2 q (fun x hx => by omega) zw, c3.fr q (by omega) (by omega), ⟨c4.fr q (by omega), c5.fr q (by omega), c6.fr' q (fun x _ _ => by omega), c7.fr q (by omega) (by omega)⟩, c8.fr q (fun x _ _ => by omega), c9.fr' q (fun x _ _ => by omega), c10.fr' q (fun x _ _ => by omega), c11.fr q (by omega), ⟨acc, c12.fr q (by omega)⟩, c13.fr' q (fun x _ _ => by omega)⟩, q.mono (fun x hx => by show 1 ≤ x ∧ x ≤ 51; omega)⟩
        · obtain ⟨⟨rd, tl, cur, sv, m1⟩, m2, m3, m4, m5, m6, m7, m8, ⟨F70, m9⟩, m10⟩ := hm
          refine ar_weak (m_append _ m1 m2 hk3 hr hyb hn) (fun o S' z => ?_)
          obtain ⟨z0, ⟨za, zb⟩, q⟩ := z
          exact ⟨z0, ⟨⟨_, _, _, _, za⟩, zb, m3.fr q (by omega) (by omega), m4.fr q (by omega), m5.fr q (by omega), m6.fr q (by omega), m7.fr q (fun x _ _ => by omega), m8.fr q (by omega) (by omega) (by omega), ⟨F70, m9.fr q (by omega)⟩, fun z => (m10 z).fr q (by omega)⟩, q.mono (fun x hx => by show 52 ≤ x ∧ x ≤ 70; omega)⟩
    · refine jU_t hC hV (E := "java/lang/IllegalArgumentException") (r := 1) (by decide +kernel) (by decide) (x_append_y _ c1 hr hyb) (fun S1 th hm => ?_)
      have hm0 := hm
      obtain ⟨⟨rd, tl, cur, sv, m1⟩, m2, m3, m4, m5, m6, m7, m8, ⟨F70, m9⟩, m10⟩ := hm0
      exact ar_weak (m_append_y _ m1 hk3 hr hyb) (fun o S' q => jM_w hm q)
theorem c_feed {S : aq_S} {D : jD} {a : Int32} (hC : jC S D) (hV : jV D) : jU Value.int 0 69 135 [.int a] S D [("java/lang/IllegalArgumentException", 1), ("java/lang/IllegalStateException", 2)] := by
  obtain ⟨⟨k, c, n, hs, err⟩, ⟨N, G, pn, pg, inp⟩, ⟨ks, cs, Ns, Gs, pns, pgs⟩, ty, sz, v⟩ := D
  have hC0 := hC
  have hV0 := hV
  obtain ⟨c1, c2, c3, ⟨c4, c5, c6, c7⟩, c8, c9, c10, c11, ⟨acc, c12⟩, c13⟩ := hC0
  obtain ⟨⟨hk0, hk3⟩, hpk, hy, hhs, hsv, herr, hty⟩ := hV0
  rcases rgb a 33 127 (by omega) (by decide) with hp | ⟨x, hx0, hx, rfl⟩
  · refine jU_t hC hV (E := "java/lang/IllegalArgumentException") (r := 1) (by decide +kernel) (by decide) (x_feed_no _ hp) (fun S1 th hm => ?_)
    have hm0 := hm
    obtain ⟨⟨rd, tl, cur, sv, m1⟩, m2, m3, m4, m5, m6, m7, m8, ⟨F70, m9⟩, m10⟩ := hm0
    exact ar_weak (m_feed_no _ m1 hp) (fun o S' q => jM_w hm q)
  · have hn0 := c8.le
    by_cases hn : n = 30
    · subst hn
      refine jU_t hC hV (E := "java/lang/IllegalStateException") (r := 2) (by decide +kernel) (by decide) (x_feed_full _ c1 c8 hx0 (by omega) rfl) (fun S1 th hm => ?_)
      have hm0 := hm
      obtain ⟨⟨rd, tl, cur, sv, m1⟩, m2, m3, m4, m5, m6, m7, m8, ⟨F70, m9⟩, m10⟩ := hm0
      exact ar_weak (m_feed_full _ m1 hx0 (by omega)) (fun o S' q => jM_w hm q)
    · have hn : n < 30 := by omega
      refine ⟨((k, c, n + 1, hs, err), (N, G, pn, pg, updN inp n x), (ks, cs, Ns, Gs, pns, pgs), ty, sz, v), ⟨⟨hk0, hk3⟩, hpk, hy, hhs, hsv, herr, hty⟩, Or.inl ⟨nI (n + 1), ar_weak (x_feed _ c1 c8 hx0 (by omega) hn) (fun o S' z => ?_), fun S1 th hm => ?_⟩⟩
      · obtain ⟨z0, zi, q⟩ := z
        exact ⟨z0, ⟨⟨c1.1.fr q (by omega), c1.2.1.fr q (by omega), c1.2.2.fr q (by omega)⟩, c2.fr' q (fun x _ _ => by omega), c3.fr q (by omega) (by omega), ⟨c4.fr q (by omega), c5.fr q (by omega), c6.fr' q (fun x _ _ => by omega), c7.fr q (by omega) (by omega)⟩, zi, c9.fr' q (fun x _ _ => by omega), c10.fr' q (fun x _ _ => by omega), c11.fr q (by omega), ⟨acc, c12.fr q (by omega)⟩, c13.fr' q (fun x _ _ => by omega)⟩, q.mono (fun x hx => by show 1 ≤ x ∧ x ≤ 51; omega)⟩
      · obtain ⟨⟨rd, tl, cur, sv, m1⟩, m2, m3, m4, m5, m6, m7, m8, ⟨F70, m9⟩, m10⟩ := hm
        refine ar_weak (m_feed _ m1 m4 hn hx0 (by omega)) (fun o S' z => ?_)
        obtain ⟨z0, ⟨za, zb⟩, q⟩ := z
        exact ⟨z0, ⟨⟨_, _, _, _, za⟩, m2.fr q (by omega) (by omega), m3.fr q (by omega) (by omega), zb, m5.fr q (by omega), m6.fr q (by omega), m7.fr q (fun x _ _ => by omega), m8.fr q (by omega) (by omega) (by omega), ⟨F70, m9.fr q (by omega)⟩, fun z => (m10 z).fr q (by omega)⟩, q.mono (fun x hx => by show 52 ≤ x ∧ x ≤ 70; omega)⟩
theorem psRun_le {k : Nat} {inp : Nat → Nat} : ∀ j i p, (psRun k inp j i p).1 ≤ i + j
  | 0, i, p => Nat.le_refl _
  | j + 1, i, p => by
    cases e : psStep k (inp i) p with
    | none =>
      rw [psRun_n e]
      exact Nat.le_add_right _ _
    | some p' =>
      rw [psRun_s e]
      have := psRun_le (k := k) (inp := inp) j (i + 1) p'
      omega
theorem psE_le {k n e : Nat} {inp : Nat → Nat} (h : psE k n inp = some e) : e ≤ n := by
  have h1 := psRun_le (k := k) (inp := inp) n 0 ps0
  unfold psE psErr at h
  cases e1 : (psRun k inp n 0 ps0).2 with
  | none =>
    rw [e1] at h
    have h : some (psRun k inp n 0 ps0).1 = some e := h
    have := Option.some.inj h
    omega
  | some p =>
    rw [e1] at h
    have h : (if 0 < p.2.1 then some n else none) = some e := h
    split at h
    · have := Option.some.inj h
      omega
    · cases h
/-- what was read is symbols of the alphabet -/
def psI (k : Nat) (st : Nat × (Nat → Int32) × Int32) : Prop := (st.2.2 = 0 ∨ st.2.2 = 1) ∧ ∀ i, i < st.1 → isY k (st.2.1 i)
theorem psI_one {k : Nat} {x : Int32} {st : Nat × (Nat → Int32) × Int32} (h : psI k st) (hx : isY k x) : psI k (aOne x st) := by
  unfold aOne
  split
  · refine ⟨h.1, fun i hi => ?_⟩
    have hi : i < st.1 + 1 := hi
    show isY k (upd st.2.1 st.1 x i)
    by_cases e : i = st.1
    · rw [e, upd_eq]
      exact hx
    · rw [upd_ne e]
      exact h.2 i (by omega)
  · exact ⟨Or.inr rfl, h.2⟩
theorem psI_seq {k : Nat} {src : Nat → Int32} {st : Nat × (Nat → Int32) × Int32} (h : psI k st) : ∀ t, (∀ j, j < t → isY k (src j)) → psI k (aSeq src t st)
  | 0, _ => h
  | t + 1, hs => psI_one (psI_seq h t (fun j hj => hs j (by omega))) (hs t (by omega))
theorem psI_step {k ch : Nat} {p p' : pS} (hk : k ≤ 3) (h : psI k p.1) (e : psStep k ch p = some p') : psI k p'.1 := by
  unfold psStep at e
  split at e
  · split at e
    · cases e
      exact h
    · cases e
  · split at e
    · split at e
      · cases e
        exact h
      · cases e
    · split at e
      · cases es : p.2.2.2.1 with
        | none =>
          rw [es] at e
          cases e
        | some s =>
          rw [es] at e
          have e : some _ = some p' := e
          cases e
          refine psI_seq h _ (fun j hj => ?_)
          unfold rSrc
          refine h.2 _ ?_
          by_cases e0 : p.1.1 - s = 0
          · rw [e0] at hj
            omega
          · have := Nat.mod_lt j (Nat.pos_of_ne_zero e0)
            omega
      · split at e
        · cases e
          exact psI_one h (Or.inl rfl)
        · split at e
          · rename_i h1
            cases e
            exact psI_one h (isY_nI (by omega) hk)
          · cases e
theorem psI_run {k n : Nat} {inp : Nat → Nat} {q : pS} (hk : k ≤ 3) : ∀ j i p, psI k p.1 → psRun k inp j i p = (n, some q) → psI k q.1
  | 0, i, p, h, e => by
    have e : (i, some p) = (n, some q) := e
    cases e
    exact h
  | j + 1, i, p, h, e => by
    cases e1 : psStep k (inp i) p with
    | none =>
      rw [psRun_n e1] at e
      cases e
    | some p' =>
      rw [psRun_s e1] at e
      exact psI_run hk j (i + 1) p' (psI_step hk h e1) e
theorem c_parseWord {S : aq_S} {D : jD} {a : Int32} (hC : jC S D) (hV : jV D) : jU Value.int 0 70 139 [.int a] S D [("java/lang/IllegalArgumentException", 1), ("java/lang/IllegalStateException", 2)] := by
  obtain ⟨⟨k, c, n, hs, err⟩, ⟨N, G, pn, pg, inp⟩, ⟨ks, cs, Ns, Gs, pns, pgs⟩, ty, sz, v⟩ := D
  have hC0 := hC
  have hV0 := hV
  obtain ⟨c1, c2, c3, ⟨c4, c5, c6, c7⟩, c8, c9, c10, c11, ⟨acc, c12⟩, c13⟩ := hC0
  obtain ⟨⟨hk0, hk3⟩, hpk, hy, hhs, hsv, herr, hty⟩ := hV0
  rcases rg a 4 (by decide) with hp | ⟨r, hr, rfl⟩
  · refine jU_t hC hV (E := "java/lang/IllegalArgumentException") (r := 1) (by decide +kernel) (by decide) (x_parseWord_r _ c1 hp) (fun S1 th hm => ?_)
    have hm0 := hm
    obtain ⟨⟨rd, tl, cur, sv, m1⟩, m2, m3, m4, m5, m6, m7, m8, ⟨F70, m9⟩, m10⟩ := hm0
    exact ar_weak (m_parseWord_r _ m1 hp) (fun o S' q => jM_w hm q)
  · have hn0 := c8.le
    cases he : psE k n inp with
    | some e =>
      have hel := psE_le he
      refine ⟨((k, c, 0, hs, nI e), (N, G, pn, pg, inp), (ks, cs, Ns, Gs, pns, pgs), ty, sz, v), ⟨⟨hk0, hk3⟩, hpk, hy, hhs, hsv, Or.inr ⟨e, by omega, rfl⟩, hty⟩, Or.inr ⟨"java/lang/IllegalStateException", 2, by decide +kernel, by decide, ar_weak (x_parseWord_e _ c1 hk3 c8 hr he) (fun o S' z => ?_), fun S1 th hm => ?_⟩⟩
      · obtain ⟨z0, S2, zs, zi, q⟩ := z
        exact ⟨z0, S2, zs, ⟨⟨c1.1.fr q (by omega), c1.2.1.fr q (by omega), c1.2.2.fr q (by omega)⟩, c2.fr' q (fun x _ _ => by omega), c3.fr q (by omega) (by omega), ⟨c4.fr q (by omega), c5.fr q (by omega), c6.fr' q (fun x _ _ => by omega), c7.fr q (by omega) (by omega)⟩, zi, c9.fr' q (fun x _ _ => by omega), c10.fr' q (fun x _ _ => by omega), c11.fr q (by omega), ⟨acc, c12.fr q (by omega)⟩, c13.fr' q (fun x _ _ => by omega)⟩, q.mono (fun x hx => by show 1 ≤ x ∧ x ≤ 51; omega)⟩
      · obtain ⟨⟨rd, tl, cur, sv, m1⟩, m2, m3, m4, m5, m6, m7, m8, ⟨F70, m9⟩, m10⟩ := hm
        refine ar_weak (m_parseWord_e _ m1 hk3 m4 m5 m6 hr he) (fun o S' z => ?_)
        obtain ⟨z0, ⟨⟨rd', tl', za⟩, zb, zc⟩, q⟩ := z
        exact ⟨z0, ⟨⟨_, _, _, _, za⟩, m2.fr q (by omega) (by omega), m3.fr q (by omega) (by omega), (m4.fr q (by omega)).zero, zb, zc, m7.fr q (fun x _ _ => by omega), m8.fr q (by omega) (by omega) (by omega), ⟨F70, m9.fr q (by omega)⟩, fun z => (m10 z).fr q (by omega)⟩, q.mono (fun x hx => by show 52 ≤ x ∧ x ≤ 70; omega)⟩
    | none =>
      obtain ⟨p, hrun, ho⟩ := psE_some he
      have hI9 : psI k p.1 := psI_run hk3 n 0 ps0 ⟨Or.inl rfl, fun i z => absurd z (Nat.not_lt_zero _)⟩ hrun
      rcases hI9.1 with ht | ht
      · refine ⟨((k, c, 0, hs, err), ((updN N r p.1.1), (updG G r p.1.2.1), pn, pg, inp), (ks, cs, Ns, Gs, pns, pgs), ty, sz, v), ⟨⟨hk0, hk3⟩, hpk, upd_put hy hI9.2, hhs, hsv, herr, hty⟩, Or.inl ⟨nI p.1.1, ar_weak (x_parseWord _ c1 hk3 c2 c8 hr hrun ho ht) (fun o S' z => ?_), fun S1 th hm => ?_⟩⟩
        · obtain ⟨z0, zw, zi, q⟩ := z
          exact ⟨z0, ⟨⟨c1.1.fr q (by omega), c1.2.1.fr q (by omega), c1.2.2.fr q (by omega)⟩, hWs_put c2 q (fun x hx => by omega) zw, c3.fr q (by omega) (by omega), ⟨c4.fr q (by omega), c5.fr q (by omega), c6.fr' q (fun x _ _ => by omega), c7.fr q (by omega) (by omega)⟩, zi, c9.fr' q (fun x _ _ => by omega), c10.fr' q (fun x _ _ => by omega), c11.fr q (by omega), ⟨acc, c12.fr q (by omega)⟩, c13.fr' q (fun x _ _ => by omega)⟩, q.mono (fun x hx => by show 1 ≤ x ∧ x ≤ 51; omega)⟩
        · obtain ⟨⟨rd, tl, cur, sv, m1⟩, m2, m3, m4, m5, m6, m7, m8, ⟨F70, m9⟩, m10⟩ := hm
          refine ar_weak (m_parseWord _ m1 m2 hk3 m4 m5 m6 hr hrun ho ht) (fun o S' z => ?_)
          obtain ⟨z0, ⟨⟨rd', tl', za⟩, zb, zc, zd⟩, q⟩ := z
          exact ⟨z0, ⟨⟨_, _, _, _, za⟩, zd, m3.fr q (by omega) (by omega), (m4.fr q (by omega)).zero, zb, zc, m7.fr q (fun x _ _ => by omega), m8.fr q (by omega) (by omega) (by omega), ⟨F70, m9.fr q (by omega)⟩, fun z => (m10 z).fr q (by omega)⟩, q.mono (fun x hx => by show 52 ≤ x ∧ x ≤ 70; omega)⟩
      · refine ⟨((k, c, 0, hs, err), (N, G, pn, pg, inp), (ks, cs, Ns, Gs, pns, pgs), ty, sz, v), ⟨⟨hk0, hk3⟩, hpk, hy, hhs, hsv, herr, hty⟩, Or.inr ⟨"java/lang/IllegalStateException", 2, by decide +kernel, by decide, ar_weak (x_parseWord_l _ c1 hk3 c8 hr hrun ho ht) (fun o S' z => ?_), fun S1 th hm => ?_⟩⟩
        · obtain ⟨z0, S2, zs, zi, q⟩ := z
          exact ⟨z0, S2, zs, ⟨⟨c1.1.fr q (by omega), c1.2.1.fr q (by omega), c1.2.2.fr q (by omega)⟩, c2.fr' q (fun x _ _ => by omega), c3.fr q (by omega) (by omega), ⟨c4.fr q (by omega), c5.fr q (by omega), c6.fr' q (fun x _ _ => by omega), c7.fr q (by omega) (by omega)⟩, zi, c9.fr' q (fun x _ _ => by omega), c10.fr' q (fun x _ _ => by omega), c11.fr q (by omega), ⟨acc, c12.fr q (by omega)⟩, c13.fr' q (fun x _ _ => by omega)⟩, q.mono (fun x hx => by show 1 ≤ x ∧ x ≤ 51; omega)⟩
        · obtain ⟨⟨rd, tl, cur, sv, m1⟩, m2, m3, m4, m5, m6, m7, m8, ⟨F70, m9⟩, m10⟩ := hm
          refine ar_weak (m_parseWord_l _ m1 hk3 m4 m5 m6 hr hrun ho ht) (fun o S' z => ?_)
          obtain ⟨z0, ⟨⟨rd', tl', za⟩, zb, zc⟩, q⟩ := z
          exact ⟨z0, ⟨⟨_, _, _, _, za⟩, m2.fr q (by omega) (by omega), m3.fr q (by omega) (by omega), (m4.fr q (by omega)).zero, zb, zc, m7.fr q (fun x _ _ => by omega), m8.fr q (by omega) (by omega) (by omega), ⟨F70, m9.fr q (by omega)⟩, fun z => (m10 z).fr q (by omega)⟩, q.mono (fun x hx => by show 52 ≤ x ∧ x ≤ 70; omega)⟩
theorem c_errorPosition {S : aq_S} {D : jD}  (hC : jC S D) (hV : jV D) : jU Value.int 0 71 140 [] S D [("java/util/NoSuchElementException", 1)] := by
  obtain ⟨⟨k, c, n, hs, err⟩, ⟨N, G, pn, pg, inp⟩, ⟨ks, cs, Ns, Gs, pns, pgs⟩, ty, sz, v⟩ := D
  have hC0 := hC
  have hV0 := hV
  obtain ⟨c1, c2, c3, ⟨c4, c5, c6, c7⟩, c8, c9, c10, c11, ⟨acc, c12⟩, c13⟩ := hC0
  obtain ⟨⟨hk0, hk3⟩, hpk, hy, hhs, hsv, herr, hty⟩ := hV0
  rcases herr with e | ⟨e0, he, e⟩
  · subst e
    refine jU_t hC hV (E := "java/util/NoSuchElementException") (r := 1) (by decide +kernel) (by decide) (x_errorPosition_no _ c1 c8) (fun S1 th hm => ?_)
    have hm0 := hm
    obtain ⟨⟨rd, tl, cur, sv, m1⟩, m2, m3, m4, m5, m6, m7, m8, ⟨F70, m9⟩, m10⟩ := hm0
    exact ar_weak (m_errorPosition_no _ m1) (fun o S' q => jM_w hm q)
  · subst e
    refine jU_q hC hV (x_errorPosition _ c1 c8 (nI_nm1 e0 (by omega))) (fun S1 th hm => ?_)
    have hm0 := hm
    obtain ⟨⟨rd, tl, cur, sv, m1⟩, m2, m3, m4, m5, m6, m7, m8, ⟨F70, m9⟩, m10⟩ := hm0
    exact ar_weak (m_errorPosition _ m1 he) (fun o S' q => jM_w hm q)
theorem c_length {S : aq_S} {D : jD} {a : Int32} (hC : jC S D) (hV : jV D) : jU Value.int 0 72 141 [.int a] S D [("java/lang/IllegalArgumentException", 1)] := by
  obtain ⟨⟨k, c, n, hs, err⟩, ⟨N, G, pn, pg, inp⟩, ⟨ks, cs, Ns, Gs, pns, pgs⟩, ty, sz, v⟩ := D
  have hC0 := hC
  have hV0 := hV
  obtain ⟨c1, c2, c3, ⟨c4, c5, c6, c7⟩, c8, c9, c10, c11, ⟨acc, c12⟩, c13⟩ := hC0
  obtain ⟨⟨hk0, hk3⟩, hpk, hy, hhs, hsv, herr, hty⟩ := hV0
  rcases rg a 4 (by decide) with hp | ⟨r, hr, rfl⟩
  · refine jU_t hC hV (E := "java/lang/IllegalArgumentException") (r := 1) (by decide +kernel) (by decide) (x_length_r _ c1 hp) (fun S1 th hm => ?_)
    have hm0 := hm
    obtain ⟨⟨rd, tl, cur, sv, m1⟩, m2, m3, m4, m5, m6, m7, m8, ⟨F70, m9⟩, m10⟩ := hm0
    exact ar_weak (m_length_r _ m1 hp) (fun o S' q => jM_w hm q)
  · refine jU_q hC hV (x_length _ c1 c2 hr) (fun S1 th hm => ?_)
    have hm0 := hm
    obtain ⟨⟨rd, tl, cur, sv, m1⟩, m2, m3, m4, m5, m6, m7, m8, ⟨F70, m9⟩, m10⟩ := hm0
    exact ar_weak (m_length _ m1 m2 hr) (fun o S' q => jM_w hm q)
theorem c_symbol {S : aq_S} {D : jD} {a : Int32} {b : Int32} (hC : jC S D) (hV : jV D) : jU Value.int 0 73 143 [.int a, .int b] S D [("java/lang/IllegalArgumentException", 1), ("java/lang/IndexOutOfBoundsException", 2)] := by
  obtain ⟨⟨k, c, n, hs, err⟩, ⟨N, G, pn, pg, inp⟩, ⟨ks, cs, Ns, Gs, pns, pgs⟩, ty, sz, v⟩ := D
  have hC0 := hC
  have hV0 := hV
  obtain ⟨c1, c2, c3, ⟨c4, c5, c6, c7⟩, c8, c9, c10, c11, ⟨acc, c12⟩, c13⟩ := hC0
  obtain ⟨⟨hk0, hk3⟩, hpk, hy, hhs, hsv, herr, hty⟩ := hV0
  rcases rg a 4 (by decide) with hp | ⟨r, hr, rfl⟩
  · refine jU_t hC hV (E := "java/lang/IllegalArgumentException") (r := 1) (by decide +kernel) (by decide) (x_symbol_r _ c1 hp) (fun S1 th hm => ?_)
    have hm0 := hm
    obtain ⟨⟨rd, tl, cur, sv, m1⟩, m2, m3, m4, m5, m6, m7, m8, ⟨F70, m9⟩, m10⟩ := hm0
    exact ar_weak (m_symbol_r _ m1 hp) (fun o S' q => jM_w hm q)
  · have hle := (c2 r hr).le
    rcases rg b (N r) (by omega) with hp | ⟨i, hi, rfl⟩
    · refine jU_t hC hV (E := "java/lang/IndexOutOfBoundsException") (r := 2) (by decide +kernel) (by decide) (x_symbol_i _ c1 c2 hr hp) (fun S1 th hm => ?_)
      have hm0 := hm
      obtain ⟨⟨rd, tl, cur, sv, m1⟩, m2, m3, m4, m5, m6, m7, m8, ⟨F70, m9⟩, m10⟩ := hm0
      exact ar_weak (m_symbol_i _ m1 m2 hr hp) (fun o S' q => jM_w hm q)
    · refine jU_q hC hV (x_symbol _ c1 c2 hr hi) (fun S1 th hm => ?_)
      have hm0 := hm
      obtain ⟨⟨rd, tl, cur, sv, m1⟩, m2, m3, m4, m5, m6, m7, m8, ⟨F70, m9⟩, m10⟩ := hm0
      exact ar_weak (m_symbol _ m1 m2 hr hi) (fun o S' q => jM_w hm q)
theorem c_setSymbol {S : aq_S} {D : jD} {a : Int32} {b : Int32} {s : Int32} (hC : jC S D) (hV : jV D) : jU Value.int 0 74 144 [.int a, .int b, .int s] S D [("java/lang/IllegalArgumentException", 1), ("java/lang/IndexOutOfBoundsException", 2)] := by
  obtain ⟨⟨k, c, n, hs, err⟩, ⟨N, G, pn, pg, inp⟩, ⟨ks, cs, Ns, Gs, pns, pgs⟩, ty, sz, v⟩ := D
  have hC0 := hC
  have hV0 := hV
  obtain ⟨c1, c2, c3, ⟨c4, c5, c6, c7⟩, c8, c9, c10, c11, ⟨acc, c12⟩, c13⟩ := hC0
  obtain ⟨⟨hk0, hk3⟩, hpk, hy, hhs, hsv, herr, hty⟩ := hV0
  rcases rg a 4 (by decide) with hp | ⟨r, hr, rfl⟩
  · refine jU_t hC hV (E := "java/lang/IllegalArgumentException") (r := 1) (by decide +kernel) (by decide) (x_setSymbol_r _ c1 hp) (fun S1 th hm => ?_)
    have hm0 := hm
    obtain ⟨⟨rd, tl, cur, sv, m1⟩, m2, m3, m4, m5, m6, m7, m8, ⟨F70, m9⟩, m10⟩ := hm0
    exact ar_weak (m_setSymbol_r _ m1 hp) (fun o S' q => jM_w hm q)
  · have hle := (c2 r hr).le
    by_cases hyb : isY k s
    · rcases rg b (N r) (by omega) with hp | ⟨i, hi, rfl⟩
      · refine jU_t hC hV (E := "java/lang/IndexOutOfBoundsException") (r := 2) (by decide +kernel) (by decide) (x_setSymbol_i _ c1 c2 hr hp hyb) (fun S1 th hm => ?_)
        have hm0 := hm
        obtain ⟨⟨rd, tl, cur, sv, m1⟩, m2, m3, m4, m5, m6, m7, m8, ⟨F70, m9⟩, m10⟩ := hm0
        exact ar_weak (m_setSymbol_i _ m1 m2 hk3 hr hyb hp) (fun o S' q => jM_w hm q)
      · have hy' : ∀ j, j < N r → isY k (upd (G r) i s j) := fun j hj => by
          by_cases e : j = i
          · rw [e, upd_eq]
            exact hyb
          · rw [upd_ne e]
            exact hy r hr j hj
        refine ⟨((k, c, n, hs, err), ((updN N r (N r)), (updG G r (upd (G r) i s)), pn, pg, inp), (ks, cs, Ns, Gs, pns, pgs), ty, sz, v), ⟨⟨hk0, hk3⟩, hpk, upd_put hy hy', hhs, hsv, herr, hty⟩, Or.inl ⟨G r i, ar_weak (x_setSymbol _ c1 c2 hr hi hyb) (fun o S' z => ?_), fun S1 th hm => ?_⟩⟩
        · obtain ⟨z0, zw, q⟩ := z
          exact ⟨z0, ⟨⟨c1.1.fr q (by omega), c1.2.1.fr q (by omega), c1.2.2.fr q (by omega)⟩, hWs_put c2 q (fun x hx => by omega) zw, c3.fr q (by omega) (by omega), ⟨c4.fr q (by omega), c5.fr q (by omega), c6.fr' q (fun x _ _ => by omega), c7.fr q (by omega) (by omega)⟩, c8.fr q (fun x _ _ => by omega), c9.fr' q (fun x _ _ => by omega), c10.fr' q (fun x _ _ => by omega), c11.fr q (by omega), ⟨acc, c12.fr q (by omega)⟩, c13.fr' q (fun x _ _ => by omega)⟩, q.mono (fun x hx => by show 1 ≤ x ∧ x ≤ 51; omega)⟩
        · obtain ⟨⟨rd, tl, cur, sv, m1⟩, m2, m3, m4, m5, m6, m7, m8, ⟨F70, m9⟩, m10⟩ := hm
          refine ar_weak (m_setSymbol _ m1 m2 hk3 hr hyb hi) (fun o S' z => ?_)
          obtain ⟨z0, ⟨za, zb⟩, q⟩ := z
          exact ⟨z0, ⟨⟨_, _, _, _, za⟩, zb, m3.fr q (by omega) (by omega), m4.fr q (by omega), m5.fr q (by omega), m6.fr q (by omega), m7.fr q (fun x _ _ => by omega), m8.fr q (by omega) (by omega) (by omega), ⟨F70, m9.fr q (by omega)⟩, fun z => (m10 z).fr q (by omega)⟩, q.mono (fun x hx => by show 52 ≤ x ∧ x ≤ 70; omega)⟩
    · refine jU_t hC hV (E := "java/lang/IllegalArgumentException") (r := 1) (by decide +kernel) (by decide) (x_setSymbol_y _ c1 hr hyb) (fun S1 th hm => ?_)
      have hm0 := hm
      obtain ⟨⟨rd, tl, cur, sv, m1⟩, m2, m3, m4, m5, m6, m7, m8, ⟨F70, m9⟩, m10⟩ := hm0
      exact ar_weak (m_setSymbol_y _ m1 hk3 hr hyb) (fun o S' q => jM_w hm q)
theorem c_clear {S : aq_S} {D : jD} {a : Int32} (hC : jC S D) (hV : jV D) : jU Value.int 0 75 145 [.int a] S D [("java/lang/IllegalArgumentException", 1)] := by
  obtain ⟨⟨k, c, n, hs, err⟩, ⟨N, G, pn, pg, inp⟩, ⟨ks, cs, Ns, Gs, pns, pgs⟩, ty, sz, v⟩ := D
  have hC0 := hC
  have hV0 := hV
  obtain ⟨c1, c2, c3, ⟨c4, c5, c6, c7⟩, c8, c9, c10, c11, ⟨acc, c12⟩, c13⟩ := hC0
  obtain ⟨⟨hk0, hk3⟩, hpk, hy, hhs, hsv, herr, hty⟩ := hV0
  rcases rg a 4 (by decide) with hp | ⟨r, hr, rfl⟩
  · refine jU_t hC hV (E := "java/lang/IllegalArgumentException") (r := 1) (by decide +kernel) (by decide) (x_clear_r _ c1 hp) (fun S1 th hm => ?_)
    have hm0 := hm
    obtain ⟨⟨rd, tl, cur, sv, m1⟩, m2, m3, m4, m5, m6, m7, m8, ⟨F70, m9⟩, m10⟩ := hm0
    exact ar_weak (m_clear_r _ m1 hp) (fun o S' q => jM_w hm q)
  · refine ⟨((k, c, n, hs, err), ((updN N r 0), (updG G r (G r)), pn, pg, inp), (ks, cs, Ns, Gs, pns, pgs), ty, sz, v), ⟨⟨hk0, hk3⟩, hpk, upd_put hy (fun i z => absurd z (Nat.not_lt_zero _)), hhs, hsv, herr, hty⟩, Or.inl ⟨nI (N r), ar_weak (x_clear _ (G r) c1 c2 hr) (fun o S' z => ?_), fun S1 th hm => ?_⟩⟩
    · obtain ⟨z0, zw, q⟩ := z
      exact ⟨z0, ⟨⟨c1.1.fr q (by omega), c1.2.1.fr q (by omega), c1.2.2.fr q (by omega)⟩, hWs_put c2 q (fun x hx => by omega) zw, c3.fr q (by omega) (by omega), ⟨c4.fr q (by omega), c5.fr q (by omega), c6.fr' q (fun x _ _ => by omega), c7.fr q (by omega) (by omega)⟩, c8.fr q (fun x _ _ => by omega), c9.fr' q (fun x _ _ => by omega), c10.fr' q (fun x _ _ => by omega), c11.fr q (by omega), ⟨acc, c12.fr q (by omega)⟩, c13.fr' q (fun x _ _ => by omega)⟩, q.mono (fun x hx => by show 1 ≤ x ∧ x ≤ 51; omega)⟩
    · obtain ⟨⟨rd, tl, cur, sv, m1⟩, m2, m3, m4, m5, m6, m7, m8, ⟨F70, m9⟩, m10⟩ := hm
      refine ar_weak (m_clear _ (G r) m1 m2 hr) (fun o S' z => ?_)
      obtain ⟨z0, ⟨za, zb⟩, q⟩ := z
      exact ⟨z0, ⟨⟨_, _, _, _, za⟩, zb, m3.fr q (by omega) (by omega), m4.fr q (by omega), m5.fr q (by omega), m6.fr q (by omega), m7.fr q (fun x _ _ => by omega), m8.fr q (by omega) (by omega) (by omega), ⟨F70, m9.fr q (by omega)⟩, fun z => (m10 z).fr q (by omega)⟩, q.mono (fun x hx => by show 52 ≤ x ∧ x ≤ 70; omega)⟩
theorem c_concatenate {S : aq_S} {D : jD} {a : Int32} {b : Int32} (hC : jC S D) (hV : jV D) : jU Value.int 0 76 146 [.int a, .int b] S D [("java/lang/IllegalArgumentException", 1), ("java/lang/IllegalStateException", 2)] := by
  obtain ⟨⟨k, c, n, hs, err⟩, ⟨N, G, pn, pg, inp⟩, ⟨ks, cs, Ns, Gs, pns, pgs⟩, ty, sz, v⟩ := D
  have hC0 := hC
  have hV0 := hV
  obtain ⟨c1, c2, c3, ⟨c4, c5, c6, c7⟩, c8, c9, c10, c11, ⟨acc, c12⟩, c13⟩ := hC0
  obtain ⟨⟨hk0, hk3⟩, hpk, hy, hhs, hsv, herr, hty⟩ := hV0
  rcases rg a 4 (by decide) with hp | ⟨r, hr, rfl⟩
  · refine jU_t hC hV (E := "java/lang/IllegalArgumentException") (r := 1) (by decide +kernel) (by decide) (x_concatenate_r _ c1 hp) (fun S1 th hm => ?_)
    have hm0 := hm
    obtain ⟨⟨rd, tl, cur, sv, m1⟩, m2, m3, m4, m5, m6, m7, m8, ⟨F70, m9⟩, m10⟩ := hm0
    exact ar_weak (m_concatenate_r _ m1 hp) (fun o S' q => jM_w hm q)
  · rcases rg b 4 (by decide) with hp | ⟨t, ht, rfl⟩
    · refine jU_t hC hV (E := "java/lang/IllegalArgumentException") (r := 1) (by decide +kernel) (by decide) (x_concatenate_r2 _ c1 hr hp) (fun S1 th hm => ?_)
      have hm0 := hm
      obtain ⟨⟨rd, tl, cur, sv, m1⟩, m2, m3, m4, m5, m6, m7, m8, ⟨F70, m9⟩, m10⟩ := hm0
      exact ar_weak (m_concatenate_r2 _ m1 hr hp) (fun o S' q => jM_w hm q)
    · rcases Nat.lt_or_ge 40 (N r + N t) with hn | hn
      · refine jU_t hC hV (E := "java/lang/IllegalStateException") (r := 2) (by decide +kernel) (by decide) (x_concatenate_full _ c1 c2 hr ht hn) (fun S1 th hm => ?_)
        have hm0 := hm
        obtain ⟨⟨rd, tl, cur, sv, m1⟩, m2, m3, m4, m5, m6, m7, m8, ⟨F70, m9⟩, m10⟩ := hm0
        exact ar_weak (m_concatenate_full _ m1 m2 hr ht hn) (fun o S' q => jM_w hm q)
      · have hy' : ∀ i, i < N r + N t → isY k (if i < N r then G r i else G t (i - N r)) := fun i hi => by
          split
          · exact hy r hr i (by omega)
          · exact hy t ht _ (by omega)
        refine ⟨((k, c, n, hs, err), ((updN N r (N r + N t)), (updG G r (fun i => if i < N r then G r i else G t (i - N r))), pn, pg, inp), (ks, cs, Ns, Gs, pns, pgs), ty, sz, v), ⟨⟨hk0, hk3⟩, hpk, upd_put hy hy', hhs, hsv, herr, hty⟩, Or.inl ⟨nI (N r + N t), ar_weak (x_concatenate _ c1 c2 hr ht hn) (fun o S' z => ?_), fun S1 th hm => ?_⟩⟩
        · obtain ⟨z0, zw, q⟩ := z
          exact ⟨z0, ⟨⟨c1.1.fr q (by omega), c1.2.1.fr q (by omega), c1.2.2.fr q (by omega)⟩, hWs_put c2 q (fun x hx => by omega) zw, c3.fr q (by omega) (by omega), ⟨c4.fr q (by omega), c5.fr q (by omega), c6.fr' q (fun x _ _ => by omega), c7.fr q (by omega) (by omega)⟩, c8.fr q (fun x _ _ => by omega), c9.fr' q (fun x _ _ => by omega), c10.fr' q (fun x _ _ => by omega), c11.fr q (by omega), ⟨acc, c12.fr q (by omega)⟩, c13.fr' q (fun x _ _ => by omega)⟩, q.mono (fun x hx => by show 1 ≤ x ∧ x ≤ 51; omega)⟩
        · obtain ⟨⟨rd, tl, cur, sv, m1⟩, m2, m3, m4, m5, m6, m7, m8, ⟨F70, m9⟩, m10⟩ := hm
          refine ar_weak (m_concatenate _ m1 m2 hr ht hn) (fun o S' z => ?_)
          obtain ⟨z0, ⟨za, zb⟩, q⟩ := z
          exact ⟨z0, ⟨⟨_, _, _, _, za⟩, zb, m3.fr q (by omega) (by omega), m4.fr q (by omega), m5.fr q (by omega), m6.fr q (by omega), m7.fr q (fun x _ _ => by omega), m8.fr q (by omega) (by omega) (by omega), ⟨F70, m9.fr q (by omega)⟩, fun z => (m10 z).fr q (by omega)⟩, q.mono (fun x hx => by show 52 ≤ x ∧ x ≤ 70; omega)⟩
theorem c_reverse {S : aq_S} {D : jD} {a : Int32} (hC : jC S D) (hV : jV D) : jU Value.int 0 77 148 [.int a] S D [("java/lang/IllegalArgumentException", 1)] := by
  obtain ⟨⟨k, c, n, hs, err⟩, ⟨N, G, pn, pg, inp⟩, ⟨ks, cs, Ns, Gs, pns, pgs⟩, ty, sz, v⟩ := D
  have hC0 := hC
  have hV0 := hV
  obtain ⟨c1, c2, c3, ⟨c4, c5, c6, c7⟩, c8, c9, c10, c11, ⟨acc, c12⟩, c13⟩ := hC0
  obtain ⟨⟨hk0, hk3⟩, hpk, hy, hhs, hsv, herr, hty⟩ := hV0
  rcases rg a 4 (by decide) with hp | ⟨r, hr, rfl⟩
  · refine jU_t hC hV (E := "java/lang/IllegalArgumentException") (r := 1) (by decide +kernel) (by decide) (x_reverse_r _ c1 hp) (fun S1 th hm => ?_)
    have hm0 := hm
    obtain ⟨⟨rd, tl, cur, sv, m1⟩, m2, m3, m4, m5, m6, m7, m8, ⟨F70, m9⟩, m10⟩ := hm0
    exact ar_weak (m_reverse_r _ m1 hp) (fun o S' q => jM_w hm q)
  · refine ⟨((k, c, n, hs, err), ((updN N r (N r)), (updG G r (fun i => G r (N r - 1 - i))), pn, pg, inp), (ks, cs, Ns, Gs, pns, pgs), ty, sz, v), ⟨⟨hk0, hk3⟩, hpk, upd_put hy (fun i hi => hy r hr _ (by omega)), hhs, hsv, herr, hty⟩, Or.inl ⟨bI (∀ i, i < N r → G r (N r - 1 - i) = G r i), ar_weak (x_reverse _ c1 c2 c9 hr) (fun o S' z => ?_), fun S1 th hm => ?_⟩⟩
    · obtain ⟨z0, zw, zd, q⟩ := z
      exact ⟨z0, ⟨⟨c1.1.fr q (by omega), c1.2.1.fr q (by omega), c1.2.2.fr q (by omega)⟩, hWs_put c2 q (fun x hx => by omega) zw, c3.fr q (by omega) (by omega), ⟨c4.fr q (by omega), c5.fr q (by omega), c6.fr' q (fun x _ _ => by omega), c7.fr q (by omega) (by omega)⟩, c8.fr q (fun x _ _ => by omega), ⟨⟨_, _, zd⟩, c9.2.elim (fun m h => h.elim (fun f h => ⟨m, f, h.fr q (by omega) (by omega)⟩))⟩, c10.fr' q (fun x _ _ => by omega), c11.fr q (by omega), ⟨acc, c12.fr q (by omega)⟩, c13.fr' q (fun x _ _ => by omega)⟩, q.mono (fun x hx => by show 1 ≤ x ∧ x ≤ 51; omega)⟩
    · obtain ⟨⟨rd, tl, cur, sv, m1⟩, m2, m3, m4, m5, m6, m7, m8, ⟨F70, m9⟩, m10⟩ := hm
      refine ar_weak (m_reverse _ m1 m2 m5 hr) (fun o S' z => ?_)
      obtain ⟨z0, ⟨za, zb, zc⟩, q⟩ := z
      exact ⟨z0, ⟨⟨_, _, _, _, za⟩, zb, m3.fr q (by omega) (by omega), m4.fr q (by omega), zc, m6.fr q (by omega), m7.fr q (fun x _ _ => by omega), m8.fr q (by omega) (by omega) (by omega), ⟨F70, m9.fr q (by omega)⟩, fun z => (m10 z).fr q (by omega)⟩, q.mono (fun x hx => by show 52 ≤ x ∧ x ≤ 70; omega)⟩
theorem c_rotate {S : aq_S} {D : jD} {a : Int32} {b : Int32} (hC : jC S D) (hV : jV D) : jU Value.int 0 78 149 [.int a, .int b] S D [("java/lang/IllegalArgumentException", 1), ("java/lang/IndexOutOfBoundsException", 2)] := by
  obtain ⟨⟨k, c, n, hs, err⟩, ⟨N, G, pn, pg, inp⟩, ⟨ks, cs, Ns, Gs, pns, pgs⟩, ty, sz, v⟩ := D
  have hC0 := hC
  have hV0 := hV
  obtain ⟨c1, c2, c3, ⟨c4, c5, c6, c7⟩, c8, c9, c10, c11, ⟨acc, c12⟩, c13⟩ := hC0
  obtain ⟨⟨hk0, hk3⟩, hpk, hy, hhs, hsv, herr, hty⟩ := hV0
  rcases rg a 4 (by decide) with hp | ⟨r, hr, rfl⟩
  · refine jU_t hC hV (E := "java/lang/IllegalArgumentException") (r := 1) (by decide +kernel) (by decide) (x_rotate_r _ c1 hp) (fun S1 th hm => ?_)
    have hm0 := hm
    obtain ⟨⟨rd, tl, cur, sv, m1⟩, m2, m3, m4, m5, m6, m7, m8, ⟨F70, m9⟩, m10⟩ := hm0
    exact ar_weak (m_rotate_r _ m1 hp) (fun o S' q => jM_w hm q)
  · have hle := (c2 r hr).le
    rcases rg b (N r + 1) (by omega) with hp | ⟨i, hi, rfl⟩
    · refine jU_t hC hV (E := "java/lang/IndexOutOfBoundsException") (r := 2) (by decide +kernel) (by decide) (x_rotate_n _ c1 c2 hr hp) (fun S1 th hm => ?_)
      have hm0 := hm
      obtain ⟨⟨rd, tl, cur, sv, m1⟩, m2, m3, m4, m5, m6, m7, m8, ⟨F70, m9⟩, m10⟩ := hm0
      exact ar_weak (m_rotate_n _ m1 m2 hr hp) (fun o S' q => jM_w hm q)
    · refine ⟨((k, c, n, hs, err), ((updN N r (N r)), (updG G r (fun j => G r ((j + i) % N r))), pn, pg, inp), (ks, cs, Ns, Gs, pns, pgs), ty, sz, v), ⟨⟨hk0, hk3⟩, hpk, upd_put hy (fun j hj => hy r hr _ (Nat.mod_lt _ (by omega))), hhs, hsv, herr, hty⟩, Or.inl ⟨bI (∀ j, j < N r → G r ((j + i) % N r) = G r j), ar_weak (x_rotate _ c1 c2 c9 hr (by omega)) (fun o S' z => ?_), fun S1 th hm => ?_⟩⟩
      · obtain ⟨z0, zw, zd, q⟩ := z
        exact ⟨z0, ⟨⟨c1.1.fr q (by omega), c1.2.1.fr q (by omega), c1.2.2.fr q (by omega)⟩, hWs_put c2 q (fun x hx => by omega) zw, c3.fr q (by omega) (by omega), ⟨c4.fr q (by omega), c5.fr q (by omega), c6.fr' q (fun x _ _ => by omega), c7.fr q (by omega) (by omega)⟩, c8.fr q (fun x _ _ => by omega), ⟨⟨_, _, zd⟩, c9.2.elim (fun m h => h.elim (fun f h => ⟨m, f, h.fr q (by omega) (by omega)⟩))⟩, c10.fr' q (fun x _ _ => by omega), c11.fr q (by omega), ⟨acc, c12.fr q (by omega)⟩, c13.fr' q (fun x _ _ => by omega)⟩, q.mono (fun x hx => by show 1 ≤ x ∧ x ≤ 51; omega)⟩
      · obtain ⟨⟨rd, tl, cur, sv, m1⟩, m2, m3, m4, m5, m6, m7, m8, ⟨F70, m9⟩, m10⟩ := hm
        refine ar_weak (m_rotate _ m1 m2 m5 hr (by omega)) (fun o S' z => ?_)
        obtain ⟨z0, ⟨za, zb, zc⟩, q⟩ := z
        exact ⟨z0, ⟨⟨_, _, _, _, za⟩, zb, m3.fr q (by omega) (by omega), m4.fr q (by omega), zc, m6.fr q (by omega), m7.fr q (fun x _ _ => by omega), m8.fr q (by omega) (by omega) (by omega), ⟨F70, m9.fr q (by omega)⟩, fun z => (m10 z).fr q (by omega)⟩, q.mono (fun x hx => by show 52 ≤ x ∧ x ≤ 70; omega)⟩
end
