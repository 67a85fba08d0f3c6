/-! ===== rows and snapshots (printed by wip/whole/mkK.py) ===== -/
section
theorem c_saveSnapshot {S : aq_S} {D : jD} (hC : jC S D) (hV : jV D) : ∃ (D' : jD) (a : Int32), jV D' ∧ aX 21 108 [.ref 1] S (fun o S' => o = .inl (some (.int a)) ∧ jC S' D' ∧ aq_fr S S' jQc) ∧ ∀ S1 th, jM S1 th D → aX 21 210 [.ref 52] S1 (fun o S' => o = .inl (some (.int a)) ∧ jM S' 0 D' ∧ aq_fr S1 S' jQm) := by
  obtain ⟨⟨k, c, n, hs, err⟩, ⟨N, G, pn, pg, inp⟩, ⟨ks, cs, Ns, Gs, pns, pgs⟩, ty, sz, v⟩ := D
  have hC0 := hC
  have hV0 := hV
  obtain ⟨c1, c2, c3, ⟨c4, c5, c6, c7⟩, c8, c9, c10, c11, ⟨acc, c12⟩, c13⟩ := hC0
  obtain ⟨⟨hk0, hk3⟩, hpk, hy, hhs, hsv, herr, hty⟩ := hV0
  refine ⟨((k, c, n, 1, err), (N, G, pn, pg, inp), (k, c, N, G, pn, pg), ty, sz, v), nI c, ⟨⟨hk0, hk3⟩, hpk, hy, Or.inr rfl, fun _ => ⟨⟨hk0, hk3⟩, hpk, hy⟩, herr, hty⟩, ar_weak (x_saveSnapshot _ c1 c2 c3 c4 c5 c6 c7) (fun o S' z => ?_), fun S1 th hm => ?_⟩
  · obtain ⟨z0, ⟨zx, z4, z6, z7⟩, q⟩ := z
    exact ⟨z0, ⟨⟨zx, c1.2.1.fr q (by omega), c1.2.2.fr q (by omega)⟩, c2.fr' q (fun x _ _ => by omega), c3.fr q (by omega) (by omega), ⟨z4, c5.fr q (by omega), z6, z7⟩, c8.fr q (fun x _ _ => by omega), c9.fr' q (fun x _ _ => by omega), c10.fr' q (fun x _ _ => by omega), c11.fr q (by omega), ⟨acc, c12.fr q (by omega)⟩, c13.fr' q (fun x _ _ => by omega)⟩, q.mono (fun x hx => by show 1 ≤ x ∧ x ≤ 51; omega)⟩
  · obtain ⟨⟨rd, tl, cur, sv, m1⟩, m2, m3, m4, m5, m6, m7, m8, ⟨F70, m9⟩, m10⟩ := hm
    refine ar_weak (m_saveSnapshot _ m1 m9 m2 m3 hpk) (fun o S' z => ?_)
    obtain ⟨z0, ⟨⟨cur', sv', za⟩, zb, zc, zd⟩, q⟩ := z
    exact ⟨z0, ⟨⟨_, _, _, _, za⟩, zb, zc, m4.fr q (by omega), m5.fr q (by omega), m6.fr q (by omega), m7.fr q (fun x _ _ => by omega), m8.fr q (by omega) (by omega) (by omega), zd.elim (fun F h => ⟨F, h.1⟩), fun _ => zd⟩, q.mono (fun x hx => by show 52 ≤ x ∧ x ≤ 70; omega)⟩
theorem c_restoreSnapshot {S : aq_S} {D : jD}  (hC : jC S D) (hV : jV D) : jU Value.int 0 109 211 [] S D [("java/lang/IllegalStateException", 1)] := by
  obtain ⟨⟨k, c, n, hs, err⟩, ⟨N, G, pn, pg, inp⟩, ⟨ks, cs, Ns, Gs, pns, pgs⟩, ty, sz, v⟩ := D
  have hC0 := hC
  have hV0 := hV
  obtain ⟨c1, c2, c3, ⟨c4, c5, c6, c7⟩, c8, c9, c10, c11, ⟨acc, c12⟩, c13⟩ := hC0
  obtain ⟨⟨hk0, hk3⟩, hpk, hy, hhs, hsv, herr, hty⟩ := hV0
  rcases hhs with e | e
  · subst e
    refine jU_t hC hV (E := "java/lang/IllegalStateException") (r := 1) (by decide +kernel) (by decide) (x_restoreSnapshot_no _ c1) (fun S1 th hm => ?_)
    have hm0 := hm
    obtain ⟨⟨rd, tl, cur, sv, m1⟩, m2, m3, m4, m5, m6, m7, m8, ⟨F70, m9⟩, m10⟩ := hm0
    exact ar_weak (m_restoreSnapshot_no _ m1) (fun o S' q => jM_w hm q)
  · subst e
    obtain ⟨hks, hpks, hys⟩ := hsv rfl
    refine ⟨((ks, cs, n, 1, err), (Ns, Gs, pns, pgs, inp), (ks, cs, Ns, Gs, pns, pgs), ty, sz, v), ⟨hks, hpks, hys, Or.inr rfl, hsv, herr, hty⟩, Or.inl ⟨nI cs, ar_weak (x_restoreSnapshot _ c1 c2 c3 c4 c5 c6 c7) (fun o S' z => ?_), fun S1 th hm => ?_⟩⟩
    · obtain ⟨z0, ⟨zx, z6, z7⟩, q⟩ := z
      exact ⟨z0, ⟨⟨c1.1.fr q (by omega), zx, c1.2.2.fr q (by omega)⟩, z6, z7, ⟨c4.fr q (by omega), c5.fr q (by omega), c6.fr' q (fun x _ _ => by omega), c7.fr q (by omega) (by omega)⟩, c8.fr q (fun x _ _ => by omega), c9.fr' q (fun x _ _ => by omega), c10.fr' q (fun x _ _ => by omega), c11.fr q (by omega), ⟨acc, c12.fr q (by omega)⟩, c13.fr' q (fun x _ _ => by omega)⟩, q.mono (fun x hx => by show 1 ≤ x ∧ x ≤ 51; omega)⟩
    · obtain ⟨⟨rd, tl, cur, sv, m1⟩, m2, m3, m4, m5, m6, m7, m8, ⟨F70, m9⟩, m10⟩ := hm
      refine ar_weak (m_restoreSnapshot _ m1 (m10 rfl) m2 m3 hpks) (fun o S' z => ?_)
      obtain ⟨z0, ⟨⟨cur', sv', za⟩, zb, zc, zd⟩, q⟩ := z
      exact ⟨z0, ⟨⟨_, _, _, _, za⟩, zb, zc, m4.fr q (by omega), m5.fr q (by omega), m6.fr q (by omega), m7.fr q (fun x _ _ => by omega), m8.fr q (by omega) (by omega) (by omega), zd.elim (fun F h => ⟨F, h.1⟩), fun _ => zd⟩, q.mono (fun x hx => by show 52 ≤ x ∧ x ≤ 70; omega)⟩
theorem ty_put {ty : Nat → Int32} {v : Nat → Nat → UInt64} {r : Nat} {t : Int32} {g : Nat → UInt64} (h : ∀ r, r < 2 → (ty r = -1 ∨ ty r = 0 ∨ ty r = 1) ∧ (¬ ty r = -1 → ∀ i, i < 41 → eI (ty r) (v r i))) (ht : t = 0 ∨ t = 1) (hg : ∀ i, i < 41 → eI t (g i)) : ∀ j, j < 2 → (upd ty r t j = -1 ∨ upd ty r t j = 0 ∨ upd ty r t j = 1) ∧ (¬ upd ty r t j = -1 → ∀ i, i < 41 → eI (upd ty r t j) (updR v r g j i)) := fun j hj => by
  by_cases e : j = r
  · subst e
    rw [upd_eq, updR_eq]
    exact ⟨Or.inr ht, fun _ => hg⟩
  · rw [upd_ne e, updR_ne e]
    exact h j hj
theorem ty_put2 {ty : Nat → Int32} {v : Nat → Nat → UInt64} {r : Nat} {g : Nat → UInt64} (h : ∀ r, r < 2 → (ty r = -1 ∨ ty r = 0 ∨ ty r = 1) ∧ (¬ ty r = -1 → ∀ i, i < 41 → eI (ty r) (v r i))) (hg : ∀ i, i < 41 → eI (ty r) (g i)) : ∀ j, j < 2 → (ty j = -1 ∨ ty j = 0 ∨ ty j = 1) ∧ (¬ ty j = -1 → ∀ i, i < 41 → eI (ty j) (updR v r g j i)) := fun j hj => by
  by_cases e : j = r
  · subst e
    rw [updR_eq]
    exact ⟨(h j hj).1, fun _ => hg⟩
  · rw [updR_ne e]
    exact h j hj
theorem c_newRow {S : aq_S} {D : jD} {a : Int32} {b : Int32} {s : Int32} (hC : jC S D) (hV : jV D) : jU Value.int 0 104 202 [.int a, .int b, .int s] S D [("java/lang/IllegalArgumentException", 1)] := by
  obtain ⟨⟨k, c, n, hs, err⟩, ⟨N, G, pn, pg, inp⟩, ⟨ks, cs, Ns, Gs, pns, pgs⟩, ty, sz, v⟩ := D
  have hC0 := hC
  have hV0 := hV
  obtain ⟨c1, c2, c3, ⟨c4, c5, c6, c7⟩, c8, c9, c10, c11, ⟨acc, c12⟩, c13⟩ := hC0
  obtain ⟨⟨hk0, hk3⟩, hpk, hy, hhs, hsv, herr, hty⟩ := hV0
  rcases rg a 2 (by decide) with hp | ⟨r, hr, rfl⟩
  · refine jU_t hC hV (E := "java/lang/IllegalArgumentException") (r := 1) (by decide +kernel) (by decide) (x_newRow_r _ c1.1 c11 hp) (fun S1 th hm => ?_)
    have hm0 := hm
    obtain ⟨⟨rd, tl, cur, sv, m1⟩, m2, m3, m4, m5, m6, m7, m8, ⟨F70, m9⟩, m10⟩ := hm0
    exact ar_weak (m_newRow_r _ m1 hp) (fun o S' q => jM_w hm q)
  · by_cases hb : (0 ≤ b ∧ b ≤ 1) ∧ (0 ≤ s ∧ s ≤ 41)
    · have key : ∀ (x : Int32) (z : Nat), z < 1001 → 0 ≤ x → x ≤ nI z → ∃ j, j ≤ z ∧ x = nI j := fun x z hz h1 h2 => by
        rcases rg x (z + 1) (by omega) with (h | h) | ⟨j, h3, e⟩
        · exact absurd h (Int32.not_lt.mpr h1)
        · exact absurd (Int32.le_trans h h2) (nI_ge (by omega) (by omega))
        · exact ⟨j, by omega, e⟩
      obtain ⟨⟨b1, b2⟩, s1, s2⟩ := hb
      have ht : b = 0 ∨ b = 1 := by
        obtain ⟨j, hj, e⟩ := key b 1 (by omega) b1 b2
        rcases Nat.lt_or_ge j 1 with z | z
        · have : j = 0 := by omega
          subst this
          exact Or.inl e
        · have : j = 1 := by omega
          subst this
          exact Or.inr e
      obtain ⟨u, hu, rfl⟩ := key s 41 (by omega) s1 s2
      refine ⟨((k, c, n, hs, err), (N, G, pn, pg, inp), (ks, cs, Ns, Gs, pns, pgs), upd ty r b, updN sz r u, updR v r (fun _ => 0)), ⟨⟨hk0, hk3⟩, hpk, hy, hhs, hsv, herr, ty_put hty ht (fun _ _ => eI_0 ht)⟩, Or.inl ⟨nI u, ar_weak (x_newRow _ c1.1 c11 (c13 r hr) hr ht hu) (fun o S' z => ?_), fun S1 th hm => ?_⟩⟩
      · obtain ⟨z0, zw, q⟩ := z
        exact ⟨z0, ⟨⟨c1.1.fr q (by omega), c1.2.1.fr q (by omega), c1.2.2.fr q (by omega)⟩, c2.fr' q (fun x _ _ => by omega), c3.fr q (by omega) (by omega), ⟨c4.fr q (by omega), c5.fr q (by omega), c6.fr' q (fun x _ _ => by omega), c7.fr q (by omega) (by omega)⟩, c8.fr q (fun x _ _ => by omega), c9.fr' q (fun x _ _ => by omega), c10.fr' q (fun x _ _ => by omega), c11.fr q (by omega), ⟨acc, c12.fr q (by omega)⟩, hRs_put c13 q (fun x hx => hx) (by rw [upd_eq, updN_eq, updR_eq]; exact zw) (fun j e => ⟨upd_ne e, updN_ne e, updR_ne e⟩)⟩, q.mono (fun x hx => by show 1 ≤ x ∧ x ≤ 51; omega)⟩
      · obtain ⟨⟨rd, tl, cur, sv, m1⟩, m2, m3, m4, m5, m6, m7, m8, ⟨F70, m9⟩, m10⟩ := hm
        refine ar_weak (m_newRow _ m1 m8 hr ht hu) (fun o S' z => ?_)
        obtain ⟨z0, ⟨za, zb⟩, q⟩ := z
        exact ⟨z0, ⟨⟨_, _, _, _, za⟩, m2.fr q (by omega) (by omega), m3.fr q (by omega) (by omega), m4.fr q (by omega), m5.fr q (by omega), m6.fr q (by omega), m7.fr q (fun x _ _ => by omega), zb, ⟨F70, m9.fr q (by omega)⟩, fun z => (m10 z).fr q (by omega)⟩, q.mono (fun x hx => by show 52 ≤ x ∧ x ≤ 70; omega)⟩
    · refine jU_t hC hV (E := "java/lang/IllegalArgumentException") (r := 1) (by decide +kernel) (by decide) (x_newRow_t _ c1.1 c11 hr hb) (fun S1 th hm => ?_)
      have hm0 := hm
      obtain ⟨⟨rd, tl, cur, sv, m1⟩, m2, m3, m4, m5, m6, m7, m8, ⟨F70, m9⟩, m10⟩ := hm0
      exact ar_weak (m_newRow_t _ m1 hr hb) (fun o S' q => jM_w hm q)
theorem c_fillDensities {S : aq_S} {D : jD} {a : Int32} {b : Int32} (hC : jC S D) (hV : jV D) : jU Value.int 0 105 203 [.int a, .int b] S D [("java/lang/IllegalArgumentException", 1), ("java/lang/IllegalStateException", 2)] := by
  obtain ⟨⟨k, c, n, hs, err⟩, ⟨N, G, pn, pg, inp⟩, ⟨ks, cs, Ns, Gs, pns, pgs⟩, ty, sz, v⟩ := D
  have hC0 := hC
  have hV0 := hV
  obtain ⟨c1, c2, c3, ⟨c4, c5, c6, c7⟩, c8, c9, c10, c11, ⟨acc, c12⟩, c13⟩ := hC0
  obtain ⟨⟨hk0, hk3⟩, hpk, hy, hhs, hsv, herr, hty⟩ := hV0
  rcases rg a 2 (by decide) with hp | ⟨r, hr, rfl⟩
  · refine jU_t hC hV (E := "java/lang/IllegalArgumentException") (r := 1) (by decide +kernel) (by decide) (x_fillDensities_r _ c1.1 c11 hp) (fun S1 th hm => ?_)
    have hm0 := hm
    obtain ⟨⟨rd, tl, cur, sv, m1⟩, m2, m3, m4, m5, m6, m7, m8, ⟨F70, m9⟩, m10⟩ := hm0
    exact ar_weak (m_fillDensities_r _ m1 hp) (fun o S' q => jM_w hm q)
  · rcases rg b 4 (by decide) with hp | ⟨t, ht, rfl⟩
    · refine jU_t hC hV (E := "java/lang/IllegalArgumentException") (r := 1) (by decide +kernel) (by decide) (x_fillDensities_q _ c1 c11 hr hp) (fun S1 th hm => ?_)
      have hm0 := hm
      obtain ⟨⟨rd, tl, cur, sv, m1⟩, m2, m3, m4, m5, m6, m7, m8, ⟨F70, m9⟩, m10⟩ := hm0
      exact ar_weak (m_fillDensities_q _ m1 hr hp) (fun o S' q => jM_w hm q)
    · by_cases hb : ty r = -1 ∨ sz r < N t
      · refine jU_t hC hV (E := "java/lang/IllegalStateException") (r := 2) (by decide +kernel) (by decide) (x_fillDensities_n _ c1 c11 (c13 r hr) c2 hr ht hb) (fun S1 th hm => ?_)
        have hm0 := hm
        obtain ⟨⟨rd, tl, cur, sv, m1⟩, m2, m3, m4, m5, m6, m7, m8, ⟨F70, m9⟩, m10⟩ := hm0
        exact ar_weak (m_fillDensities_n _ m1 m8 m2 hr ht (hty r hr).1 hb) (fun o S' q => jM_w hm q)
      · have hb1 : ¬ ty r = -1 := fun z => hb (Or.inl z)
        have hb2 : N t ≤ sz r := Nat.le_of_not_lt (fun z => hb (Or.inr z))
        have ht01 : ty r = 0 ∨ ty r = 1 := (hty r hr).1.resolve_left hb1
        have hle := (c2 t ht).le
        have hg : ∀ i, i < 41 → eI (ty r) (if i < N t then dq (ty r) (wholes (G t) (i + 1)) (i + 1) (fper 1 (N t) (G t)) else v r i) := fun i hi => by
          split
          · rename_i hi2
            have h1 := wholes_le (G t) (i + 1)
            have h2 := fper_le 1 (N t) (G t)
            have h3 : 0 < fper 1 (N t) (G t) := by
              unfold fper
              rw [if_neg (by omega)]
              exact leastP_ge _ _
            exact dq_eI ht01 h1 (by omega) (by omega) h3 (by omega)
          · exact (hty r hr).2 hb1 i hi
        refine ⟨((k, c, n, hs, err), (N, G, pn, pg, inp), (ks, cs, Ns, Gs, pns, pgs), ty, sz, updR v r (fun i => if i < N t then dq (ty r) (wholes (G t) (i + 1)) (i + 1) (fper 1 (N t) (G t)) else v r i)), ⟨⟨hk0, hk3⟩, hpk, hy, hhs, hsv, herr, ty_put2 hty hg⟩, Or.inl ⟨nI (N t), ar_weak (x_fillDensities _ c1 c11 (c13 r hr) c2 hr ht hb1 hb2) (fun o S' z => ?_), fun S1 th hm => ?_⟩⟩
        · obtain ⟨z0, zw, q⟩ := z
          exact ⟨z0, ⟨⟨c1.1.fr q (by omega), c1.2.1.fr q (by omega), c1.2.2.fr q (by omega)⟩, c2.fr' q (fun x _ _ => by omega), c3.fr q (by omega) (by omega), ⟨c4.fr q (by omega), c5.fr q (by omega), c6.fr' q (fun x _ _ => by omega), c7.fr q (by omega) (by omega)⟩, c8.fr q (fun x _ _ => by omega), c9.fr' q (fun x _ _ => by omega), c10.fr' q (fun x _ _ => by omega), c11.fr q (by omega), ⟨acc, c12.fr q (by omega)⟩, hRs_put c13 q (fun x hx => Or.inr hx) (by rw [updR_eq]; exact zw) (fun j e => ⟨rfl, rfl, updR_ne e⟩)⟩, q.mono (fun x hx => by show 1 ≤ x ∧ x ≤ 51; omega)⟩
        · obtain ⟨⟨rd, tl, cur, sv, m1⟩, m2, m3, m4, m5, m6, m7, m8, ⟨F70, m9⟩, m10⟩ := hm
          refine ar_weak (m_fillDensities _ m1 m8 m2 hr ht ht01 hb2) (fun o S' z => ?_)
          obtain ⟨z0, ⟨za, zb⟩, q⟩ := z
          exact ⟨z0, ⟨⟨_, _, _, _, za⟩, m2.fr q (by omega) (by omega), m3.fr q (by omega) (by omega), m4.fr q (by omega), m5.fr q (by omega), m6.fr q (by omega), m7.fr q (fun x _ _ => by omega), zb, ⟨F70, m9.fr q (by omega)⟩, fun z => (m10 z).fr q (by omega)⟩, q.mono (fun x hx => by show 52 ≤ x ∧ x ≤ 70; omega)⟩
theorem c_takeRemainder {S : aq_S} {D : jD} {a : Int32} {b : Int32} {s : Int32} (hC : jC S D) (hV : jV D) : jU Value.int 0 106 205 [.int a, .int b, .int s] S D [("java/lang/IllegalArgumentException", 1), ("java/lang/IllegalStateException", 2), ("java/lang/IndexOutOfBoundsException", 3), ("java/lang/ArithmeticException", 4)] := by
  obtain ⟨⟨k, c, n, hs, err⟩, ⟨N, G, pn, pg, inp⟩, ⟨ks, cs, Ns, Gs, pns, pgs⟩, ty, sz, v⟩ := D
  have hC0 := hC
  have hV0 := hV
  obtain ⟨c1, c2, c3, ⟨c4, c5, c6, c7⟩, c8, c9, c10, c11, ⟨acc, c12⟩, c13⟩ := hC0
  obtain ⟨⟨hk0, hk3⟩, hpk, hy, hhs, hsv, herr, hty⟩ := hV0
  rcases rg a 2 (by decide) with hp | ⟨r, hr, rfl⟩
  · refine jU_t hC hV (E := "java/lang/IllegalArgumentException") (r := 1) (by decide +kernel) (by decide) (x_takeRemainder_r _ c1.1 c11 hp) (fun S1 th hm => ?_)
    have hm0 := hm
    obtain ⟨⟨rd, tl, cur, sv, m1⟩, m2, m3, m4, m5, m6, m7, m8, ⟨F70, m9⟩, m10⟩ := hm0
    exact ar_weak (m_takeRemainder_e _ m1 (Or.inl rfl) (m_notElement_r _ hp)) (fun o S' q => jM_w hm q)
  · by_cases hb1 : ty r = -1
    · refine jU_t hC hV (E := "java/lang/IllegalStateException") (r := 2) (by decide +kernel) (by decide) (x_takeRemainder_m _ c1.1 c11 (c13 r hr) hr hb1) (fun S1 th hm => ?_)
      have hm0 := hm
      obtain ⟨⟨rd, tl, cur, sv, m1⟩, m2, m3, m4, m5, m6, m7, m8, ⟨F70, m9⟩, m10⟩ := hm0
      exact ar_weak (m_takeRemainder_e _ m1 (Or.inr (Or.inl rfl)) (m_notElement_m _ m1 m8 hr hb1)) (fun o S' q => jM_w hm q)
    · have ht01 : ty r = 0 ∨ ty r = 1 := (hty r hr).1.resolve_left hb1
      have hsz := (c13 r hr).2.2.1
      rcases rg b (sz r) (by omega) with hp | ⟨i, hi, rfl⟩
      · have hne : ∀ {S : aq_S} {th : Int32} {rd tl cur sv : Int32}, mO S th (nI k) (nI n) err rd tl (nI c) (-1) cur hs sv → mRw S ty sz v → aX (18 + 2) 204 [.ref 52, .int (nI r), .int b] S (fun o S' => o = .inl (some (.int 3)) ∧ S' = S) := fun m1 m8 => by
          have := m_notElement 18 (i := b) m1 m8 hr ht01
          rw [pif_t hp] at this
          exact this
        refine jU_t hC hV (E := "java/lang/IndexOutOfBoundsException") (r := 3) (by decide +kernel) (by decide) (x_takeRemainder_i _ c1.1 c11 (c13 r hr) hr hb1 (Or.inl hp)) (fun S1 th hm => ?_)
        have hm0 := hm
        obtain ⟨⟨rd, tl, cur, sv, m1⟩, m2, m3, m4, m5, m6, m7, m8, ⟨F70, m9⟩, m10⟩ := hm0
        exact ar_weak (m_takeRemainder_e _ m1 (Or.inr (Or.inr rfl)) (hne m1 m8)) (fun o S' q => jM_w hm q)
      · rcases rg s (sz r) (by omega) with hp | ⟨j, hj, rfl⟩
        · refine jU_t hC hV (E := "java/lang/IndexOutOfBoundsException") (r := 3) (by decide +kernel) (by decide) (x_takeRemainder_i _ c1.1 c11 (c13 r hr) hr hb1 (Or.inr hp)) (fun S1 th hm => ?_)
          have hm0 := hm
          obtain ⟨⟨rd, tl, cur, sv, m1⟩, m2, m3, m4, m5, m6, m7, m8, ⟨F70, m9⟩, m10⟩ := hm0
          exact ar_weak (m_takeRemainder_j _ m1 m8 hr ht01 hi hp) (fun o S' q => jM_w hm q)
        · have e1 := (hty r hr).2 hb1 i (by omega)
          have e2 := (hty r hr).2 hb1 j (by omega)
          obtain ⟨u, hu, -⟩ := e2.d
          rcases Nat.eq_zero_or_pos u with z | z
          · subst z
            refine jU_t hC hV (E := "java/lang/ArithmeticException") (r := 4) (by decide +kernel) (by decide) (x_takeRemainder_0 _ c1.1 c11 (c13 r hr) hr hb1 hi hj hu) (fun S1 th hm => ?_)
            have hm0 := hm
            obtain ⟨⟨rd, tl, cur, sv, m1⟩, m2, m3, m4, m5, m6, m7, m8, ⟨F70, m9⟩, m10⟩ := hm0
            exact ar_weak (m_takeRemainder_0 _ m1 m8 hr ht01 hi hj hu) (fun o S' q => jM_w hm q)
          · have hg : ∀ x, x < 41 → eI (ty r) (vf_upd (v r) i (FP.drem (v r i) (v r j)) x) := fun x hx => by
              unfold vf_upd
              split
              · exact e1.rem e2 hu z
              · exact (hty r hr).2 hb1 x hx
            refine ⟨((k, c, n, hs, err), (N, G, pn, pg, inp), (ks, cs, Ns, Gs, pns, pgs), ty, sz, updR v r (vf_upd (v r) i (FP.drem (v r i) (v r j)))), ⟨⟨hk0, hk3⟩, hpk, hy, hhs, hsv, herr, ty_put2 hty hg⟩, Or.inl ⟨tR (FP.drem (v r i) (v r j)), ar_weak (x_takeRemainder _ c1.1 c11 (c13 r hr) hr hb1 hi hj e1 e2 hu z) (fun o S' z => ?_), fun S1 th hm => ?_⟩⟩
            · obtain ⟨z0, zw, q⟩ := z
              exact ⟨z0, ⟨⟨c1.1.fr q (by omega), c1.2.1.fr q (by omega), c1.2.2.fr q (by omega)⟩, c2.fr' q (fun x _ _ => by omega), c3.fr q (by omega) (by omega), ⟨c4.fr q (by omega), c5.fr q (by omega), c6.fr' q (fun x _ _ => by omega), c7.fr q (by omega) (by omega)⟩, c8.fr q (fun x _ _ => by omega), c9.fr' q (fun x _ _ => by omega), c10.fr' q (fun x _ _ => by omega), c11.fr q (by omega), ⟨acc, c12.fr q (by omega)⟩, hRs_put c13 q (fun x hx => Or.inr hx) (by rw [updR_eq]; exact zw) (fun j e => ⟨rfl, rfl, updR_ne e⟩)⟩, q.mono (fun x hx => by show 1 ≤ x ∧ x ≤ 51; omega)⟩
            · obtain ⟨⟨rd, tl, cur, sv, m1⟩, m2, m3, m4, m5, m6, m7, m8, ⟨F70, m9⟩, m10⟩ := hm
              refine ar_weak (m_takeRemainder _ m1 m8 hr ht01 hi hj e1 e2 hu z) (fun o S' z => ?_)
              obtain ⟨z0, ⟨za, zb⟩, q⟩ := z
              exact ⟨z0, ⟨⟨_, _, _, _, za⟩, m2.fr q (by omega) (by omega), m3.fr q (by omega) (by omega), m4.fr q (by omega), m5.fr q (by omega), m6.fr q (by omega), m7.fr q (fun x _ _ => by omega), zb, ⟨F70, m9.fr q (by omega)⟩, fun z => (m10 z).fr q (by omega)⟩, q.mono (fun x hx => by show 52 ≤ x ∧ x ≤ 70; omega)⟩
theorem c_elementBits {S : aq_S} {D : jD} {a : Int32} {b : Int32} (hC : jC S D) (hV : jV D) : jU Value.long 0 107 206 [.int a, .int b] S D [("java/lang/IllegalArgumentException", 1), ("java/lang/IllegalStateException", 2), ("java/lang/IndexOutOfBoundsException", 3)] := by
  obtain ⟨⟨k, c, n, hs, err⟩, ⟨N, G, pn, pg, inp⟩, ⟨ks, cs, Ns, Gs, pns, pgs⟩, ty, sz, v⟩ := D
  have hC0 := hC
  have hV0 := hV
  obtain ⟨c1, c2, c3, ⟨c4, c5, c6, c7⟩, c8, c9, c10, c11, ⟨acc, c12⟩, c13⟩ := hC0
  obtain ⟨⟨hk0, hk3⟩, hpk, hy, hhs, hsv, herr, hty⟩ := hV0
  rcases rg a 2 (by decide) with hp | ⟨r, hr, rfl⟩
  · refine jU_t hC hV (E := "java/lang/IllegalArgumentException") (r := 1) (by decide +kernel) (by decide) (x_elementBits_r _ c1.1 c11 hp) (fun S1 th hm => ?_)
    have hm0 := hm
    obtain ⟨⟨rd, tl, cur, sv, m1⟩, m2, m3, m4, m5, m6, m7, m8, ⟨F70, m9⟩, m10⟩ := hm0
    exact ar_weak (m_elementBits_e _ m1 (Or.inl rfl) (m_notElement_r _ hp)) (fun o S' q => jM_w hm q)
  · by_cases hb1 : ty r = -1
    · refine jU_t hC hV (E := "java/lang/IllegalStateException") (r := 2) (by decide +kernel) (by decide) (x_elementBits_m _ c1.1 c11 (c13 r hr) hr hb1) (fun S1 th hm => ?_)
      have hm0 := hm
      obtain ⟨⟨rd, tl, cur, sv, m1⟩, m2, m3, m4, m5, m6, m7, m8, ⟨F70, m9⟩, m10⟩ := hm0
      exact ar_weak (m_elementBits_e _ m1 (Or.inr (Or.inl rfl)) (m_notElement_m _ m1 m8 hr hb1)) (fun o S' q => jM_w hm q)
    · have ht01 : ty r = 0 ∨ ty r = 1 := (hty r hr).1.resolve_left hb1
      have hsz := (c13 r hr).2.2.1
      rcases rg b (sz r) (by omega) with hp | ⟨i, hi, rfl⟩
      · have hne : ∀ {S : aq_S} {th : Int32} {rd tl cur sv : Int32}, mO S th (nI k) (nI n) err rd tl (nI c) (-1) cur hs sv → mRw S ty sz v → aX (18 + 2) 204 [.ref 52, .int (nI r), .int b] S (fun o S' => o = .inl (some (.int 3)) ∧ S' = S) := fun m1 m8 => by
          have := m_notElement 18 (i := b) m1 m8 hr ht01
          rw [pif_t hp] at this
          exact this
        refine jU_t hC hV (E := "java/lang/IndexOutOfBoundsException") (r := 3) (by decide +kernel) (by decide) (x_elementBits_i _ c1.1 c11 (c13 r hr) hr hb1 hp) (fun S1 th hm => ?_)
        have hm0 := hm
        obtain ⟨⟨rd, tl, cur, sv, m1⟩, m2, m3, m4, m5, m6, m7, m8, ⟨F70, m9⟩, m10⟩ := hm0
        exact ar_weak (m_elementBits_e _ m1 (Or.inr (Or.inr rfl)) (hne m1 m8)) (fun o S' q => jM_w hm q)
      · refine jU_q hC hV (x_elementBits _ c1.1 c11 (c13 r hr) hr ht01 hi ((hty r hr).2 hb1 i (by omega))) (fun S1 th hm => ?_)
        have hm0 := hm
        obtain ⟨⟨rd, tl, cur, sv, m1⟩, m2, m3, m4, m5, m6, m7, m8, ⟨F70, m9⟩, m10⟩ := hm0
        exact ar_weak (m_elementBits _ m1 m8 hr ht01 hi ((hty r hr).2 hb1 i (by omega))) (fun o S' q => jM_w hm q)
end
