/-! ===== completions, subwords (printed by wip/whole/mkK.py) ===== -/
section
theorem c_completionCount {S : aq_S} {D : jD} {a : Int32} (hC : jC S D) (hV : jV D) : jU Value.long 0 90 170 [.int a] S D [("java/lang/IllegalArgumentException", 1), ("java/lang/ArithmeticException", 2)] := by
  obtain ⟨⟨k, c, n, hs, err⟩, ⟨N, G, pn, pg, inp⟩, ⟨ks, cs, Ns, Gs, pns, pgs⟩, ty, sz, v⟩ := D
  have hC0 := hC
  have hV0 := hV
  obtain ⟨c1, c2, c3, ⟨c4, c5, c6, c7⟩, c8, c9, c10, c11, ⟨acc, c12⟩, c13⟩ := hC0
  obtain ⟨⟨hk0, hk3⟩, hpk, hy, hhs, hsv, herr, hty⟩ := hV0
  rcases rg a 4 (by decide) with hp | ⟨r, hr, rfl⟩
  · refine jU_t hC hV (E := "java/lang/IllegalArgumentException") (r := 1) (by decide +kernel) (by decide) (x_completionCount_r _ c1 hp) (fun S1 th hm => ?_)
    have hm0 := hm
    obtain ⟨⟨rd, tl, cur, sv, m1⟩, m2, m3, m4, m5, m6, m7, m8, ⟨F70, m9⟩, m10⟩ := hm0
    exact ar_weak (m_completionCount_r _ m1 hp) (fun o S' q => jM_w hm q)
  · by_cases hb : cBig k (wholes (G r) (N r))
    · refine jU_t hC hV (E := "java/lang/ArithmeticException") (r := 2) (by decide +kernel) (by decide) (x_completionCount_b _ c1 c2 hk0 hk3 hr hb) (fun S1 th hm => ?_)
      have hm0 := hm
      obtain ⟨⟨rd, tl, cur, sv, m1⟩, m2, m3, m4, m5, m6, m7, m8, ⟨F70, m9⟩, m10⟩ := hm0
      exact ar_weak (m_completionCount_b _ m1 m2 hk3 hr hb) (fun o S' q => jM_w hm q)
    · refine jU_q hC hV (x_completionCount _ c1 c2 hk0 hk3 hr hb) (fun S1 th hm => ?_)
      have hm0 := hm
      obtain ⟨⟨rd, tl, cur, sv, m1⟩, m2, m3, m4, m5, m6, m7, m8, ⟨F70, m9⟩, m10⟩ := hm0
      exact ar_weak (m_completionCount _ m1 m2 hk3 hr hb) (fun o S' q => jM_w hm q)
theorem c_complete {S : aq_S} {D : jD} {a : Int32} {x : Int64} {b : Int32} (hC : jC S D) (hV : jV D) : jU Value.int 0 91 172 [.int a, .long x, .int b] S D [("java/lang/IllegalArgumentException", 1), ("java/lang/ArithmeticException", 2), ("java/util/NoSuchElementException", 3)] := by
  obtain ⟨⟨k, c, n, hs, err⟩, ⟨N, G, pn, pg, inp⟩, ⟨ks, cs, Ns, Gs, pns, pgs⟩, ty, sz, v⟩ := D
  have hC0 := hC
  have hV0 := hV
  obtain ⟨c1, c2, c3, ⟨c4, c5, c6, c7⟩, c8, c9, c10, c11, ⟨acc, c12⟩, c13⟩ := hC0
  obtain ⟨⟨hk0, hk3⟩, hpk, hy, hhs, hsv, herr, hty⟩ := hV0
  rcases rg a 4 (by decide) with hp | ⟨r, hr, rfl⟩
  · refine jU_t hC hV (E := "java/lang/IllegalArgumentException") (r := 1) (by decide +kernel) (by decide) (x_complete_r _ c1 hp) (fun S1 th hm => ?_)
    have hm0 := hm
    obtain ⟨⟨rd, tl, cur, sv, m1⟩, m2, m3, m4, m5, m6, m7, m8, ⟨F70, m9⟩, m10⟩ := hm0
    exact ar_weak (m_complete_r _ m1 hp) (fun o S' q => jM_w hm q)
  · rcases rg b 4 (by decide) with hp | ⟨t, ht, rfl⟩
    · refine jU_t hC hV (E := "java/lang/IllegalArgumentException") (r := 1) (by decide +kernel) (by decide) (x_complete_r2 _ c1 hr hp) (fun S1 th hm => ?_)
      have hm0 := hm
      obtain ⟨⟨rd, tl, cur, sv, m1⟩, m2, m3, m4, m5, m6, m7, m8, ⟨F70, m9⟩, m10⟩ := hm0
      exact ar_weak (m_complete_r2 _ m1 hr hp) (fun o S' q => jM_w hm q)
    · by_cases hb : cBig k (wholes (G r) (N r))
      · refine jU_t hC hV (E := "java/lang/ArithmeticException") (r := 2) (by decide +kernel) (by decide) (x_complete_b _ c1 c2 hk0 hk3 hr ht hb) (fun S1 th hm => ?_)
        have hm0 := hm
        obtain ⟨⟨rd, tl, cur, sv, m1⟩, m2, m3, m4, m5, m6, m7, m8, ⟨F70, m9⟩, m10⟩ := hm0
        exact ar_weak (m_complete_b _ m1 m2 hk3 hr ht hb) (fun o S' q => jM_w hm q)
      · have hle := (c2 r hr).le
        have hwl := wholes_le (G r) (N r)
        have hpw : k ^ wholes (G r) (N r) < 2 ^ 63 := pw_lt hk3 (by omega) hb
        rcases rgl x _ hpw with hp | ⟨num, ha, rfl⟩
        · refine jU_t hC hV (E := "java/util/NoSuchElementException") (r := 3) (by decide +kernel) (by decide) (x_complete_n _ c1 c2 hk0 hk3 hr ht hb hp) (fun S1 th hm => ?_)
          have hm0 := hm
          obtain ⟨⟨rd, tl, cur, sv, m1⟩, m2, m3, m4, m5, m6, m7, m8, ⟨F70, m9⟩, m10⟩ := hm0
          exact ar_weak (m_complete_n _ m1 m2 hk0 hk3 hr ht hb hp) (fun o S' q => jM_w hm q)
        · have hy' : ∀ i, i < N r → isY k (wdig k (G r) (N r) num i) := fun i hi => by
            unfold wdig
            split
            · exact isY_nI (Nat.mod_lt _ hk0) hk3
            · exact hy r hr i hi
          refine ⟨((k, c, n, hs, err), ((updN N t (N r)), (updG G t (wdig k (G r) (N r) num)), pn, pg, inp), (ks, cs, Ns, Gs, pns, pgs), ty, sz, v), ⟨⟨hk0, hk3⟩, hpk, upd_put hy hy', hhs, hsv, herr, hty⟩, Or.inl ⟨nI (N r), ar_weak (x_complete _ c1 c2 hk0 hk3 hr ht hb ha) (fun o S' z => ?_), fun S1 th hm => ?_⟩⟩
          · obtain ⟨z0, zw, q⟩ := z
            exact ⟨z0, ⟨⟨c1.1.fr q (by omega), c1.2.1.fr q (by omega), c1.2.2.fr q (by omega)⟩, hWs_put c2 q (fun x hx => by omega) zw, c3.fr q (by omega) (by omega), ⟨c4.fr q (by omega), c5.fr q (by omega), c6.fr' q (fun x _ _ => by omega), c7.fr q (by omega) (by omega)⟩, c8.fr q (fun x _ _ => by omega), c9.fr' q (fun x _ _ => by omega), c10.fr' q (fun x _ _ => by omega), c11.fr q (by omega), ⟨acc, c12.fr q (by omega)⟩, c13.fr' q (fun x _ _ => by omega)⟩, q.mono (fun x hx => by show 1 ≤ x ∧ x ≤ 51; omega)⟩
          · obtain ⟨⟨rd, tl, cur, sv, m1⟩, m2, m3, m4, m5, m6, m7, m8, ⟨F70, m9⟩, m10⟩ := hm
            refine ar_weak (m_complete _ m1 m2 m5 hk0 hk3 hr ht hb ha) (fun o S' z => ?_)
            obtain ⟨z0, ⟨za, zb, zc⟩, q⟩ := z
            exact ⟨z0, ⟨⟨_, _, _, _, za⟩, zb, m3.fr q (by omega) (by omega), m4.fr q (by omega), zc, m6.fr q (by omega), m7.fr q (fun x _ _ => by omega), m8.fr q (by omega) (by omega) (by omega), ⟨F70, m9.fr q (by omega)⟩, fun z => (m10 z).fr q (by omega)⟩, q.mono (fun x hx => by show 52 ≤ x ∧ x ≤ 70; omega)⟩
theorem c_primitiveCompletions {S : aq_S} {D : jD} {a : Int32} (hC : jC S D) (hV : jV D) : jU Value.int 0 92 173 [.int a] S D [("java/lang/IllegalArgumentException", 1), ("java/lang/IllegalStateException", 2)] := by
  obtain ⟨⟨k, c, n, hs, err⟩, ⟨N, G, pn, pg, inp⟩, ⟨ks, cs, Ns, Gs, pns, pgs⟩, ty, sz, v⟩ := D
  have hC0 := hC
  have hV0 := hV
  obtain ⟨c1, c2, c3, ⟨c4, c5, c6, c7⟩, c8, c9, c10, c11, ⟨acc, c12⟩, c13⟩ := hC0
  obtain ⟨⟨hk0, hk3⟩, hpk, hy, hhs, hsv, herr, hty⟩ := hV0
  rcases rg a 4 (by decide) with hp | ⟨r, hr, rfl⟩
  · refine jU_t hC hV (E := "java/lang/IllegalArgumentException") (r := 1) (by decide +kernel) (by decide) (x_primitiveCompletions_r _ c1 hp) (fun S1 th hm => ?_)
    have hm0 := hm
    obtain ⟨⟨rd, tl, cur, sv, m1⟩, m2, m3, m4, m5, m6, m7, m8, ⟨F70, m9⟩, m10⟩ := hm0
    exact ar_weak (m_primitiveCompletions_r _ m1 hp) (fun o S' q => jM_w hm q)
  · rcases Nat.lt_or_ge 7 (wholes (G r) (N r)) with hh | hh
    · refine jU_t hC hV (E := "java/lang/IllegalStateException") (r := 2) (by decide +kernel) (by decide) (x_primitiveCompletions_h _ c1 c2 hr hh) (fun S1 th hm => ?_)
      have hm0 := hm
      obtain ⟨⟨rd, tl, cur, sv, m1⟩, m2, m3, m4, m5, m6, m7, m8, ⟨F70, m9⟩, m10⟩ := hm0
      exact ar_weak (m_primitiveCompletions_h _ m1 m2 hr hh) (fun o S' q => jM_w hm q)
    · refine ⟨((k, c, n, hs, err), (N, G, pn, pg, inp), (ks, cs, Ns, Gs, pns, pgs), ty, sz, v), hV, Or.inl ⟨nI (pcnt k (N r) (G r)), ar_weak (x_primitiveCompletions _ c1 c2 hk0 hk3 hr hh (fun i hi => (hy r hr i hi).fY hk3)) (fun o S' z => ?_), fun S1 th hm => ?_⟩⟩
      · obtain ⟨z0, zs⟩ := z
        subst zs
        exact ⟨z0, hC, aq_fr.rf⟩
      · obtain ⟨⟨rd, tl, cur, sv, m1⟩, m2, m3, m4, m5, m6, m7, m8, ⟨F70, m9⟩, m10⟩ := hm
        refine ar_weak (m_primitiveCompletions _ m1 m2 m5 hk0 hk3 hr hh) (fun o S' z => ?_)
        obtain ⟨z0, ⟨za, zb⟩, q⟩ := z
        exact ⟨z0, ⟨⟨_, _, _, _, za⟩, m2.fr q (by omega) (by omega), m3.fr q (by omega) (by omega), m4.fr q (by omega), zb, m6.fr q (by omega), m7.fr q (fun x _ _ => by omega), m8.fr q (by omega) (by omega) (by omega), ⟨F70, m9.fr q (by omega)⟩, fun z => (m10 z).fr q (by omega)⟩, q.mono (fun x hx => by show 52 ≤ x ∧ x ≤ 70; omega)⟩
theorem c_complexity {S : aq_S} {D : jD} {a : Int32} {b : Int32} (hC : jC S D) (hV : jV D) : jU Value.int 0 93 177 [.int a, .int b] S D [("java/lang/IllegalArgumentException", 1)] := by
  obtain ⟨⟨k, c, n, hs, err⟩, ⟨N, G, pn, pg, inp⟩, ⟨ks, cs, Ns, Gs, pns, pgs⟩, ty, sz, v⟩ := D
  have hC0 := hC
  have hV0 := hV
  obtain ⟨c1, c2, c3, ⟨c4, c5, c6, c7⟩, c8, c9, c10, c11, ⟨acc, c12⟩, c13⟩ := hC0
  obtain ⟨⟨hk0, hk3⟩, hpk, hy, hhs, hsv, herr, hty⟩ := hV0
  rcases rg a 4 (by decide) with hp | ⟨r, hr, rfl⟩
  · refine jU_t hC hV (E := "java/lang/IllegalArgumentException") (r := 1) (by decide +kernel) (by decide) (x_complexity_r _ c1 hp) (fun S1 th hm => ?_)
    have hm0 := hm
    obtain ⟨⟨rd, tl, cur, sv, m1⟩, m2, m3, m4, m5, m6, m7, m8, ⟨F70, m9⟩, m10⟩ := hm0
    exact ar_weak (m_complexity_r _ m1 hp) (fun o S' q => jM_w hm q)
  · rcases rg b 7 (by decide) with hp | ⟨t, ht, rfl⟩
    · refine jU_t hC hV (E := "java/lang/IllegalArgumentException") (r := 1) (by decide +kernel) (by decide) (x_complexity_n _ c1 hr hp) (fun S1 th hm => ?_)
      have hm0 := hm
      obtain ⟨⟨rd, tl, cur, sv, m1⟩, m2, m3, m4, m5, m6, m7, m8, ⟨F70, m9⟩, m10⟩ := hm0
      exact ar_weak (m_complexity_n _ m1 hr hp) (fun o S' q => jM_w hm q)
    · refine ⟨((k, c, n, hs, err), (N, G, pn, pg, inp), (ks, cs, Ns, Gs, pns, pgs), ty, sz, v), hV, Or.inl ⟨nI (cpx k t (N r) (G r)), ar_weak (x_complexity _ c1 c2 c12 hk0 hk3 hr (by omega)) (fun o S' z => ?_), fun S1 th hm => ?_⟩⟩
      · obtain ⟨z0, zc, q⟩ := z
        exact ⟨z0, ⟨⟨c1.1.fr q (by omega), c1.2.1.fr q (by omega), c1.2.2.fr q (by omega)⟩, c2.fr' q (fun x _ _ => by omega), c3.fr q (by omega) (by omega), ⟨c4.fr q (by omega), c5.fr q (by omega), c6.fr' q (fun x _ _ => by omega), c7.fr q (by omega) (by omega)⟩, c8.fr q (fun x _ _ => by omega), c9.fr' q (fun x _ _ => by omega), c10.fr' q (fun x _ _ => by omega), c11.fr q (by omega), zc, c13.fr' q (fun x _ _ => by omega)⟩, q.mono (fun x hx => by show 1 ≤ x ∧ x ≤ 51; omega)⟩
      · obtain ⟨⟨rd, tl, cur, sv, m1⟩, m2, m3, m4, m5, m6, m7, m8, ⟨F70, m9⟩, m10⟩ := hm
        refine ar_weak (m_complexity _ m1 m2 m5 hk0 hk3 hr (by omega)) (fun o S' z => ?_)
        obtain ⟨z0, ⟨za, zb⟩, q⟩ := z
        exact ⟨z0, ⟨⟨_, _, _, _, za⟩, m2.fr q (by omega) (by omega), m3.fr q (by omega) (by omega), m4.fr q (by omega), zb, m6.fr q (by omega), m7.fr q (fun x _ _ => by omega), m8.fr q (by omega) (by omega) (by omega), ⟨F70, m9.fr q (by omega)⟩, fun z => (m10 z).fr q (by omega)⟩, q.mono (fun x hx => by show 52 ≤ x ∧ x ≤ 70; omega)⟩
theorem c_occurrences {S : aq_S} {D : jD} {a : Int32} {b : Int32} (hC : jC S D) (hV : jV D) : jU Value.int 0 94 178 [.int a, .int b] S D [("java/lang/IllegalArgumentException", 1)] := by
  obtain ⟨⟨k, c, n, hs, err⟩, ⟨N, G, pn, pg, inp⟩, ⟨ks, cs, Ns, Gs, pns, pgs⟩, ty, sz, v⟩ := D
  have hC0 := hC
  have hV0 := hV
  obtain ⟨c1, c2, c3, ⟨c4, c5, c6, c7⟩, c8, c9, c10, c11, ⟨acc, c12⟩, c13⟩ := hC0
  obtain ⟨⟨hk0, hk3⟩, hpk, hy, hhs, hsv, herr, hty⟩ := hV0
  rcases rg a 4 (by decide) with hp | ⟨r, hr, rfl⟩
  · refine jU_t hC hV (E := "java/lang/IllegalArgumentException") (r := 1) (by decide +kernel) (by decide) (x_occurrences_r _ c1 hp) (fun S1 th hm => ?_)
    have hm0 := hm
    obtain ⟨⟨rd, tl, cur, sv, m1⟩, m2, m3, m4, m5, m6, m7, m8, ⟨F70, m9⟩, m10⟩ := hm0
    exact ar_weak (m_occurrences_r _ m1 hp) (fun o S' q => jM_w hm q)
  · rcases rg b 4 (by decide) with hp | ⟨t, ht, rfl⟩
    · refine jU_t hC hV (E := "java/lang/IllegalArgumentException") (r := 1) (by decide +kernel) (by decide) (x_occurrences_r2 _ c1 hr hp) (fun S1 th hm => ?_)
      have hm0 := hm
      obtain ⟨⟨rd, tl, cur, sv, m1⟩, m2, m3, m4, m5, m6, m7, m8, ⟨F70, m9⟩, m10⟩ := hm0
      exact ar_weak (m_occurrences_r2 _ m1 hr hp) (fun o S' q => jM_w hm q)
    · refine ⟨((k, c, n, hs, err), (N, G, pn, pg, inp), (ks, cs, Ns, Gs, pns, pgs), ty, sz, v), hV, Or.inl ⟨nI (if N r ≤ N t then wocc (G t) (N r) (G r) (N t - N r + 1) else 0), ar_weak (x_occurrences _ c1 c2 hr ht) (fun o S' z => ?_), fun S1 th hm => ?_⟩⟩
      · obtain ⟨z0, zs⟩ := z
        subst zs
        exact ⟨z0, hC, aq_fr.rf⟩
      · obtain ⟨⟨rd, tl, cur, sv, m1⟩, m2, m3, m4, m5, m6, m7, m8, ⟨F70, m9⟩, m10⟩ := hm
        refine ar_weak (m_occurrences _ m1 m2 m5 hr ht) (fun o S' z => ?_)
        obtain ⟨z0, ⟨za, zb⟩, q⟩ := z
        exact ⟨z0, ⟨⟨_, _, _, _, za⟩, m2.fr q (by omega) (by omega), m3.fr q (by omega) (by omega), m4.fr q (by omega), zb, m6.fr q (by omega), m7.fr q (fun x _ _ => by omega), m8.fr q (by omega) (by omega) (by omega), ⟨F70, m9.fr q (by omega)⟩, fun z => (m10 z).fr q (by omega)⟩, q.mono (fun x hx => by show 52 ≤ x ∧ x ≤ 70; omega)⟩
end
