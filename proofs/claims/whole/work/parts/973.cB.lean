/-! ===== relations and periods (printed by wip/whole/mkK.py) ===== -/
section
theorem c_holes {S : aq_S} {D : jD} {a : Int32} (hC : jC S D) (hV : jV D) : jU Value.int 0 79 151 [.int a] S D [("java/lang/IllegalArgumentException", 1)] := by
  obtain ⟨⟨k, c, n, hs, err⟩, ⟨N, G, pn, pg, inp⟩, ⟨ks, cs, Ns, Gs, pns, pgs⟩, ty, sz, v⟩ := D
  have hC0 := hC
  have hV0 := hV
  obtain ⟨c1, c2, c3, ⟨c4, c5, c6, c7⟩, c8, c9, c10, c11, ⟨acc, c12⟩, c13⟩ := hC0
  obtain ⟨⟨hk0, hk3⟩, hpk, hy, hhs, hsv, herr, hty⟩ := hV0
  rcases rg a 4 (by decide) with hp | ⟨r, hr, rfl⟩
  · refine jU_t hC hV (E := "java/lang/IllegalArgumentException") (r := 1) (by decide +kernel) (by decide) (x_holes_r _ c1 hp) (fun S1 th hm => ?_)
    have hm0 := hm
    obtain ⟨⟨rd, tl, cur, sv, m1⟩, m2, m3, m4, m5, m6, m7, m8, ⟨F70, m9⟩, m10⟩ := hm0
    exact ar_weak (m_holes_r _ m1 hp) (fun o S' q => jM_w hm q)
  · refine jU_q hC hV (x_holes _ c1 c2 hr) (fun S1 th hm => ?_)
    have hm0 := hm
    obtain ⟨⟨rd, tl, cur, sv, m1⟩, m2, m3, m4, m5, m6, m7, m8, ⟨F70, m9⟩, m10⟩ := hm0
    exact ar_weak (m_holes _ m1 m2 hr) (fun o S' q => jM_w hm q)
theorem c_isCompatible {S : aq_S} {D : jD} {a : Int32} {b : Int32} (hC : jC S D) (hV : jV D) : jU Value.int 0 80 155 [.int a, .int b] S D [("java/lang/IllegalArgumentException", 1)] := by
  obtain ⟨⟨k, c, n, hs, err⟩, ⟨N, G, pn, pg, inp⟩, ⟨ks, cs, Ns, Gs, pns, pgs⟩, ty, sz, v⟩ := D
  have hC0 := hC
  have hV0 := hV
  obtain ⟨c1, c2, c3, ⟨c4, c5, c6, c7⟩, c8, c9, c10, c11, ⟨acc, c12⟩, c13⟩ := hC0
  obtain ⟨⟨hk0, hk3⟩, hpk, hy, hhs, hsv, herr, hty⟩ := hV0
  rcases rg a 4 (by decide) with hp | ⟨r, hr, rfl⟩
  · refine jU_t hC hV (E := "java/lang/IllegalArgumentException") (r := 1) (by decide +kernel) (by decide) (x_isCompatible_r _ c1 hp) (fun S1 th hm => ?_)
    have hm0 := hm
    obtain ⟨⟨rd, tl, cur, sv, m1⟩, m2, m3, m4, m5, m6, m7, m8, ⟨F70, m9⟩, m10⟩ := hm0
    exact ar_weak (m_isCompatible_r _ m1 hp) (fun o S' q => jM_w hm q)
  · rcases rg b 4 (by decide) with hp | ⟨t, ht, rfl⟩
    · refine jU_t hC hV (E := "java/lang/IllegalArgumentException") (r := 1) (by decide +kernel) (by decide) (x_isCompatible_r2 _ c1 hr hp) (fun S1 th hm => ?_)
      have hm0 := hm
      obtain ⟨⟨rd, tl, cur, sv, m1⟩, m2, m3, m4, m5, m6, m7, m8, ⟨F70, m9⟩, m10⟩ := hm0
      exact ar_weak (m_isCompatible_r2 _ m1 hr hp) (fun o S' q => jM_w hm q)
    · refine jU_q hC hV (x_isCompatible _ c1 c2 hr ht) (fun S1 th hm => ?_)
      have hm0 := hm
      obtain ⟨⟨rd, tl, cur, sv, m1⟩, m2, m3, m4, m5, m6, m7, m8, ⟨F70, m9⟩, m10⟩ := hm0
      exact ar_weak (m_isCompatible _ m1 m2 hr ht) (fun o S' q => jM_w hm q)
theorem c_isContained {S : aq_S} {D : jD} {a : Int32} {b : Int32} (hC : jC S D) (hV : jV D) : jU Value.int 0 81 156 [.int a, .int b] S D [("java/lang/IllegalArgumentException", 1)] := by
  obtain ⟨⟨k, c, n, hs, err⟩, ⟨N, G, pn, pg, inp⟩, ⟨ks, cs, Ns, Gs, pns, pgs⟩, ty, sz, v⟩ := D
  have hC0 := hC
  have hV0 := hV
  obtain ⟨c1, c2, c3, ⟨c4, c5, c6, c7⟩, c8, c9, c10, c11, ⟨acc, c12⟩, c13⟩ := hC0
  obtain ⟨⟨hk0, hk3⟩, hpk, hy, hhs, hsv, herr, hty⟩ := hV0
  rcases rg a 4 (by decide) with hp | ⟨r, hr, rfl⟩
  · refine jU_t hC hV (E := "java/lang/IllegalArgumentException") (r := 1) (by decide +kernel) (by decide) (x_isContained_r _ c1 hp) (fun S1 th hm => ?_)
    have hm0 := hm
    obtain ⟨⟨rd, tl, cur, sv, m1⟩, m2, m3, m4, m5, m6, m7, m8, ⟨F70, m9⟩, m10⟩ := hm0
    exact ar_weak (m_isContained_r _ m1 hp) (fun o S' q => jM_w hm q)
  · rcases rg b 4 (by decide) with hp | ⟨t, ht, rfl⟩
    · refine jU_t hC hV (E := "java/lang/IllegalArgumentException") (r := 1) (by decide +kernel) (by decide) (x_isContained_r2 _ c1 hr hp) (fun S1 th hm => ?_)
      have hm0 := hm
      obtain ⟨⟨rd, tl, cur, sv, m1⟩, m2, m3, m4, m5, m6, m7, m8, ⟨F70, m9⟩, m10⟩ := hm0
      exact ar_weak (m_isContained_r2 _ m1 hr hp) (fun o S' q => jM_w hm q)
    · refine jU_q hC hV (x_isContained _ c1 c2 hr ht) (fun S1 th hm => ?_)
      have hm0 := hm
      obtain ⟨⟨rd, tl, cur, sv, m1⟩, m2, m3, m4, m5, m6, m7, m8, ⟨F70, m9⟩, m10⟩ := hm0
      exact ar_weak (m_isContained _ m1 m2 hr ht) (fun o S' q => jM_w hm q)
theorem c_conflict {S : aq_S} {D : jD} {a : Int32} {b : Int32} (hC : jC S D) (hV : jV D) : jU Value.int 0 82 157 [.int a, .int b] S D [("java/lang/IllegalArgumentException", 1), ("java/lang/IllegalStateException", 2)] := by
  obtain ⟨⟨k, c, n, hs, err⟩, ⟨N, G, pn, pg, inp⟩, ⟨ks, cs, Ns, Gs, pns, pgs⟩, ty, sz, v⟩ := D
  have hC0 := hC
  have hV0 := hV
  obtain ⟨c1, c2, c3, ⟨c4, c5, c6, c7⟩, c8, c9, c10, c11, ⟨acc, c12⟩, c13⟩ := hC0
  obtain ⟨⟨hk0, hk3⟩, hpk, hy, hhs, hsv, herr, hty⟩ := hV0
  rcases rg a 4 (by decide) with hp | ⟨r, hr, rfl⟩
  · refine jU_t hC hV (E := "java/lang/IllegalArgumentException") (r := 1) (by decide +kernel) (by decide) (x_conflict_r _ c1 hp) (fun S1 th hm => ?_)
    have hm0 := hm
    obtain ⟨⟨rd, tl, cur, sv, m1⟩, m2, m3, m4, m5, m6, m7, m8, ⟨F70, m9⟩, m10⟩ := hm0
    exact ar_weak (m_conflict_r _ m1 hp) (fun o S' q => jM_w hm q)
  · rcases rg b 4 (by decide) with hp | ⟨t, ht, rfl⟩
    · refine jU_t hC hV (E := "java/lang/IllegalArgumentException") (r := 1) (by decide +kernel) (by decide) (x_conflict_r2 _ c1 hr hp) (fun S1 th hm => ?_)
      have hm0 := hm
      obtain ⟨⟨rd, tl, cur, sv, m1⟩, m2, m3, m4, m5, m6, m7, m8, ⟨F70, m9⟩, m10⟩ := hm0
      exact ar_weak (m_conflict_r2 _ m1 hr hp) (fun o S' q => jM_w hm q)
    · by_cases hnm : N r = N t
      · refine jU_q hC hV (x_conflict _ c1 c2 hr ht hnm) (fun S1 th hm => ?_)
        have hm0 := hm
        obtain ⟨⟨rd, tl, cur, sv, m1⟩, m2, m3, m4, m5, m6, m7, m8, ⟨F70, m9⟩, m10⟩ := hm0
        exact ar_weak (m_conflict _ m1 m2 hr ht hnm) (fun o S' q => jM_w hm q)
      · refine jU_t hC hV (E := "java/lang/IllegalStateException") (r := 2) (by decide +kernel) (by decide) (x_conflict_n _ c1 c2 hr ht hnm) (fun S1 th hm => ?_)
        have hm0 := hm
        obtain ⟨⟨rd, tl, cur, sv, m1⟩, m2, m3, m4, m5, m6, m7, m8, ⟨F70, m9⟩, m10⟩ := hm0
        exact ar_weak (m_conflict_n _ m1 m2 hr ht hnm) (fun o S' q => jM_w hm q)
theorem c_join {S : aq_S} {D : jD} {a : Int32} {b : Int32} {d : Int32} (hC : jC S D) (hV : jV D) : jU Value.int 0 83 158 [.int a, .int b, .int d] S D [("java/lang/IllegalArgumentException", 1), ("java/lang/IllegalStateException", 2)] := by
  obtain ⟨⟨k, c, n, hs, err⟩, ⟨N, G, pn, pg, inp⟩, ⟨ks, cs, Ns, Gs, pns, pgs⟩, ty, sz, v⟩ := D
  have hC0 := hC
  have hV0 := hV
  obtain ⟨c1, c2, c3, ⟨c4, c5, c6, c7⟩, c8, c9, c10, c11, ⟨acc, c12⟩, c13⟩ := hC0
  obtain ⟨⟨hk0, hk3⟩, hpk, hy, hhs, hsv, herr, hty⟩ := hV0
  rcases rg a 4 (by decide) with hp | ⟨r, hr, rfl⟩
  · refine jU_t hC hV (E := "java/lang/IllegalArgumentException") (r := 1) (by decide +kernel) (by decide) (x_join_r _ c1 hp) (fun S1 th hm => ?_)
    have hm0 := hm
    obtain ⟨⟨rd, tl, cur, sv, m1⟩, m2, m3, m4, m5, m6, m7, m8, ⟨F70, m9⟩, m10⟩ := hm0
    exact ar_weak (m_join_r _ m1 hp) (fun o S' q => jM_w hm q)
  · rcases rg b 4 (by decide) with hp | ⟨t, ht, rfl⟩
    · refine jU_t hC hV (E := "java/lang/IllegalArgumentException") (r := 1) (by decide +kernel) (by decide) (x_join_r2 _ c1 hr hp) (fun S1 th hm => ?_)
      have hm0 := hm
      obtain ⟨⟨rd, tl, cur, sv, m1⟩, m2, m3, m4, m5, m6, m7, m8, ⟨F70, m9⟩, m10⟩ := hm0
      exact ar_weak (m_join_r2 _ m1 hr hp) (fun o S' q => jM_w hm q)
    · rcases rg d 4 (by decide) with hp | ⟨u, hu, rfl⟩
      · refine jU_t hC hV (E := "java/lang/IllegalArgumentException") (r := 1) (by decide +kernel) (by decide) (x_join_r3 _ c1 hr ht hp) (fun S1 th hm => ?_)
        have hm0 := hm
        obtain ⟨⟨rd, tl, cur, sv, m1⟩, m2, m3, m4, m5, m6, m7, m8, ⟨F70, m9⟩, m10⟩ := hm0
        exact ar_weak (m_join_r3 _ m1 hr ht hp) (fun o S' q => jM_w hm q)
      · by_cases hnm : wcomp (N r) (N t) (G r) (G t)
        · have hy' : ∀ i, i < N r → isY k (wjoin (G r) (G t) i) := fun i hi => by
            unfold wjoin
            split
            · exact hy t ht i (hnm.1 ▸ hi)
            · exact hy r hr i hi
          refine ⟨((k, c, n, hs, err), ((updN N u (N r)), (updG G u (wjoin (G r) (G t))), pn, pg, inp), (ks, cs, Ns, Gs, pns, pgs), ty, sz, v), ⟨⟨hk0, hk3⟩, hpk, upd_put hy hy', hhs, hsv, herr, hty⟩, Or.inl ⟨nI (wholes (wjoin (G r) (G t)) (N r)), ar_weak (x_join _ c1 c2 c9 hr ht hu hnm) (fun o S' z => ?_), fun S1 th hm => ?_⟩⟩
          · obtain ⟨z0, zw, zd, q⟩ := z
            exact ⟨z0, ⟨⟨c1.1.fr q (by omega), c1.2.1.fr q (by omega), c1.2.2.fr q (by omega)⟩, hWs_put c2 q (fun x hx => by omega) zw, c3.fr q (by omega) (by omega), ⟨c4.fr q (by omega), c5.fr q (by omega), c6.fr' q (fun x _ _ => by omega), c7.fr q (by omega) (by omega)⟩, c8.fr q (fun x _ _ => by omega), ⟨⟨_, _, zd⟩, c9.2.elim (fun m h => h.elim (fun f h => ⟨m, f, h.fr q (by omega) (by omega)⟩))⟩, c10.fr' q (fun x _ _ => by omega), c11.fr q (by omega), ⟨acc, c12.fr q (by omega)⟩, c13.fr' q (fun x _ _ => by omega)⟩, q.mono (fun x hx => by show 1 ≤ x ∧ x ≤ 51; omega)⟩
          · obtain ⟨⟨rd, tl, cur, sv, m1⟩, m2, m3, m4, m5, m6, m7, m8, ⟨F70, m9⟩, m10⟩ := hm
            refine ar_weak (m_join _ m1 m2 m5 hr ht hu hnm) (fun o S' z => ?_)
            obtain ⟨z0, ⟨za, zb, zc⟩, q⟩ := z
            exact ⟨z0, ⟨⟨_, _, _, _, za⟩, zb, m3.fr q (by omega) (by omega), m4.fr q (by omega), zc, m6.fr q (by omega), m7.fr q (fun x _ _ => by omega), m8.fr q (by omega) (by omega) (by omega), ⟨F70, m9.fr q (by omega)⟩, fun z => (m10 z).fr q (by omega)⟩, q.mono (fun x hx => by show 52 ≤ x ∧ x ≤ 70; omega)⟩
        · refine jU_t hC hV (E := "java/lang/IllegalStateException") (r := 2) (by decide +kernel) (by decide) (x_join_n _ c1 c2 hr ht hu hnm) (fun S1 th hm => ?_)
          have hm0 := hm
          obtain ⟨⟨rd, tl, cur, sv, m1⟩, m2, m3, m4, m5, m6, m7, m8, ⟨F70, m9⟩, m10⟩ := hm0
          exact ar_weak (m_join_n _ m1 m2 hr ht hu hnm) (fun o S' q => jM_w hm q)
theorem c_isPeriod {S : aq_S} {D : jD} {a : Int32} {b : Int32} {az : Int32} (hC : jC S D) (hV : jV D) : jU Value.int 0 84 160 [.int a, .int b, .int az] S D [("java/lang/IllegalArgumentException", 1)] := by
  obtain ⟨⟨k, c, n, hs, err⟩, ⟨N, G, pn, pg, inp⟩, ⟨ks, cs, Ns, Gs, pns, pgs⟩, ty, sz, v⟩ := D
  have hC0 := hC
  have hV0 := hV
  obtain ⟨c1, c2, c3, ⟨c4, c5, c6, c7⟩, c8, c9, c10, c11, ⟨acc, c12⟩, c13⟩ := hC0
  obtain ⟨⟨hk0, hk3⟩, hpk, hy, hhs, hsv, herr, hty⟩ := hV0
  rcases rg a 4 (by decide) with hp | ⟨r, hr, rfl⟩
  · refine jU_t hC hV (E := "java/lang/IllegalArgumentException") (r := 1) (by decide +kernel) (by decide) (x_isPeriod_r _ c1 hp) (fun S1 th hm => ?_)
    have hm0 := hm
    obtain ⟨⟨rd, tl, cur, sv, m1⟩, m2, m3, m4, m5, m6, m7, m8, ⟨F70, m9⟩, m10⟩ := hm0
    exact ar_weak (m_isPeriod_r _ m1 hp) (fun o S' q => jM_w hm q)
  · have hle := (c2 r hr).le
    rcases rgb b 1 (N r + 1) (by omega) (by omega) with hp | ⟨x, hx0, hx, rfl⟩
    · refine jU_t hC hV (E := "java/lang/IllegalArgumentException") (r := 1) (by decide +kernel) (by decide) (x_isPeriod_p _ c1 c2 hr hp) (fun S1 th hm => ?_)
      have hm0 := hm
      obtain ⟨⟨rd, tl, cur, sv, m1⟩, m2, m3, m4, m5, m6, m7, m8, ⟨F70, m9⟩, m10⟩ := hm0
      exact ar_weak (m_isPeriod_p _ m1 m2 hr hp) (fun o S' q => jM_w hm q)
    · refine jU_q hC hV (x_isPeriod _ c1 c2 hr (by omega) (by omega)) (fun S1 th hm => ?_)
      have hm0 := hm
      obtain ⟨⟨rd, tl, cur, sv, m1⟩, m2, m3, m4, m5, m6, m7, m8, ⟨F70, m9⟩, m10⟩ := hm0
      exact ar_weak (m_isPeriod _ m1 m2 hr (by omega) (by omega)) (fun o S' q => jM_w hm q)
theorem c_smallestPeriod {S : aq_S} {D : jD} {a : Int32} {az : Int32} (hC : jC S D) (hV : jV D) : jU Value.int 0 85 162 [.int a, .int az] S D [("java/lang/IllegalArgumentException", 1), ("java/util/NoSuchElementException", 2)] := by
  obtain ⟨⟨k, c, n, hs, err⟩, ⟨N, G, pn, pg, inp⟩, ⟨ks, cs, Ns, Gs, pns, pgs⟩, ty, sz, v⟩ := D
  have hC0 := hC
  have hV0 := hV
  obtain ⟨c1, c2, c3, ⟨c4, c5, c6, c7⟩, c8, c9, c10, c11, ⟨acc, c12⟩, c13⟩ := hC0
  obtain ⟨⟨hk0, hk3⟩, hpk, hy, hhs, hsv, herr, hty⟩ := hV0
  rcases rg a 4 (by decide) with hp | ⟨r, hr, rfl⟩
  · refine jU_t hC hV (E := "java/lang/IllegalArgumentException") (r := 1) (by decide +kernel) (by decide) (x_smallestPeriod_r _ c1 hp) (fun S1 th hm => ?_)
    have hm0 := hm
    obtain ⟨⟨rd, tl, cur, sv, m1⟩, m2, m3, m4, m5, m6, m7, m8, ⟨F70, m9⟩, m10⟩ := hm0
    exact ar_weak (m_smallestPeriod_r _ m1 hp) (fun o S' q => jM_w hm q)
  · by_cases hn : N r = 0
    · refine jU_t hC hV (E := "java/util/NoSuchElementException") (r := 2) (by decide +kernel) (by decide) (x_smallestPeriod_e _ c1 c2 hr hn) (fun S1 th hm => ?_)
      have hm0 := hm
      obtain ⟨⟨rd, tl, cur, sv, m1⟩, m2, m3, m4, m5, m6, m7, m8, ⟨F70, m9⟩, m10⟩ := hm0
      exact ar_weak (m_smallestPeriod_e _ m1 m2 hr hn) (fun o S' q => jM_w hm q)
    · refine jU_q hC hV (x_smallestPeriod _ c1 c2 hr hn) (fun S1 th hm => ?_)
      have hm0 := hm
      obtain ⟨⟨rd, tl, cur, sv, m1⟩, m2, m3, m4, m5, m6, m7, m8, ⟨F70, m9⟩, m10⟩ := hm0
      exact ar_weak (m_smallestPeriod _ m1 m2 hr hn) (fun o S' q => jM_w hm q)
theorem c_periodBound {S : aq_S} {D : jD} {a : Int32} {b : Int32} {s : Int32} (hC : jC S D) (hV : jV D) : jU Value.int 0 86 163 [.int a, .int b, .int s] S D [("java/lang/IllegalArgumentException", 1)] := by
  obtain ⟨⟨k, c, n, hs, err⟩, ⟨N, G, pn, pg, inp⟩, ⟨ks, cs, Ns, Gs, pns, pgs⟩, ty, sz, v⟩ := D
  have hC0 := hC
  have hV0 := hV
  obtain ⟨c1, c2, c3, ⟨c4, c5, c6, c7⟩, c8, c9, c10, c11, ⟨acc, c12⟩, c13⟩ := hC0
  obtain ⟨⟨hk0, hk3⟩, hpk, hy, hhs, hsv, herr, hty⟩ := hV0
  by_cases hb : ((1 : Int32) ≤ a ∧ a ≤ 1000) ∧ ((1 : Int32) ≤ b ∧ b ≤ 1000) ∧ (0 ≤ s ∧ s ≤ 1)
  · have key : ∀ (x : Int32) (u z : Nat), u ≤ z → z < 1001 → nI u ≤ x → x ≤ nI z → ∃ j, u ≤ j ∧ j ≤ z ∧ x = nI j := fun x u z huz hz h1 h2 => by
      rcases rgb x u (z + 1) (by omega) (by omega) with (h | h) | ⟨j, h3, h4, e⟩
      · exact absurd h (Int32.not_lt.mpr h1)
      · exact absurd (Int32.le_trans h h2) (nI_ge (by omega) (by omega))
      · exact ⟨j, h3, by omega, e⟩
    obtain ⟨⟨a1, a2⟩, ⟨b1, b2⟩, s1, s2⟩ := hb
    obtain ⟨p, p1, p2, rfl⟩ := key a 1 1000 (by omega) (by omega) a1 a2
    obtain ⟨t, t1, t2, rfl⟩ := key b 1 1000 (by omega) (by omega) b1 b2
    obtain ⟨u, u1, u2, rfl⟩ := key s 0 1 (by omega) (by omega) s1 s2
    refine jU_q hC hV (x_periodBound _ p t u (by omega) p2 (by omega) t2 u2) (fun S1 th hm => ?_)
    have hm0 := hm
    obtain ⟨⟨rd, tl, cur, sv, m1⟩, m2, m3, m4, m5, m6, m7, m8, ⟨F70, m9⟩, m10⟩ := hm0
    exact ar_weak (m_periodBound _ p t u m1 (by omega) p2 (by omega) t2 u2) (fun o S' q => jM_w hm q)
  · refine jU_t hC hV (E := "java/lang/IllegalArgumentException") (r := 1) (by decide +kernel) (by decide) (x_periodBound_no _ hb) (fun S1 th hm => ?_)
    have hm0 := hm
    obtain ⟨⟨rd, tl, cur, sv, m1⟩, m2, m3, m4, m5, m6, m7, m8, ⟨F70, m9⟩, m10⟩ := hm0
    exact ar_weak (m_periodBound_no _ m1 hb) (fun o S' q => jM_w hm q)
theorem c_longestBorder {S : aq_S} {D : jD} {a : Int32} (hC : jC S D) (hV : jV D) : jU Value.int 0 87 164 [.int a] S D [("java/lang/IllegalArgumentException", 1)] := by
  obtain ⟨⟨k, c, n, hs, err⟩, ⟨N, G, pn, pg, inp⟩, ⟨ks, cs, Ns, Gs, pns, pgs⟩, ty, sz, v⟩ := D
  have hC0 := hC
  have hV0 := hV
  obtain ⟨c1, c2, c3, ⟨c4, c5, c6, c7⟩, c8, c9, c10, c11, ⟨acc, c12⟩, c13⟩ := hC0
  obtain ⟨⟨hk0, hk3⟩, hpk, hy, hhs, hsv, herr, hty⟩ := hV0
  rcases rg a 4 (by decide) with hp | ⟨r, hr, rfl⟩
  · refine jU_t hC hV (E := "java/lang/IllegalArgumentException") (r := 1) (by decide +kernel) (by decide) (x_longestBorder_r _ c1 hp) (fun S1 th hm => ?_)
    have hm0 := hm
    obtain ⟨⟨rd, tl, cur, sv, m1⟩, m2, m3, m4, m5, m6, m7, m8, ⟨F70, m9⟩, m10⟩ := hm0
    exact ar_weak (m_longestBorder_r _ m1 hp) (fun o S' q => jM_w hm q)
  · refine jU_q hC hV (x_longestBorder _ c1 c2 hr) (fun S1 th hm => ?_)
    have hm0 := hm
    obtain ⟨⟨rd, tl, cur, sv, m1⟩, m2, m3, m4, m5, m6, m7, m8, ⟨F70, m9⟩, m10⟩ := hm0
    exact ar_weak (m_longestBorder _ m1 m2 hr) (fun o S' q => jM_w hm q)
theorem c_isPrimitive {S : aq_S} {D : jD} {a : Int32} (hC : jC S D) (hV : jV D) : jU Value.int 0 88 166 [.int a] S D [("java/lang/IllegalArgumentException", 1)] := by
  obtain ⟨⟨k, c, n, hs, err⟩, ⟨N, G, pn, pg, inp⟩, ⟨ks, cs, Ns, Gs, pns, pgs⟩, ty, sz, v⟩ := D
  have hC0 := hC
  have hV0 := hV
  obtain ⟨c1, c2, c3, ⟨c4, c5, c6, c7⟩, c8, c9, c10, c11, ⟨acc, c12⟩, c13⟩ := hC0
  obtain ⟨⟨hk0, hk3⟩, hpk, hy, hhs, hsv, herr, hty⟩ := hV0
  rcases rg a 4 (by decide) with hp | ⟨r, hr, rfl⟩
  · refine jU_t hC hV (E := "java/lang/IllegalArgumentException") (r := 1) (by decide +kernel) (by decide) (x_isPrimitive_r _ c1 hp) (fun S1 th hm => ?_)
    have hm0 := hm
    obtain ⟨⟨rd, tl, cur, sv, m1⟩, m2, m3, m4, m5, m6, m7, m8, ⟨F70, m9⟩, m10⟩ := hm0
    exact ar_weak (m_isPrimitive_r _ m1 hp) (fun o S' q => jM_w hm q)
  · refine jU_q hC hV (x_isPrimitive _ c1 c2 hr) (fun S1 th hm => ?_)
    have hm0 := hm
    obtain ⟨⟨rd, tl, cur, sv, m1⟩, m2, m3, m4, m5, m6, m7, m8, ⟨F70, m9⟩, m10⟩ := hm0
    exact ar_weak (m_isPrimitive _ m1 m2 hr) (fun o S' q => jM_w hm q)
theorem c_exponent {S : aq_S} {D : jD} {a : Int32} (hC : jC S D) (hV : jV D) : jU Value.int 0 89 167 [.int a] S D [("java/lang/IllegalArgumentException", 1), ("java/util/NoSuchElementException", 2)] := by
  obtain ⟨⟨k, c, n, hs, err⟩, ⟨N, G, pn, pg, inp⟩, ⟨ks, cs, Ns, Gs, pns, pgs⟩, ty, sz, v⟩ := D
  have hC0 := hC
  have hV0 := hV
  obtain ⟨c1, c2, c3, ⟨c4, c5, c6, c7⟩, c8, c9, c10, c11, ⟨acc, c12⟩, c13⟩ := hC0
  obtain ⟨⟨hk0, hk3⟩, hpk, hy, hhs, hsv, herr, hty⟩ := hV0
  rcases rg a 4 (by decide) with hp | ⟨r, hr, rfl⟩
  · refine jU_t hC hV (E := "java/lang/IllegalArgumentException") (r := 1) (by decide +kernel) (by decide) (x_exponent_r _ c1 hp) (fun S1 th hm => ?_)
    have hm0 := hm
    obtain ⟨⟨rd, tl, cur, sv, m1⟩, m2, m3, m4, m5, m6, m7, m8, ⟨F70, m9⟩, m10⟩ := hm0
    exact ar_weak (m_exponent_r _ m1 hp) (fun o S' q => jM_w hm q)
  · by_cases hn : N r = 0
    · refine jU_t hC hV (E := "java/util/NoSuchElementException") (r := 2) (by decide +kernel) (by decide) (x_exponent_e _ c1 c2 hr hn) (fun S1 th hm => ?_)
      have hm0 := hm
      obtain ⟨⟨rd, tl, cur, sv, m1⟩, m2, m3, m4, m5, m6, m7, m8, ⟨F70, m9⟩, m10⟩ := hm0
      exact ar_weak (m_exponent_e _ m1 m2 hr hn) (fun o S' q => jM_w hm q)
    · refine jU_q hC hV (x_exponent _ c1 c2 hr hn) (fun S1 th hm => ?_)
      have hm0 := hm
      obtain ⟨⟨rd, tl, cur, sv, m1⟩, m2, m3, m4, m5, m6, m7, m8, ⟨F70, m9⟩, m10⟩ := hm0
      exact ar_weak (m_exponent _ m1 m2 hr hn) (fun o S' q => jM_w hm q)
end
