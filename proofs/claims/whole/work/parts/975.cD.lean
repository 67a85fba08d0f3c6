/-! ===== patterns and walks (printed by wip/whole/mkK.py) ===== -/
section
theorem c_addPattern {S : aq_S} {D : jD} {a : Int32} (hC : jC S D) (hV : jV D) : jU Value.int 0 95 179 [.int a] S D [("java/lang/IllegalArgumentException", 1), ("java/lang/IllegalStateException", 2)] := by
  obtain ⟨⟨k, c, n, hs, err⟩, ⟨N, G, pn, pg, inp⟩, ⟨ks, cs, Ns, Gs, pns, pgs⟩, ty, sz, v⟩ := D
  have hC0 := hC
  have hV0 := hV
  obtain ⟨c1, c2, c3, ⟨c4, c5, c6, c7⟩, c8, c9, c10, c11, ⟨acc, c12⟩, c13⟩ := hC0
  obtain ⟨⟨hk0, hk3⟩, hpk, hy, hhs, hsv, herr, hty⟩ := hV0
  rcases rg a 4 (by decide) with hp | ⟨r, hr, rfl⟩
  · refine jU_t hC hV (E := "java/lang/IllegalArgumentException") (r := 1) (by decide +kernel) (by decide) (x_addPattern_r _ c1 hp) (fun S1 th hm => ?_)
    have hm0 := hm
    obtain ⟨⟨rd, tl, cur, sv, m1⟩, m2, m3, m4, m5, m6, m7, m8, ⟨F70, m9⟩, m10⟩ := hm0
    exact ar_weak (m_addPattern_r _ m1 hp) (fun o S' q => jM_w hm q)
  · by_cases hb : c = 12 ∨ N r = 0 ∨ 5 < N r
    · refine jU_t hC hV (E := "java/lang/IllegalStateException") (r := 2) (by decide +kernel) (by decide) (x_addPattern_n _ c1 c2 c3 hpk hr hb) (fun S1 th hm => ?_)
      have hm0 := hm
      obtain ⟨⟨rd, tl, cur, sv, m1⟩, m2, m3, m4, m5, m6, m7, m8, ⟨F70, m9⟩, m10⟩ := hm0
      exact ar_weak (m_addPattern_n _ m1 m2 hpk.1 hr hb) (fun o S' q => jM_w hm q)
    · have hc12 := hpk.1
      have hc : c < 12 := by omega
      have h1 : 1 ≤ N r := by omega
      have h5 : N r ≤ 5 := by omega
      refine ⟨((k, c + 1, n, hs, err), (N, G, pnAdd c pn (N r), pgAdd c pg (G r), inp), (ks, cs, Ns, Gs, pns, pgs), ty, sz, v), ⟨⟨hk0, hk3⟩, hpk.add hc h1 h5 (fun j hj => (hy r hr j hj).mono hk3 (Nat.le_refl _)), hy, hhs, hsv, herr, hty⟩, Or.inl ⟨nI c, ar_weak (x_addPattern _ c1 c2 c3 hpk hr hc h1 h5) (fun o S' z => ?_), fun S1 th hm => ?_⟩⟩
      · obtain ⟨z0, zp, q⟩ := z
        exact ⟨z0, ⟨⟨c1.1.fr q (by omega), c1.2.1.fr q (by omega), c1.2.2.fr q (by omega)⟩, c2.fr' q (fun x _ _ => by omega), zp, ⟨c4.fr q (by omega), c5.fr q (by omega), c6.fr' q (fun x _ _ => by omega), c7.fr q (by omega) (by omega)⟩, c8.fr q (fun x _ _ => by omega), c9.fr' q (fun x _ _ => by omega), c10.fr' q (fun x _ _ => by omega), c11.fr q (by omega), ⟨acc, c12.fr q (by omega)⟩, c13.fr' q (fun x _ _ => by omega)⟩, q.mono (fun x hx => by show 1 ≤ x ∧ x ≤ 51; omega)⟩
      · obtain ⟨⟨rd, tl, cur, sv, m1⟩, m2, m3, m4, m5, m6, m7, m8, ⟨F70, m9⟩, m10⟩ := hm
        refine ar_weak (m_addPattern _ m1 m2 m3 hpk hr hc h1 h5) (fun o S' z => ?_)
        obtain ⟨z0, ⟨za, zb⟩, q⟩ := z
        exact ⟨z0, ⟨⟨_, _, _, _, za⟩, m2.fr q (by omega) (by omega), zb, m4.fr q (by omega), m5.fr q (by omega), m6.fr q (by omega), m7.fr q (fun x _ _ => by omega), m8.fr q (by omega) (by omega) (by omega), ⟨F70, m9.fr q (by omega)⟩, fun z => (m10 z).fr q (by omega)⟩, q.mono (fun x hx => by show 52 ≤ x ∧ x ≤ 70; omega)⟩
theorem c_removePattern {S : aq_S} {D : jD} {a : Int32} (hC : jC S D) (hV : jV D) : jU Value.int 0 96 180 [.int a] S D [("java/lang/IndexOutOfBoundsException", 1)] := by
  obtain ⟨⟨k, c, n, hs, err⟩, ⟨N, G, pn, pg, inp⟩, ⟨ks, cs, Ns, Gs, pns, pgs⟩, ty, sz, v⟩ := D
  have hC0 := hC
  have hV0 := hV
  obtain ⟨c1, c2, c3, ⟨c4, c5, c6, c7⟩, c8, c9, c10, c11, ⟨acc, c12⟩, c13⟩ := hC0
  obtain ⟨⟨hk0, hk3⟩, hpk, hy, hhs, hsv, herr, hty⟩ := hV0
  have hc12 := hpk.1
  rcases rg a c (by omega) with hp | ⟨i, hi, rfl⟩
  · refine jU_t hC hV (E := "java/lang/IndexOutOfBoundsException") (r := 1) (by decide +kernel) (by decide) (x_removePattern_i _ c1 c3 hp) (fun S1 th hm => ?_)
    have hm0 := hm
    obtain ⟨⟨rd, tl, cur, sv, m1⟩, m2, m3, m4, m5, m6, m7, m8, ⟨F70, m9⟩, m10⟩ := hm0
    exact ar_weak (m_removePattern_i _ m1 hpk.1 hp) (fun o S' q => jM_w hm q)
  · refine ⟨((k, c - 1, n, hs, err), (N, G, pnDel i pn, pgDel i pg, inp), (ks, cs, Ns, Gs, pns, pgs), ty, sz, v), ⟨⟨hk0, hk3⟩, hpk.del hi, hy, hhs, hsv, herr, hty⟩, Or.inl ⟨nI (c - 1), ar_weak (x_removePattern _ c1 c3 hpk hi) (fun o S' z => ?_), fun S1 th hm => ?_⟩⟩
    · obtain ⟨z0, zp, q⟩ := z
      exact ⟨z0, ⟨⟨c1.1.fr q (by omega), c1.2.1.fr q (by omega), c1.2.2.fr q (by omega)⟩, c2.fr' q (fun x _ _ => by omega), zp, ⟨c4.fr q (by omega), c5.fr q (by omega), c6.fr' q (fun x _ _ => by omega), c7.fr q (by omega) (by omega)⟩, c8.fr q (fun x _ _ => by omega), c9.fr' q (fun x _ _ => by omega), c10.fr' q (fun x _ _ => by omega), c11.fr q (by omega), ⟨acc, c12.fr q (by omega)⟩, c13.fr' q (fun x _ _ => by omega)⟩, q.mono (fun x hx => by show 1 ≤ x ∧ x ≤ 51; omega)⟩
    · obtain ⟨⟨rd, tl, cur, sv, m1⟩, m2, m3, m4, m5, m6, m7, m8, ⟨F70, m9⟩, m10⟩ := hm
      refine ar_weak (m_removePattern _ m1 m3 hpk hi) (fun o S' z => ?_)
      obtain ⟨z0, ⟨za, zb⟩, q⟩ := z
      exact ⟨z0, ⟨⟨_, _, _, _, za⟩, m2.fr q (by omega) (by omega), zb, m4.fr q (by omega), m5.fr q (by omega), m6.fr q (by omega), m7.fr q (fun x _ _ => by omega), m8.fr q (by omega) (by omega) (by omega), ⟨F70, m9.fr q (by omega)⟩, fun z => (m10 z).fr q (by omega)⟩, q.mono (fun x hx => by show 52 ≤ x ∧ x ≤ 70; omega)⟩
theorem c_avoids {S : aq_S} {D : jD} {a : Int32} (hC : jC S D) (hV : jV D) : jU Value.int 0 98 183 [.int a] S D [("java/lang/IllegalArgumentException", 1)] := by
  obtain ⟨⟨k, c, n, hs, err⟩, ⟨N, G, pn, pg, inp⟩, ⟨ks, cs, Ns, Gs, pns, pgs⟩, ty, sz, v⟩ := D
  have hC0 := hC
  have hV0 := hV
  obtain ⟨c1, c2, c3, ⟨c4, c5, c6, c7⟩, c8, c9, c10, c11, ⟨acc, c12⟩, c13⟩ := hC0
  obtain ⟨⟨hk0, hk3⟩, hpk, hy, hhs, hsv, herr, hty⟩ := hV0
  rcases rg a 4 (by decide) with hp | ⟨r, hr, rfl⟩
  · refine jU_t hC hV (E := "java/lang/IllegalArgumentException") (r := 1) (by decide +kernel) (by decide) (x_avoids_r _ c1 hp) (fun S1 th hm => ?_)
    have hm0 := hm
    obtain ⟨⟨rd, tl, cur, sv, m1⟩, m2, m3, m4, m5, m6, m7, m8, ⟨F70, m9⟩, m10⟩ := hm0
    exact ar_weak (m_avoids_r _ m1 hp) (fun o S' q => jM_w hm q)
  · refine jU_q hC hV (x_avoids _ c1 c2 c3 hpk hr (fun j hj => (hy r hr j hj).mono hk3 (Nat.le_refl _))) (fun S1 th hm => ?_)
    have hm0 := hm
    obtain ⟨⟨rd, tl, cur, sv, m1⟩, m2, m3, m4, m5, m6, m7, m8, ⟨F70, m9⟩, m10⟩ := hm0
    exact ar_weak (m_avoids _ m1 m2 m3 hpk hr) (fun o S' q => jM_w hm q)
theorem c_longestAvoiding {S : aq_S} {D : jD}  (hC : jC S D) (hV : jV D) : jU Value.int 0 101 193 [] S D [("java/util/NoSuchElementException", 1)] := by
  obtain ⟨⟨k, c, n, hs, err⟩, ⟨N, G, pn, pg, inp⟩, ⟨ks, cs, Ns, Gs, pns, pgs⟩, ty, sz, v⟩ := D
  have hC0 := hC
  have hV0 := hV
  obtain ⟨c1, c2, c3, ⟨c4, c5, c6, c7⟩, c8, c9, c10, c11, ⟨acc, c12⟩, c13⟩ := hC0
  obtain ⟨⟨hk0, hk3⟩, hpk, hy, hhs, hsv, herr, hty⟩ := hV0
  by_cases hl : lon (-1) k c pn pg < 85
  · refine ⟨((k, c, n, hs, err), (N, G, pn, pg, inp), (ks, cs, Ns, Gs, pns, pgs), ty, sz, v), hV, Or.inl ⟨nI (lon (-1) k c pn pg), ar_weak (x_longestAvoiding _ c1 c3 hpk c10 hk0 hk3 hl) (fun o S' z => ?_), fun S1 th hm => ?_⟩⟩
    · obtain ⟨z0, zk, q⟩ := z
      exact ⟨z0, ⟨⟨c1.1.fr q (by omega), c1.2.1.fr q (by omega), c1.2.2.fr q (by omega)⟩, c2.fr' q (fun x _ _ => by omega), c3.fr q (by omega) (by omega), ⟨c4.fr q (by omega), c5.fr q (by omega), c6.fr' q (fun x _ _ => by omega), c7.fr q (by omega) (by omega)⟩, c8.fr q (fun x _ _ => by omega), c9.fr' q (fun x _ _ => by omega), zk, c11.fr q (by omega), ⟨acc, c12.fr q (by omega)⟩, c13.fr' q (fun x _ _ => by omega)⟩, q.mono (fun x hx => by show 1 ≤ x ∧ x ≤ 51; omega)⟩
    · obtain ⟨⟨rd, tl, cur, sv, m1⟩, m2, m3, m4, m5, m6, m7, m8, ⟨F70, m9⟩, m10⟩ := hm
      refine ar_weak (m_longestAvoiding _ m1 m3 hpk m5 m7 hk0 hk3 hl) (fun o S' z => ?_)
      obtain ⟨z0, ⟨za, zb, zc⟩, q⟩ := z
      exact ⟨z0, ⟨⟨_, _, _, _, za⟩, m2.fr q (by omega) (by omega), m3.fr q (by omega) (by omega), m4.fr q (by omega), zb, m6.fr q (by omega), zc, m8.fr q (by omega) (by omega) (by omega), ⟨F70, m9.fr q (by omega)⟩, fun z => (m10 z).fr q (by omega)⟩, q.mono (fun x hx => by show 52 ≤ x ∧ x ≤ 70; omega)⟩
  · refine ⟨((k, c, n, hs, err), (N, G, pn, pg, inp), (ks, cs, Ns, Gs, pns, pgs), ty, sz, v), hV, Or.inr ⟨"java/util/NoSuchElementException", 1, by decide +kernel, by decide, ar_weak (x_longestAvoiding_x _ c1 c3 hpk c10 hk0 hk3 hl) (fun o S' z => ?_), fun S1 th hm => ?_⟩⟩
    · obtain ⟨z0, S2, zs, zk, q⟩ := z
      exact ⟨z0, S2, zs, ⟨⟨c1.1.fr q (by omega), c1.2.1.fr q (by omega), c1.2.2.fr q (by omega)⟩, c2.fr' q (fun x _ _ => by omega), c3.fr q (by omega) (by omega), ⟨c4.fr q (by omega), c5.fr q (by omega), c6.fr' q (fun x _ _ => by omega), c7.fr q (by omega) (by omega)⟩, c8.fr q (fun x _ _ => by omega), c9.fr' q (fun x _ _ => by omega), zk, c11.fr q (by omega), ⟨acc, c12.fr q (by omega)⟩, c13.fr' q (fun x _ _ => by omega)⟩, q.mono (fun x hx => by show 1 ≤ x ∧ x ≤ 51; omega)⟩
    · obtain ⟨⟨rd, tl, cur, sv, m1⟩, m2, m3, m4, m5, m6, m7, m8, ⟨F70, m9⟩, m10⟩ := hm
      refine ar_weak (m_longestAvoiding_x _ m1 m3 hpk m5 m7 hk0 hk3 hl) (fun o S' z => ?_)
      obtain ⟨z0, ⟨za, zb, zc⟩, q⟩ := z
      exact ⟨z0, ⟨⟨_, _, _, _, za⟩, m2.fr q (by omega) (by omega), m3.fr q (by omega) (by omega), m4.fr q (by omega), zb, m6.fr q (by omega), zc, m8.fr q (by omega) (by omega) (by omega), ⟨F70, m9.fr q (by omega)⟩, fun z => (m10 z).fr q (by omega)⟩, q.mono (fun x hx => by show 52 ≤ x ∧ x ≤ 70; omega)⟩
theorem c_countAvoiding {S : aq_S} {D : jD} {a : Int32} (hC : jC S D) (hV : jV D) : jU Value.long 0 102 194 [.int a] S D [("java/lang/IllegalArgumentException", 1)] := by
  obtain ⟨⟨k, c, n, hs, err⟩, ⟨N, G, pn, pg, inp⟩, ⟨ks, cs, Ns, Gs, pns, pgs⟩, ty, sz, v⟩ := D
  have hC0 := hC
  have hV0 := hV
  obtain ⟨c1, c2, c3, ⟨c4, c5, c6, c7⟩, c8, c9, c10, c11, ⟨acc, c12⟩, c13⟩ := hC0
  obtain ⟨⟨hk0, hk3⟩, hpk, hy, hhs, hsv, herr, hty⟩ := hV0
  rcases rg a 31 (by decide) with hp | ⟨t, ht, rfl⟩
  · refine jU_t hC hV (E := "java/lang/IllegalArgumentException") (r := 1) (by decide +kernel) (by decide) (x_countAvoiding_n _ hp) (fun S1 th hm => ?_)
    have hm0 := hm
    obtain ⟨⟨rd, tl, cur, sv, m1⟩, m2, m3, m4, m5, m6, m7, m8, ⟨F70, m9⟩, m10⟩ := hm0
    exact ar_weak (m_countAvoiding_n _ m1 hp) (fun o S' q => jM_w hm q)
  · refine ⟨((k, c, n, hs, err), (N, G, pn, pg, inp), (ks, cs, Ns, Gs, pns, pgs), ty, sz, v), hV, Or.inl ⟨lN (acnt (-1) k c pn pg t), ar_weak (x_countAvoiding _ c1 c3 hpk c10 hk0 hk3 (by omega)) (fun o S' z => ?_), fun S1 th hm => ?_⟩⟩
    · obtain ⟨z0, zk, q⟩ := z
      exact ⟨z0, ⟨⟨c1.1.fr q (by omega), c1.2.1.fr q (by omega), c1.2.2.fr q (by omega)⟩, c2.fr' q (fun x _ _ => by omega), c3.fr q (by omega) (by omega), ⟨c4.fr q (by omega), c5.fr q (by omega), c6.fr' q (fun x _ _ => by omega), c7.fr q (by omega) (by omega)⟩, c8.fr q (fun x _ _ => by omega), c9.fr' q (fun x _ _ => by omega), zk, c11.fr q (by omega), ⟨acc, c12.fr q (by omega)⟩, c13.fr' q (fun x _ _ => by omega)⟩, q.mono (fun x hx => by show 1 ≤ x ∧ x ≤ 51; omega)⟩
    · obtain ⟨⟨rd, tl, cur, sv, m1⟩, m2, m3, m4, m5, m6, m7, m8, ⟨F70, m9⟩, m10⟩ := hm
      refine ar_weak (m_countAvoiding _ m1 m3 hpk m5 m7 hk0 hk3 (by omega)) (fun o S' z => ?_)
      obtain ⟨z0, ⟨za, zb, zc⟩, q⟩ := z
      exact ⟨z0, ⟨⟨_, _, _, _, za⟩, m2.fr q (by omega) (by omega), m3.fr q (by omega) (by omega), m4.fr q (by omega), zb, m6.fr q (by omega), zc, m8.fr q (by omega) (by omega) (by omega), ⟨F70, m9.fr q (by omega)⟩, fun z => (m10 z).fr q (by omega)⟩, q.mono (fun x hx => by show 52 ≤ x ∧ x ≤ 70; omega)⟩
theorem least_ex {P : Nat → Prop} (h : ∃ n, P n) : ∃ n, P n ∧ ∀ m, m < n → ¬ P m := by
  obtain ⟨n, hn⟩ := h
  induction n using Nat.strongRecOn with
  | ind n ih =>
    by_cases z : ∃ m, m < n ∧ P m
    · obtain ⟨m, hm, hp⟩ := z
      exact ih m hm hp
    · exact ⟨n, hn, fun m hm hp => z ⟨m, hm, hp⟩⟩
theorem cMin_ex {lo : Int32} {k c : Nat} {pn : Nat → Nat} {pg : Nat → Nat → Int32} (h : ¬ cNone lo k c pn pg) : ∃ n m, cMin lo k c pn pg n m := by
  have h1 : ∃ n, ∃ m, n ≤ 40 ∧ cyc lo k c pn pg n m := by
    refine Classical.byContradiction fun z => h fun n m hn hc => z ⟨n, m, hn, hc⟩
  obtain ⟨n, hn, hmin⟩ := least_ex h1
  have h2 : ∃ m, cyc lo k c pn pg n m := by
    obtain ⟨m, -, hm⟩ := hn
    exact ⟨m, hm⟩
  have hn40 : n ≤ 40 := by
    obtain ⟨m, hm, -⟩ := hn
    exact hm
  obtain ⟨m, hm, hmin2⟩ := least_ex h2
  refine ⟨n, m, hn40, hm, fun n' m' hc hl => ?_⟩
  rcases hl with hl | ⟨e, hl⟩
  · exact hmin n' hl ⟨m', by omega, hc⟩
  · subst e
    exact hmin2 m' hl hc
theorem c_avoidingCycle {S : aq_S} {D : jD} {a : Int32} (hC : jC S D) (hV : jV D) : jU Value.int 0 103 199 [.int a] S D [("java/lang/IllegalArgumentException", 1), ("java/util/NoSuchElementException", 2)] := by
  obtain ⟨⟨k, c, n, hs, err⟩, ⟨N, G, pn, pg, inp⟩, ⟨ks, cs, Ns, Gs, pns, pgs⟩, ty, sz, v⟩ := D
  have hC0 := hC
  have hV0 := hV
  obtain ⟨c1, c2, c3, ⟨c4, c5, c6, c7⟩, c8, c9, c10, c11, ⟨acc, c12⟩, c13⟩ := hC0
  obtain ⟨⟨hk0, hk3⟩, hpk, hy, hhs, hsv, herr, hty⟩ := hV0
  rcases rg a 4 (by decide) with hp | ⟨r, hr, rfl⟩
  · refine jU_t hC hV (E := "java/lang/IllegalArgumentException") (r := 1) (by decide +kernel) (by decide) (x_avoidingCycle_r _ c1 hp) (fun S1 th hm => ?_)
    have hm0 := hm
    obtain ⟨⟨rd, tl, cur, sv, m1⟩, m2, m3, m4, m5, m6, m7, m8, ⟨F70, m9⟩, m10⟩ := hm0
    exact ar_weak (m_avoidingCycle_r _ m1 hp) (fun o S' q => jM_w hm q)
  · by_cases hno : cNone (-1) k c pn pg
    · refine ⟨((k, c, n, hs, err), (N, G, pn, pg, inp), (ks, cs, Ns, Gs, pns, pgs), ty, sz, v), hV, Or.inr ⟨"java/util/NoSuchElementException", 2, by decide +kernel, by decide, ar_weak (x_avoidingCycle_n _ c1 c2 c9 c3 hpk c10 hk0 hk3 hr hno) (fun o S' z => ?_), fun S1 th hm => ?_⟩⟩
      · obtain ⟨z0, S2, zs, ⟨zk, zd⟩, q⟩ := z
        exact ⟨z0, S2, zs, ⟨⟨c1.1.fr q (by omega), c1.2.1.fr q (by omega), c1.2.2.fr q (by omega)⟩, c2.fr' q (fun x _ _ => by omega), c3.fr q (by omega) (by omega), ⟨c4.fr q (by omega), c5.fr q (by omega), c6.fr' q (fun x _ _ => by omega), c7.fr q (by omega) (by omega)⟩, c8.fr q (fun x _ _ => by omega), zd, zk, c11.fr q (by omega), ⟨acc, c12.fr q (by omega)⟩, c13.fr' q (fun x _ _ => by omega)⟩, q.mono (fun x hx => by show 1 ≤ x ∧ x ≤ 51; omega)⟩
      · obtain ⟨⟨rd, tl, cur, sv, m1⟩, m2, m3, m4, m5, m6, m7, m8, ⟨F70, m9⟩, m10⟩ := hm
        refine ar_weak (m_avoidingCycle_n _ m1 m3 hpk m5 m7 hk0 hk3 hr hno) (fun o S' z => ?_)
        obtain ⟨z0, ⟨za, zb, zc⟩, q⟩ := z
        exact ⟨z0, ⟨⟨_, _, _, _, za⟩, m2.fr q (by omega) (by omega), m3.fr q (by omega) (by omega), m4.fr q (by omega), zb, m6.fr q (by omega), zc, m8.fr q (by omega) (by omega) (by omega), ⟨F70, m9.fr q (by omega)⟩, fun z => (m10 z).fr q (by omega)⟩, q.mono (fun x hx => by show 52 ≤ x ∧ x ≤ 70; omega)⟩
    · obtain ⟨u, b, hmn⟩ := cMin_ex hno
      refine ⟨((k, c, n, hs, err), ((updN N r u), (updG G r (wlet k u b)), pn, pg, inp), (ks, cs, Ns, Gs, pns, pgs), ty, sz, v), ⟨⟨hk0, hk3⟩, hpk, upd_put hy (fun i _ => isY_nI (Nat.mod_lt _ hk0) hk3), hhs, hsv, herr, hty⟩, Or.inl ⟨nI u, ar_weak (x_avoidingCycle _ c1 c2 c9 c3 hpk c10 hk0 hk3 hr hmn) (fun o S' z => ?_), fun S1 th hm => ?_⟩⟩
      · obtain ⟨z0, ⟨zk, zd, zw⟩, q⟩ := z
        exact ⟨z0, ⟨⟨c1.1.fr q (by omega), c1.2.1.fr q (by omega), c1.2.2.fr q (by omega)⟩, hWs_put c2 q (fun x hx => by omega) zw, c3.fr q (by omega) (by omega), ⟨c4.fr q (by omega), c5.fr q (by omega), c6.fr' q (fun x _ _ => by omega), c7.fr q (by omega) (by omega)⟩, c8.fr q (fun x _ _ => by omega), zd, zk, c11.fr q (by omega), ⟨acc, c12.fr q (by omega)⟩, c13.fr' q (fun x _ _ => by omega)⟩, q.mono (fun x hx => by show 1 ≤ x ∧ x ≤ 51; omega)⟩
      · obtain ⟨⟨rd, tl, cur, sv, m1⟩, m2, m3, m4, m5, m6, m7, m8, ⟨F70, m9⟩, m10⟩ := hm
        refine ar_weak (m_avoidingCycle _ m1 m2 m3 hpk m5 m7 hk0 hk3 hr hmn) (fun o S' z => ?_)
        obtain ⟨z0, ⟨za, zb, zc, zd⟩, q⟩ := z
        exact ⟨z0, ⟨⟨_, _, _, _, za⟩, zb, m3.fr q (by omega) (by omega), m4.fr q (by omega), zc, m6.fr q (by omega), zd, m8.fr q (by omega) (by omega) (by omega), ⟨F70, m9.fr q (by omega)⟩, fun z => (m10 z).fr q (by omega)⟩, q.mono (fun x hx => by show 52 ≤ x ∧ x ≤ 70; omega)⟩
theorem c_patternCount {S : aq_S} {D : jD} (hC : jC S D) (hV : jV D) : ∃ (D' : jD) (a : Int32), jV D' ∧ aX 21 97 [.ref 1] S (fun o S' => o = .inl (some (.int a)) ∧ jC S' D' ∧ aq_fr S S' jQc) ∧ ∀ S1 th, jM S1 th D → aX 21 181 [.ref 52] S1 (fun o S' => o = .inl (some (.int a)) ∧ jM S' 0 D' ∧ aq_fr S1 S' jQm) := by
  obtain ⟨⟨k, c, n, hs, err⟩, ⟨N, G, pn, pg, inp⟩, ⟨ks, cs, Ns, Gs, pns, pgs⟩, ty, sz, v⟩ := D
  have hC0 := hC
  have hV0 := hV
  obtain ⟨c1, c2, c3, ⟨c4, c5, c6, c7⟩, c8, c9, c10, c11, ⟨acc, c12⟩, c13⟩ := hC0
  obtain ⟨⟨hk0, hk3⟩, hpk, hy, hhs, hsv, herr, hty⟩ := hV0
  refine ⟨((k, c, n, hs, err), (N, G, pn, pg, inp), (ks, cs, Ns, Gs, pns, pgs), ty, sz, v), nI c, hV, ar_weak (x_patternCount _ c1 c3) (fun o S' z => ?_), fun S1 th hm => ?_⟩
  · obtain ⟨z0, zs⟩ := z
    subst zs
    exact ⟨z0, hC, aq_fr.rf⟩
  · obtain ⟨⟨rd, tl, cur, sv, m1⟩, m2, m3, m4, m5, m6, m7, m8, ⟨F70, m9⟩, m10⟩ := hm
    refine ar_weak (m_patternCount _ m1) (fun o S' z => ?_)
    obtain ⟨z0, za, q⟩ := z
    exact ⟨z0, ⟨⟨_, _, _, _, za⟩, m2.fr q (by omega) (by omega), m3.fr q (by omega) (by omega), m4.fr q (by omega), m5.fr q (by omega), m6.fr q (by omega), m7.fr q (fun x _ _ => by omega), m8.fr q (by omega) (by omega) (by omega), ⟨F70, m9.fr q (by omega)⟩, fun z => (m10 z).fr q (by omega)⟩, q.mono (fun x hx => by show 52 ≤ x ∧ x ≤ 70; omega)⟩
theorem c_isUnavoidable {S : aq_S} {D : jD} (hC : jC S D) (hV : jV D) : ∃ (D' : jD) (a : Int32), jV D' ∧ aX 21 99 [.ref 1] S (fun o S' => o = .inl (some (.int a)) ∧ jC S' D' ∧ aq_fr S S' jQc) ∧ ∀ S1 th, jM S1 th D → aX 21 191 [.ref 52] S1 (fun o S' => o = .inl (some (.int a)) ∧ jM S' 0 D' ∧ aq_fr S1 S' jQm) := by
  obtain ⟨⟨k, c, n, hs, err⟩, ⟨N, G, pn, pg, inp⟩, ⟨ks, cs, Ns, Gs, pns, pgs⟩, ty, sz, v⟩ := D
  have hC0 := hC
  have hV0 := hV
  obtain ⟨c1, c2, c3, ⟨c4, c5, c6, c7⟩, c8, c9, c10, c11, ⟨acc, c12⟩, c13⟩ := hC0
  obtain ⟨⟨hk0, hk3⟩, hpk, hy, hhs, hsv, herr, hty⟩ := hV0
  refine ⟨((k, c, n, hs, err), (N, G, pn, pg, inp), (ks, cs, Ns, Gs, pns, pgs), ty, sz, v), bI (lon (-1) k c pn pg < 85), hV, ar_weak (x_isUnavoidable _ c1 c3 hpk c10 hk0 hk3) (fun o S' z => ?_), fun S1 th hm => ?_⟩
  · obtain ⟨z0, zk, q⟩ := z
    exact ⟨z0, ⟨⟨c1.1.fr q (by omega), c1.2.1.fr q (by omega), c1.2.2.fr q (by omega)⟩, c2.fr' q (fun x _ _ => by omega), c3.fr q (by omega) (by omega), ⟨c4.fr q (by omega), c5.fr q (by omega), c6.fr' q (fun x _ _ => by omega), c7.fr q (by omega) (by omega)⟩, c8.fr q (fun x _ _ => by omega), c9.fr' q (fun x _ _ => by omega), zk, c11.fr q (by omega), ⟨acc, c12.fr q (by omega)⟩, c13.fr' q (fun x _ _ => by omega)⟩, q.mono (fun x hx => by show 1 ≤ x ∧ x ≤ 51; omega)⟩
  · obtain ⟨⟨rd, tl, cur, sv, m1⟩, m2, m3, m4, m5, m6, m7, m8, ⟨F70, m9⟩, m10⟩ := hm
    refine ar_weak (m_isUnavoidable _ m1 m3 hpk m5 m7 hk0 hk3) (fun o S' z => ?_)
    obtain ⟨z0, ⟨za, zb, zc⟩, q⟩ := z
    exact ⟨z0, ⟨⟨_, _, _, _, za⟩, m2.fr q (by omega) (by omega), m3.fr q (by omega) (by omega), m4.fr q (by omega), zb, m6.fr q (by omega), zc, m8.fr q (by omega) (by omega) (by omega), ⟨F70, m9.fr q (by omega)⟩, fun z => (m10 z).fr q (by omega)⟩, q.mono (fun x hx => by show 52 ≤ x ∧ x ≤ 70; omega)⟩
theorem c_isMinimal {S : aq_S} {D : jD} (hC : jC S D) (hV : jV D) : ∃ (D' : jD) (a : Int32), jV D' ∧ aX 21 100 [.ref 1] S (fun o S' => o = .inl (some (.int a)) ∧ jC S' D' ∧ aq_fr S S' jQc) ∧ ∀ S1 th, jM S1 th D → aX 21 192 [.ref 52] S1 (fun o S' => o = .inl (some (.int a)) ∧ jM S' 0 D' ∧ aq_fr S1 S' jQm) := by
  obtain ⟨⟨k, c, n, hs, err⟩, ⟨N, G, pn, pg, inp⟩, ⟨ks, cs, Ns, Gs, pns, pgs⟩, ty, sz, v⟩ := D
  have hC0 := hC
  have hV0 := hV
  obtain ⟨c1, c2, c3, ⟨c4, c5, c6, c7⟩, c8, c9, c10, c11, ⟨acc, c12⟩, c13⟩ := hC0
  obtain ⟨⟨hk0, hk3⟩, hpk, hy, hhs, hsv, herr, hty⟩ := hV0
  refine ⟨((k, c, n, hs, err), (N, G, pn, pg, inp), (ks, cs, Ns, Gs, pns, pgs), ty, sz, v), bI (mini k c pn pg), hV, ar_weak (x_isMinimal _ c1 c3 hpk c10 hk0 hk3) (fun o S' z => ?_), fun S1 th hm => ?_⟩
  · obtain ⟨z0, zk, q⟩ := z
    exact ⟨z0, ⟨⟨c1.1.fr q (by omega), c1.2.1.fr q (by omega), c1.2.2.fr q (by omega)⟩, c2.fr' q (fun x _ _ => by omega), c3.fr q (by omega) (by omega), ⟨c4.fr q (by omega), c5.fr q (by omega), c6.fr' q (fun x _ _ => by omega), c7.fr q (by omega) (by omega)⟩, c8.fr q (fun x _ _ => by omega), c9.fr' q (fun x _ _ => by omega), zk, c11.fr q (by omega), ⟨acc, c12.fr q (by omega)⟩, c13.fr' q (fun x _ _ => by omega)⟩, q.mono (fun x hx => by show 1 ≤ x ∧ x ≤ 51; omega)⟩
  · obtain ⟨⟨rd, tl, cur, sv, m1⟩, m2, m3, m4, m5, m6, m7, m8, ⟨F70, m9⟩, m10⟩ := hm
    refine ar_weak (m_isMinimal _ m1 m3 hpk m5 m7 hk0 hk3) (fun o S' z => ?_)
    obtain ⟨z0, ⟨za, zb, zc⟩, q⟩ := z
    exact ⟨z0, ⟨⟨_, _, _, _, za⟩, m2.fr q (by omega) (by omega), m3.fr q (by omega) (by omega), m4.fr q (by omega), zb, m6.fr q (by omega), zc, m8.fr q (by omega) (by omega) (by omega), ⟨F70, m9.fr q (by omega)⟩, fun z => (m10 z).fr q (by omega)⟩, q.mono (fun x hx => by show 52 ≤ x ∧ x ≤ 70; omega)⟩
end
