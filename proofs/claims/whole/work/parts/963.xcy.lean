/-! ===== avoidingCycle: the class ===== -/
section
theorem fcB_min {S : aq_S} {lo : Int32} {k c n b : Nat} {pn : Nat → Nat} {pg : Nat → Nat → Int32} (hp : pOk c pn pg) (hk : 0 < k) (h : fcB S k (off k 5) (tgL k (alP lo k c pn pg)) (off k 5)) (hm : cMin lo k c pn pg n b) : isW S 45 n (wlet k n b) ∧ 0 < n := by
  obtain ⟨n0, b0, h1, h2, h3⟩ := h
  obtain ⟨s, hs, hcl⟩ := (cyc_G hp hk).mpr hm.2.1
  rcases h3 with ⟨e, z⟩ | ⟨z1, z2⟩
  · exact absurd hcl (z s hs n b hm.1)
  · obtain ⟨e1, e2⟩ := cMin_uq (lo := lo) (n := n0) (m := b0) ⟨h1, (cyc_G hp hk).mp z1, fun n' m' hc => by
      obtain ⟨w, hw, hc⟩ := (cyc_G hp hk).mpr hc
      exact z2 w hw n' m' hc⟩ hm
    rw [e1, e2] at h2
    exact ⟨h2, hcl.1⟩
theorem fcB_none {S : aq_S} {lo : Int32} {k c : Nat} {pn : Nat → Nat} {pg : Nat → Nat → Int32} (hp : pOk c pn pg) (hk : 0 < k) (h : fcB S k (off k 5) (tgL k (alP lo k c pn pg)) (off k 5)) (hm : cNone lo k c pn pg) : ∃ g, isW S 45 0 g := by
  obtain ⟨n0, b0, h1, h2, h3⟩ := h
  rcases h3 with ⟨e, z⟩ | ⟨z1, z2⟩
  · rw [e] at h2
    exact ⟨_, h2⟩
  · exact absurd ((cyc_G hp hk).mp z1) (hm n0 b0 h1)
theorem tgL_all {k : Nat} {al : Nat → Nat → Nat → Prop} (hk : 0 < k) (s a t : Nat) (h : tgL k al s a = some t) : 0 < t ∧ t < off k 5 ∧ (t - 1) % k = a := ⟨(tgL_pos hk s a t h).1, (tgL_pos hk s a t h).2, tgL_last h⟩
theorem x_avoidingCycle_r (d : Nat) {S : aq_S} {k : Nat} {hs : Int32} {a0 : Int32} (h : hT S k hs) (hp : a0 < 0 ∨ nI 4 ≤ a0) : aX (d + 3) 103 [.ref 1, .int a0] S (fun o S' => o = .inr "java/lang/IllegalArgumentException" ∧ S' = aq_thrown S) := by
  refine ar_run (Nat.le_of_ble_eq_true rfl) (fun o S1 h => aq_le_of (aq_le_thr S) h) ?_
  refine ar_ld i_X6_avoidingCycle_0 rfl rfl ?_
  refine ar_ld i_X6_avoidingCycle_1 rfl rfl ?_
  exact av_cx i_X6_avoidingCycle_2 rfl ⟨_, _, _, rfl, (h.1)⟩ (Nat.le_of_ble_eq_true rfl) (x_wordIn_no d h hp) (fun S1 h => ⟨rfl, h⟩)
theorem x_avoidingCycle (d : Nat) {S : aq_S} {k c r n b : Nat} {hs : Int32} {pn : Nat → Nat} {pg : Nat → Nat → Int32} {N : Nat → Nat} {G : Nat → Nat → Int32} (h : hT S k hs) (hw : hWs S 2 N G) (hD0 : hD S) (hp : hP S 4 c pn pg) (hpk : pOk c pn pg) (hq : kQ S) (hk0 : 0 < k) (hk : k ≤ 3) (hr : r < 4) (hm : cMin (-1) k c pn pg n b) : aX (d + 5) 103 [.ref 1, .int (nI r)] S (fun o S' => o = .inl (some (.int (nI n))) ∧ (kQ S' ∧ hD S' ∧ isW S' (6 + 2 * r) n (wlet k n b)) ∧ aq_fr S S' (fun q => q = 6 + 2 * r ∨ q = 6 + 2 * r + 1 ∨ (31 ≤ q ∧ q ≤ 41) ∨ (43 ≤ q ∧ q ≤ 46))) := by
  have hwr := hw r hr
  obtain ⟨⟨lt, st, ko⟩, kA0⟩ := hq
  have hp0 := hp
  obtain ⟨E0, acc0, hp1, -⟩ := hp0
  refine ar_run (Nat.le_of_ble_eq_true rfl) (fun o S1 h => h.2.2.le) ?_
  refine ar_ld i_X6_avoidingCycle_0 rfl rfl ?_
  refine ar_ld i_X6_avoidingCycle_1 rfl rfl ?_
  refine ar_cr i_X6_avoidingCycle_2 rfl ⟨_, _, _, rfl, (h.1)⟩ (Nat.le_of_ble_eq_true rfl) (x_wordIn (d + 2) h hr) ?_
  refine ar_st i_X6_avoidingCycle_5 rfl rfl ?_
  refine ar_ld i_X6_avoidingCycle_6 rfl rfl ?_
  refine ar_gf i_X6_avoidingCycle_7 (h.1) rfl ?_
  refine ar_ld i_X6_avoidingCycle_10 rfl rfl ?_
  refine ar_gf i_X6_avoidingCycle_11 (h.1) rfl ?_
  refine ar_gf i_X6_avoidingCycle_14 (h.2.1) rfl ?_
  refine ar_ld i_X6_avoidingCycle_17 rfl rfl ?_
  refine ar_gf i_X6_avoidingCycle_18 (h.1) rfl ?_
  refine ar_gf i_X6_avoidingCycle_21 (h.2.1) rfl ?_
  refine ar_ld i_X6_avoidingCycle_24 rfl rfl ?_
  refine ar_gf i_X6_avoidingCycle_25 (h.1) rfl ?_
  refine ar_gf i_X6_avoidingCycle_28 (h.2.1) rfl ?_
  refine av_ce i_X6_avoidingCycle_31 rfl ⟨_, _, _, rfl, hp1⟩ (Nat.le_of_ble_eq_true rfl) (p_ends (d + 3) hp) (fun E S2 hE => ?_)
  obtain ⟨hE2, e2⟩ := hE
  subst e2
  refine av_cv i_X6_avoidingCycle_34 rfl ⟨_, _, _, rfl, ko⟩ (Nat.le_of_ble_eq_true rfl) (k_build (d + 2) ko kA0 hp hpk (eE_ends hpk.1 hE2) hk0 hk) (fun S3 q3 => ?_)
  obtain ⟨⟨g3, a3⟩, k3⟩ := q3
  have hT3 := h.fr k3 (by omega)
  have hD3 : hD S3 := by
    obtain ⟨⟨n1, w1, d1⟩, n2, w2, d2⟩ := hD0
    exact ⟨⟨n1, w1, d1.fr k3 (by omega) (by omega)⟩, n2, w2, d2.fr k3 (by omega) (by omega)⟩
  refine ar_ld i_X6_avoidingCycle_37 rfl rfl ?_
  refine ar_gf i_X6_avoidingCycle_38 (hT3.1) rfl ?_
  refine ar_ld i_X6_avoidingCycle_41 rfl rfl ?_
  refine ar_gf i_X6_avoidingCycle_42 (hT3.1) rfl ?_
  refine ar_ld i_X6_avoidingCycle_45 rfl rfl ?_
  refine ar_gf i_X6_avoidingCycle_46 (hT3.1) rfl ?_
  refine av_cv i_X6_avoidingCycle_49 rfl ⟨_, _, _, rfl, g3.1⟩ (Nat.le_of_ble_eq_true rfl) (k_findCycle d g3.lt a3 hk hk0 (tgL_all hk0) hD3) (fun S4 q4 => ?_)
  obtain ⟨⟨hB, a4, hw43⟩, k4⟩ := q4
  obtain ⟨w45, hn0⟩ := fcB_min hpk hk0 hB hm
  have hT4 := hT3.fr k4 (by omega)
  have hn40 := hm.1
  refine ar_ld i_X6_avoidingCycle_52 rfl rfl ?_
  refine ar_gf i_X6_avoidingCycle_53 (hT4.1) rfl ?_
  refine ar_cr i_X6_avoidingCycle_56 rfl ⟨_, _, _, rfl, w45.obj⟩ (Nat.le_of_ble_eq_true rfl) (w_size (d + 3) w45) ?_
  refine ar_ift i_X6_avoidingCycle_59 rfl (nI_ne0 (by omega) (by omega)) ?_
  refine ar_ld i_X6_avoidingCycle_73 rfl rfl ?_
  refine ar_ld i_X6_avoidingCycle_74 rfl rfl ?_
  refine ar_gf i_X6_avoidingCycle_75 (hT4.1) rfl ?_
  have hwr4 := (hwr.fr k3 (by omega) (by omega)).fr k4 (by omega) (by omega)
  refine av_cv i_X6_avoidingCycle_78 rfl ⟨_, _, _, rfl, hwr4.obj⟩ (Nat.le_of_ble_eq_true rfl) (w_copyFrom (d + 2) hwr4 w45) (fun S5 q5 => ?_)
  obtain ⟨g5, k5⟩ := q5
  refine ar_ld i_X6_avoidingCycle_81 rfl rfl ?_
  refine ar_cr i_X6_avoidingCycle_82 rfl ⟨_, _, _, rfl, g5.obj⟩ (Nat.le_of_ble_eq_true rfl) (w_size (d + 3) g5) ?_
  have hkq : kQ S5 := by
    refine ⟨⟨_, _, (g3.1.fr k4 (by omega)).fr k5 (by omega)⟩, ?_⟩
    obtain ⟨⟨x1, y1⟩, ⟨x2, y2⟩, ⟨x3, y3⟩, ⟨x4, y4, z4⟩, ⟨x5, y5⟩, ⟨x6, y6⟩, ⟨x7, y7⟩, ⟨x8, y8⟩, ⟨x9, y9⟩, x10, y10⟩ := a4
    exact ⟨⟨x1, y1.fr k5 (by omega)⟩, ⟨x2, y2.fr k5 (by omega)⟩, ⟨x3, y3.fr k5 (by omega)⟩, ⟨x4, y4.fr k5 (by omega), z4⟩, ⟨x5, y5.fr k5 (by omega)⟩, ⟨x6, y6.fr k5 (by omega)⟩, ⟨x7, y7.fr k5 (by omega)⟩, ⟨x8, y8.fr k5 (by omega)⟩, ⟨x9, y9.fr k5 (by omega)⟩, x10, y10.fr k5 (by omega)⟩
  have hD5 : hD S5 := by
    obtain ⟨n1, w1, d1⟩ := hw43
    exact ⟨⟨n1, w1, d1.fr k5 (by omega) (by omega)⟩, _, _, w45.fr k5 (by omega) (by omega)⟩
  exact ar_ret i_X6_avoidingCycle_85 rfl ⟨rfl, ⟨hkq, hD5, g5⟩, ((k3.mono (fun q z => by omega)).tr (k4.mono (fun q z => by omega))).tr (k5.mono (fun q z => by omega))⟩
theorem x_avoidingCycle_n (d : Nat) {S : aq_S} {k c r : Nat} {hs : Int32} {pn : Nat → Nat} {pg : Nat → Nat → Int32} {N : Nat → Nat} {G : Nat → Nat → Int32} (h : hT S k hs) (hw : hWs S 2 N G) (hD0 : hD S) (hp : hP S 4 c pn pg) (hpk : pOk c pn pg) (hq : kQ S) (hk0 : 0 < k) (hk : k ≤ 3) (hr : r < 4) (hm : cNone (-1) k c pn pg) : aX (d + 5) 103 [.ref 1, .int (nI r)] S (fun o S' => o = .inr "java/util/NoSuchElementException" ∧ ∃ S2, S' = aq_thrown S2 ∧ (kQ S2 ∧ hD S2) ∧ aq_fr S S2 (fun q => (31 ≤ q ∧ q ≤ 41) ∨ (43 ≤ q ∧ q ≤ 46))) := by
  have hwr := hw r hr
  obtain ⟨⟨lt, st, ko⟩, kA0⟩ := hq
  have hp0 := hp
  obtain ⟨E0, acc0, hp1, -⟩ := hp0
  refine ar_run (Nat.le_of_ble_eq_true rfl) (fun o S1 h => aq_thE h.2) ?_
  refine ar_ld i_X6_avoidingCycle_0 rfl rfl ?_
  refine ar_ld i_X6_avoidingCycle_1 rfl rfl ?_
  refine ar_cr i_X6_avoidingCycle_2 rfl ⟨_, _, _, rfl, (h.1)⟩ (Nat.le_of_ble_eq_true rfl) (x_wordIn (d + 2) h hr) ?_
  refine ar_st i_X6_avoidingCycle_5 rfl rfl ?_
  refine ar_ld i_X6_avoidingCycle_6 rfl rfl ?_
  refine ar_gf i_X6_avoidingCycle_7 (h.1) rfl ?_
  refine ar_ld i_X6_avoidingCycle_10 rfl rfl ?_
  refine ar_gf i_X6_avoidingCycle_11 (h.1) rfl ?_
  refine ar_gf i_X6_avoidingCycle_14 (h.2.1) rfl ?_
  refine ar_ld i_X6_avoidingCycle_17 rfl rfl ?_
  refine ar_gf i_X6_avoidingCycle_18 (h.1) rfl ?_
  refine ar_gf i_X6_avoidingCycle_21 (h.2.1) rfl ?_
  refine ar_ld i_X6_avoidingCycle_24 rfl rfl ?_
  refine ar_gf i_X6_avoidingCycle_25 (h.1) rfl ?_
  refine ar_gf i_X6_avoidingCycle_28 (h.2.1) rfl ?_
  refine av_ce i_X6_avoidingCycle_31 rfl ⟨_, _, _, rfl, hp1⟩ (Nat.le_of_ble_eq_true rfl) (p_ends (d + 3) hp) (fun E S2 hE => ?_)
  obtain ⟨hE2, e2⟩ := hE
  subst e2
  refine av_cv i_X6_avoidingCycle_34 rfl ⟨_, _, _, rfl, ko⟩ (Nat.le_of_ble_eq_true rfl) (k_build (d + 2) ko kA0 hp hpk (eE_ends hpk.1 hE2) hk0 hk) (fun S3 q3 => ?_)
  obtain ⟨⟨g3, a3⟩, k3⟩ := q3
  have hT3 := h.fr k3 (by omega)
  have hD3 : hD S3 := by
    obtain ⟨⟨n1, w1, d1⟩, n2, w2, d2⟩ := hD0
    exact ⟨⟨n1, w1, d1.fr k3 (by omega) (by omega)⟩, n2, w2, d2.fr k3 (by omega) (by omega)⟩
  refine ar_ld i_X6_avoidingCycle_37 rfl rfl ?_
  refine ar_gf i_X6_avoidingCycle_38 (hT3.1) rfl ?_
  refine ar_ld i_X6_avoidingCycle_41 rfl rfl ?_
  refine ar_gf i_X6_avoidingCycle_42 (hT3.1) rfl ?_
  refine ar_ld i_X6_avoidingCycle_45 rfl rfl ?_
  refine ar_gf i_X6_avoidingCycle_46 (hT3.1) rfl ?_
  refine av_cv i_X6_avoidingCycle_49 rfl ⟨_, _, _, rfl, g3.1⟩ (Nat.le_of_ble_eq_true rfl) (k_findCycle d g3.lt a3 hk hk0 (tgL_all hk0) hD3) (fun S4 q4 => ?_)
  obtain ⟨⟨hB, a4, hw43⟩, k4⟩ := q4
  obtain ⟨g45, w45⟩ := fcB_none hpk hk0 hB hm
  have hT4 := hT3.fr k4 (by omega)
  refine ar_ld i_X6_avoidingCycle_52 rfl rfl ?_
  refine ar_gf i_X6_avoidingCycle_53 (hT4.1) rfl ?_
  refine ar_cr i_X6_avoidingCycle_56 rfl ⟨_, _, _, rfl, w45.obj⟩ (Nat.le_of_ble_eq_true rfl) (w_size (d + 3) w45) ?_
  refine ar_iff i_X6_avoidingCycle_59 rfl (fun z => z rfl) ?_
  have hkq : kQ S4 := ⟨⟨_, _, g3.1.fr k4 (by omega)⟩, a4⟩
  have hfr : aq_fr S2 S4 (fun q => (31 ≤ q ∧ q ≤ 41) ∨ (43 ≤ q ∧ q ≤ 46)) := (k3.mono (fun q z => by omega)).tr (k4.mono (fun q z => by omega))
  exact ar_thr i_X6_avoidingCycle_62 (Nat.le_of_ble_eq_true rfl) ⟨rfl, _, rfl, ⟨hkq, hw43, _, _, w45⟩, hfr⟩
end
