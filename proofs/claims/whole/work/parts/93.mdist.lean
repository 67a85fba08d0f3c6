/-! ===== distances in the graph of the reference ===== -/
section
theorem tgR_y {lo : Int32} {k c v a : Nat} {pn : Nat → Nat} {pg : Nat → Nat → Int32} (h : avP lo k c pn pg 5 (v * k + a)) : tgR lo k c pn pg v a = some ((v * k + a) % k ^ 4) := pif_t h
theorem tgR_n {lo : Int32} {k c v a : Nat} {pn : Nat → Nat} {pg : Nat → Nat → Int32} (h : ¬ avP lo k c pn pg 5 (v * k + a)) : tgR lo k c pn pg v a = none := pif_f h
theorem tgR_lt {lo : Int32} {k c v a t : Nat} {pn : Nat → Nat} {pg : Nat → Nat → Int32} (hk : 0 < k) (h : tgR lo k c pn pg v a = some t) : t < k ^ 4 := by
  by_cases e : avP lo k c pn pg 5 (v * k + a)
  · rw [tgR_y e] at h
    rw [← Option.some.inj h]
    exact Nat.mod_lt _ (Nat.pow_pos hk)
  · rw [tgR_n e] at h
    cases h
/-- lengths of ways to v0 -/
def dsI (lo : Int32) (k c : Nat) (pn : Nat → Nat) (pg : Nat → Nat → Int32) (v0 : Nat) (D : Nat → Nat) : Prop := (∀ w, w < k ^ 4 → D w ≤ 1000) ∧ D v0 = 0 ∧ ∀ w, w < k ^ 4 → D w < 1000 → ∃ m, m < k ^ D w ∧ gw k (tgR lo k c pn pg) (D w) m w = some v0
def dsOk (lo : Int32) (k c : Nat) (pn : Nat → Nat) (pg : Nat → Nat → Int32) (v0 : Nat) (D : Nat → Nat) : Prop := dsI lo k c pn pg v0 D ∧ ∀ v a t, v < k ^ 4 → a < k → tgR lo k c pn pg v a = some t → D v ≤ D t + 1
/-- none is shorter -/
theorem dOk_le {lo : Int32} {k c v0 : Nat} {pn : Nat → Nat} {pg : Nat → Nat → Int32} {D : Nat → Nat} (hk : 0 < k) (h : dsOk lo k c pn pg v0 D) : ∀ n m w, w < k ^ 4 → m < k ^ n → gw k (tgR lo k c pn pg) n m w = some v0 → D w ≤ n
  | 0, m, w, _, _, e => by
    have e : w = v0 := Option.some.inj e
    rw [e, h.1.2.1]
    exact Nat.le_refl 0
  | n + 1, m, w, hw, hm, e => by
    obtain ⟨x, ha, z1, z2⟩ := gw_head hk hm e
    have h1 := h.2 w _ x hw ha z1
    have h2 := dOk_le hk h n _ x (tgR_lt hk z1) (Nat.mod_lt _ (Nat.pow_pos hk)) z2
    omega
theorem dsI_ups {lo : Int32} {k c v0 v a t : Nat} {pn : Nat → Nat} {pg : Nat → Nat → Int32} {D : Nat → Nat} (hk : 0 < k) (h : dsI lo k c pn pg v0 D) (hv : v < k ^ 4) (ha : a < k) (e : tgR lo k c pn pg v a = some t) (hlt : D t + 1 < D v) : dsI lo k c pn pg v0 (ups D v (D t + 1)) ∧ sumN (ups D v (D t + 1)) (k ^ 4) + 1 ≤ sumN D (k ^ 4) := by
  obtain ⟨h1, h2, h3⟩ := h
  have ht := tgR_lt hk e
  have hle := h1 v hv
  refine ⟨⟨fun w hw => ?_, ?_, fun w hw hd => ?_⟩, ?_⟩
  · by_cases ew : w = v
    · rw [ew, ups_eq]; omega
    · rw [ups_ne ew]; exact h1 w hw
  · by_cases ew : v0 = v
    · rw [← ew, h2] at hlt; omega
    · rw [ups_ne ew]; exact h2
  · by_cases ew : w = v
    · rw [ew, ups_eq]
      obtain ⟨m, hm, z⟩ := h3 t ht (by omega)
      refine ⟨a * k ^ D t + m, ?_, gw_cons ha hm e z⟩
      have := app_lt (p := 1) (by rw [Nat.pow_one]; exact ha) hm
      rw [Nat.add_comm 1] at this
      exact this
    · rw [ups_ne ew] at hd ⊢
      exact h3 w hw hd
  · refine sumN_mono_lt _ (fun w hw => ?_) ⟨v, hv, by rw [ups_eq]; exact hlt⟩
    by_cases ew : w = v
    · rw [ew, ups_eq]; omega
    · rw [ups_ne ew]; exact Nat.le_refl _
theorem m_findDistances (d : Nat) {S : aq_S} {kk c v0 : Nat} {pn : Nat → Nat} {pg : Nat → Nat → Int32} {fe d0 : Nat → Int32} {th il err rd tl pc lo cur hs sv : Int32} (hO : mO S th (nI kk) il err rd tl pc lo cur hs sv) (hre : ba S 61 243 fe) (hfe : ∀ v, v < kk ^ 4 → ∀ a, a < kk → fe (3 * v + a) = bI (avP lo kk c pn pg 5 (v * kk + a))) (hr4 : ia S 64 81 d0) (hv0 : v0 < kk ^ 4) (hk0 : 0 < kk) (hk : kk ≤ 3) : aX (d + 4) 195 [.ref 52, .int (nI v0)] S (fun o S' => o = .inl none ∧ (∃ D f, ia S' 64 81 f ∧ dsOk lo kk c pn pg v0 D ∧ ∀ w, w < kk ^ 4 → f w = nI (D w)) ∧ aq_fr S S' (fun q => q = 64)) := by
  have h4 := pw4 kk (by omega)
  have hp4 : 0 < kk ^ 4 := Nat.pow_pos hk0
  refine ar_run (Nat.le_of_ble_eq_true rfl) (fun o S1 h => h.2.2.le) ?_
  have outer : ∀ s (S1 : aq_S) (D : Nat → Nat) (f : Nat → Int32) (L : List (Nat × Value)), sumN D (kk ^ 4) ≤ s → (L = [] ∨ (∃ u, L = [(3, .int u)]) ∨ (∃ u v, L = [(3, .int u), (4, .int v)]) ∨ ∃ u v w, L = [(3, .int u), (4, .int v), (5, .int w)]) → mO S1 th (nI kk) il err rd tl pc lo cur hs sv → ba S1 61 243 fe → ia S1 64 81 f → (∀ w, w < kk ^ 4 → f w = nI (D w)) → dsI lo kk c pn pg v0 D → aq_fr S S1 (fun q => q = 64) → aG (d + 3) 195 (fun o S' => o = .inl none ∧ (∃ D f, ia S' 64 81 f ∧ dsOk lo kk c pn pg v0 D ∧ ∀ w, w < kk ^ 4 → f w = nI (D w)) ∧ aq_fr S S' (fun q => q = 64)) 36 ((0, .ref 52) :: (1, .int (nI v0)) :: (2, .int 1) :: L) [] S1 := by
    intro s
    induction s using Nat.strongRecOn with
    | ind s ihs =>
      intro S1 D f L hs1 hL o1 re r4 hf hd hfr
      have mid : ∀ j v (S1 : aq_S) (D : Nat → Nat) (f : Nat → Int32) (fl : Int32) (L : List (Nat × Value)), v + j = kk ^ 4 → (L = [] ∨ (∃ u, L = [(4, .int u)]) ∨ ∃ u w, L = [(4, .int u), (5, .int w)]) → mO S1 th (nI kk) il err rd tl pc lo cur hs sv → ba S1 61 243 fe → ia S1 64 81 f → (∀ w, w < kk ^ 4 → f w = nI (D w)) → dsI lo kk c pn pg v0 D → ((fl = 1 ∧ sumN D (kk ^ 4) + 1 ≤ s) ∨ (fl = 0 ∧ sumN D (kk ^ 4) ≤ s ∧ ∀ v' a' t, v' < v → a' < kk → tgR lo kk c pn pg v' a' = some t → D v' ≤ D t + 1)) → aq_fr S S1 (fun q => q = 64) → aG (d + 3) 195 (fun o S' => o = .inl none ∧ (∃ D f, ia S' 64 81 f ∧ dsOk lo kk c pn pg v0 D ∧ ∀ w, w < kk ^ 4 → f w = nI (D w)) ∧ aq_fr S S' (fun q => q = 64)) 44 ((0, .ref 52) :: (1, .int (nI v0)) :: (2, .int fl) :: (3, .int (nI v)) :: L) [] S1 := by
        intro j
        induction j with
        | zero =>
          intro v S1 D f fl L hv hL o1 re r4 hf hd hK hfr
          have ev : v = kk ^ 4 := hv
          refine ar_ld i_X7_findDistances_44 rfl rfl ?_
          refine ar_ld i_X7_findDistances_45 rfl rfl ?_
          refine ar_cr i_X7_findDistances_46 rfl ⟨_, _, _, rfl, o1⟩ (Nat.le_of_ble_eq_true rfl) (m_nodes (d + 1) o1) ?_
          refine ar_ift i_X7_findDistances_49 rfl (nI_le (show kk ^ 4 ≤ v by omega) (by omega)) ?_
          refine ar_go i_X7_findDistances_130 ?_
          rcases hK with ⟨e1, e2⟩ | ⟨e1, e2, e3⟩
          · rw [e1]
            refine ihs (s - 1) (by omega) S1 D f ((3, .int (nI v)) :: L) (by omega) ?_ o1 re r4 hf hd hfr
            rcases hL with e | ⟨u, e⟩ | ⟨u, w, e⟩
            · exact Or.inr (Or.inl ⟨_, by rw [e]⟩)
            · exact Or.inr (Or.inr (Or.inl ⟨_, _, by rw [e]⟩))
            · exact Or.inr (Or.inr (Or.inr ⟨_, _, _, by rw [e]⟩))
          · rw [e1]
            refine ar_ld i_X7_findDistances_36 rfl rfl ?_
            refine ar_ift i_X7_findDistances_37 rfl (rfl) ?_
            exact ar_retv i_X7_findDistances_133 ⟨rfl, ⟨D, f, r4, ⟨hd, fun v' a' t hv' ha' => e3 v' a' t (by omega) ha'⟩, hf⟩, hfr⟩
        | succ j ih =>
          intro v S1 D f fl L hv hL o1 re r4 hf hd hK hfr
          have hvk : v < kk ^ 4 := by omega
          have inner : ∀ jj a (S1 : aq_S) (D : Nat → Nat) (f : Nat → Int32) (fl : Int32) (L : List (Nat × Value)), a + jj = kk → (L = [] ∨ ∃ w, L = [(5, .int w)]) → mO S1 th (nI kk) il err rd tl pc lo cur hs sv → ba S1 61 243 fe → ia S1 64 81 f → (∀ w, w < kk ^ 4 → f w = nI (D w)) → dsI lo kk c pn pg v0 D → ((fl = 1 ∧ sumN D (kk ^ 4) + 1 ≤ s) ∨ (fl = 0 ∧ sumN D (kk ^ 4) ≤ s ∧ ∀ v' a' t, (v' < v ∨ (v' = v ∧ a' < a)) → a' < kk → tgR lo kk c pn pg v' a' = some t → D v' ≤ D t + 1)) → aq_fr S S1 (fun q => q = 64) → aG (d + 3) 195 (fun o S' => o = .inl none ∧ (∃ D f, ia S' 64 81 f ∧ dsOk lo kk c pn pg v0 D ∧ ∀ w, w < kk ^ 4 → f w = nI (D w)) ∧ aq_fr S S' (fun q => q = 64)) 55 ((0, .ref 52) :: (1, .int (nI v0)) :: (2, .int fl) :: (3, .int (nI v)) :: (4, .int (nI a)) :: L) [] S1 := by
            intro jj
            induction jj with
            | zero =>
              intro a S1 D f fl L ha hL o1 re r4 hf hd hK hfr
              refine ar_ld i_X7_findDistances_55 rfl rfl ?_
              refine ar_ld i_X7_findDistances_57 rfl rfl ?_
              refine ar_gf i_X7_findDistances_58 (o1) rfl ?_
              refine ar_ift i_X7_findDistances_61 rfl (nI_le (show kk ≤ a by omega) (by omega)) ?_
              refine ar_inc i_X7_findDistances_124 rfl rfl ?_
              refine ar_go i_X7_findDistances_127 ?_
              rw [nI_1]
              have := ih (v + 1) S1 D f fl ((4, .int (nI a)) :: L) (by omega) (by
                rcases hL with e | ⟨w, e⟩
                · exact Or.inr (Or.inl ⟨_, by rw [e]⟩)
                · exact Or.inr (Or.inr ⟨_, _, by rw [e]⟩)) o1 re r4 hf hd (hK.imp (fun z => z) (fun z => ⟨z.1, z.2.1, fun v' a' t hv' ha' => z.2.2 v' a' t (by omega) ha'⟩)) hfr
              rcases hL with e | ⟨w, e⟩ <;> subst e <;> exact this
            | succ jj ihj =>
              intro a S1 D f fl L ha hL o1 re r4 hf hd hK hfr
              have hak : a < kk := by omega
              have hb : (v * kk + a) % kk ^ 4 < kk ^ 4 := Nat.mod_lt _ hp4
              have hdb := hd.1 _ hb
              have hdv := hd.1 _ hvk
              have fin : (avP lo kk c pn pg 5 (v * kk + a) → D v ≤ D ((v * kk + a) % kk ^ 4) + 1) → aG (d + 3) 195 (fun o S' => o = .inl none ∧ (∃ D f, ia S' 64 81 f ∧ dsOk lo kk c pn pg v0 D ∧ ∀ w, w < kk ^ 4 → f w = nI (D w)) ∧ aq_fr S S' (fun q => q = 64)) 118 ((0, .ref 52) :: (1, .int (nI v0)) :: (2, .int fl) :: (3, .int (nI v)) :: (4, .int (nI a)) :: (5, .int (nI (D ((v * kk + a) % kk ^ 4) + 1))) :: []) [] S1 := by
                intro hno
                refine ar_inc i_X7_findDistances_118 rfl rfl ?_
                refine ar_go i_X7_findDistances_121 ?_
                rw [nI_1]
                refine ihj (a + 1) S1 D f fl [(5, .int (nI (D ((v * kk + a) % kk ^ 4) + 1)))] (by omega) (Or.inr ⟨_, rfl⟩) o1 re r4 hf hd (hK.imp (fun z => z) (fun z => ⟨z.1, z.2.1, fun v' a' t hva ha' et => ?_⟩)) hfr
                by_cases e : v' = v ∧ a' = a
                · rw [e.1, e.2] at et
                  rw [e.1]
                  by_cases hav : avP lo kk c pn pg 5 (v * kk + a)
                  · rw [tgR_y hav] at et
                    rw [← Option.some.inj et]
                    exact hno hav
                  · rw [tgR_n hav] at et
                    cases et
                · exact z.2.2 v' a' t (by omega) ha' et
              have body : aG (d + 3) 195 (fun o S' => o = .inl none ∧ (∃ D f, ia S' 64 81 f ∧ dsOk lo kk c pn pg v0 D ∧ ∀ w, w < kk ^ 4 → f w = nI (D w)) ∧ aq_fr S S' (fun q => q = 64)) 80 ((0, .ref 52) :: (1, .int (nI v0)) :: (2, .int fl) :: (3, .int (nI v)) :: (4, .int (nI a)) :: (5, .int (nI (D ((v * kk + a) % kk ^ 4) + 1))) :: []) [] S1 := by
                refine ar_ld i_X7_findDistances_80 rfl rfl ?_
                refine ar_gf i_X7_findDistances_81 (o1) rfl ?_
                refine ar_push i_X7_findDistances_84 ?_
                refine ar_ld i_X7_findDistances_85 rfl rfl ?_
                rw [show (3 : Int32) = nI 3 from rfl]
                refine ar_ar i_X7_findDistances_86 rfl ?_
                rw [pk_mul]
                refine ar_ld i_X7_findDistances_87 rfl rfl ?_
                refine ar_ar i_X7_findDistances_89 rfl ?_
                rw [nI_add]
                refine av_ldi i_X7_findDistances_90 (re) (by omega) (by omega) ?_
                rw [hfe v hvk a hak]
                by_cases hav : avP lo kk c pn pg 5 (v * kk + a)
                · refine ar_iff i_X7_findDistances_91 rfl (fun z => bI_nz.mpr hav z) ?_
                  refine ar_ld i_X7_findDistances_94 rfl rfl ?_
                  refine ar_ld i_X7_findDistances_96 rfl rfl ?_
                  refine ar_gf i_X7_findDistances_97 (o1) rfl ?_
                  refine ar_ld i_X7_findDistances_100 rfl rfl ?_
                  refine av_ldi i_X7_findDistances_101 (r4) (by omega) (by omega) ?_
                  rw [hf v hvk]
                  by_cases hlt : D ((v * kk + a) % kk ^ 4) + 1 < D v
                  · refine ar_ift i_X7_findDistances_102 rfl (nI_lt hlt (by omega)) ?_
                    refine ar_ld i_X7_findDistances_108 rfl rfl ?_
                    refine ar_gf i_X7_findDistances_109 (o1) rfl ?_
                    refine ar_ld i_X7_findDistances_112 rfl rfl ?_
                    refine ar_ld i_X7_findDistances_113 rfl rfl ?_
                    refine av_sti i_X7_findDistances_115 (by omega) (r4) (by omega) (by omega) (fun S2 g2 k2 => ?_)
                    refine ar_push i_X7_findDistances_116 ?_
                    refine ar_st i_X7_findDistances_117 rfl rfl ?_
                    refine ar_inc i_X7_findDistances_118 rfl rfl ?_
                    refine ar_go i_X7_findDistances_121 ?_
                    rw [nI_1]
                    obtain ⟨hd2, hs2⟩ := dsI_ups hk0 hd hvk hak (tgR_y hav) hlt
                    refine ihj (a + 1) S2 _ _ 1 [(5, .int (nI (D ((v * kk + a) % kk ^ 4) + 1)))] (by omega) (Or.inr ⟨_, rfl⟩) (o1.fr k2 (by omega)) (re.fr k2 (by omega)) g2 (fun w hw => ?_) hd2 (Or.inl ⟨rfl, ?_⟩) (hfr.tr k2)
                    · by_cases ew : w = v
                      · rw [ew, upd_eq, ups_eq]
                      · rw [upd_ne ew, ups_ne ew]; exact hf w hw
                    · rcases hK with z | z
                      · omega
                      · omega
                  · refine ar_iff i_X7_findDistances_102 rfl (nI_nlt (show D v ≤ D ((v * kk + a) % kk ^ 4) + 1 by omega) (by omega)) ?_
                    refine ar_go i_X7_findDistances_105 ?_
                    exact fin (fun _ => by omega)
                · refine ar_ift i_X7_findDistances_91 rfl (bI_f hav) ?_
                  exact fin (fun z => absurd z hav)
              refine ar_ld i_X7_findDistances_55 rfl rfl ?_
              refine ar_ld i_X7_findDistances_57 rfl rfl ?_
              refine ar_gf i_X7_findDistances_58 (o1) rfl ?_
              refine ar_iff i_X7_findDistances_61 rfl (nI_ge hak (by omega)) ?_
              refine ar_ld i_X7_findDistances_64 rfl rfl ?_
              refine ar_gf i_X7_findDistances_65 (o1) rfl ?_
              refine ar_ld i_X7_findDistances_68 rfl rfl ?_
              refine ar_ld i_X7_findDistances_69 rfl rfl ?_
              refine ar_ld i_X7_findDistances_70 rfl rfl ?_
              refine ar_cr i_X7_findDistances_72 rfl ⟨_, _, _, rfl, o1⟩ (Nat.le_of_ble_eq_true rfl) (m_behind d o1 hk0 hk hvk hak) ?_
              refine av_ldi i_X7_findDistances_75 (r4) (by omega) (by omega) ?_
              rw [hf _ hb]
              refine ar_push i_X7_findDistances_76 ?_
              refine ar_ar i_X7_findDistances_77 rfl ?_
              rw [nI_1]
              rcases hL with e | ⟨w, e⟩
              · subst e
                refine ar_st i_X7_findDistances_78 rfl rfl ?_
                exact body
              · subst e
                refine ar_st i_X7_findDistances_78 rfl rfl ?_
                exact body
          have start := fun L hL => inner kk 0 S1 D f fl L (by omega) hL o1 re r4 hf hd (hK.imp (fun z => z) (fun z => ⟨z.1, z.2.1, fun v' a' t hva ha' => z.2.2 v' a' t (by omega) ha'⟩)) hfr
          refine ar_ld i_X7_findDistances_44 rfl rfl ?_
          refine ar_ld i_X7_findDistances_45 rfl rfl ?_
          refine ar_cr i_X7_findDistances_46 rfl ⟨_, _, _, rfl, o1⟩ (Nat.le_of_ble_eq_true rfl) (m_nodes (d + 1) o1) ?_
          refine ar_iff i_X7_findDistances_49 rfl (nI_ge hvk (by omega)) ?_
          rcases hL with e | ⟨u, e⟩ | ⟨u, w, e⟩
          · subst e
            refine ar_push i_X7_findDistances_52 ?_
            refine ar_st i_X7_findDistances_53 rfl rfl ?_
            exact start [] (Or.inl rfl)
          · subst e
            refine ar_push i_X7_findDistances_52 ?_
            refine ar_st i_X7_findDistances_53 rfl rfl ?_
            exact start [] (Or.inl rfl)
          · subst e
            refine ar_push i_X7_findDistances_52 ?_
            refine ar_st i_X7_findDistances_53 rfl rfl ?_
            exact start [(5, .int w)] (Or.inr ⟨_, rfl⟩)
      have start := fun L hL => mid (kk ^ 4) 0 S1 D f 0 L (by omega) hL o1 re r4 hf hd (Or.inr ⟨rfl, hs1, fun v' a' t hv' => absurd hv' (Nat.not_lt_zero v')⟩) hfr
      refine ar_ld i_X7_findDistances_36 rfl rfl ?_
      refine ar_iff i_X7_findDistances_37 rfl ((by decide)) ?_
      rcases hL with e | ⟨u, e⟩ | ⟨u, v, e⟩ | ⟨u, v, w, e⟩
      · subst e
        refine ar_push i_X7_findDistances_40 ?_
        refine ar_st i_X7_findDistances_41 rfl rfl ?_
        refine ar_push i_X7_findDistances_42 ?_
        refine ar_st i_X7_findDistances_43 rfl rfl ?_
        exact start [] (Or.inl rfl)
      · subst e
        refine ar_push i_X7_findDistances_40 ?_
        refine ar_st i_X7_findDistances_41 rfl rfl ?_
        refine ar_push i_X7_findDistances_42 ?_
        refine ar_st i_X7_findDistances_43 rfl rfl ?_
        exact start [] (Or.inl rfl)
      · subst e
        refine ar_push i_X7_findDistances_40 ?_
        refine ar_st i_X7_findDistances_41 rfl rfl ?_
        refine ar_push i_X7_findDistances_42 ?_
        refine ar_st i_X7_findDistances_43 rfl rfl ?_
        exact start [(4, .int v)] (Or.inr (Or.inl ⟨_, rfl⟩))
      · subst e
        refine ar_push i_X7_findDistances_40 ?_
        refine ar_st i_X7_findDistances_41 rfl rfl ?_
        refine ar_push i_X7_findDistances_42 ?_
        refine ar_st i_X7_findDistances_43 rfl rfl ?_
        exact start [(4, .int v), (5, .int w)] (Or.inr (Or.inr ⟨_, _, rfl⟩))
  refine ar_push i_X7_findDistances_0 ?_
  refine ar_st i_X7_findDistances_1 rfl rfl ?_
  suffices ph1 : ∀ j i (S1 : aq_S) (f : Nat → Int32), i + j = kk ^ 4 → mO S1 th (nI kk) il err rd tl pc lo cur hs sv → ba S1 61 243 fe → ia S1 64 81 f → (∀ w, w < i → f w = nI (if w = v0 then 0 else 1000)) → aq_fr S S1 (fun q => q = 64) → aG (d + 3) 195 (fun o S' => o = .inl none ∧ (∃ D f, ia S' 64 81 f ∧ dsOk lo kk c pn pg v0 D ∧ ∀ w, w < kk ^ 4 → f w = nI (D w)) ∧ aq_fr S S' (fun q => q = 64)) 2 [(0, .ref 52), (1, .int (nI v0)), (2, .int (nI i))] [] S1 from ph1 (kk ^ 4) 0 S d0 (by omega) hO hre hr4 (fun w hw => absurd hw (Nat.not_lt_zero w)) aq_fr.rf
  intro j
  induction j with
  | zero =>
    intro i S1 f hi o1 re r4 hag hfr
    refine ar_ld i_X7_findDistances_2 rfl rfl ?_
    refine ar_ld i_X7_findDistances_3 rfl rfl ?_
    refine ar_cr i_X7_findDistances_4 rfl ⟨_, _, _, rfl, o1⟩ (Nat.le_of_ble_eq_true rfl) (m_nodes (d + 1) o1) ?_
    refine ar_ift i_X7_findDistances_7 rfl (nI_le (show kk ^ 4 ≤ i by omega) (by omega)) ?_
    refine ar_push i_X7_findDistances_34 ?_
    refine ar_st i_X7_findDistances_35 rfl rfl ?_
    refine outer _ S1 (fun w => if w = v0 then 0 else 1000) f [] (Nat.le_refl _) (Or.inl rfl) o1 re r4 (fun w hw => hag w (by omega)) ⟨fun w _ => ?_, if_pos rfl, fun w _ hd => ?_⟩ hfr
    · by_cases e : w = v0
      · show (if w = v0 then 0 else 1000) ≤ 1000
        rw [if_pos e]; omega
      · show (if w = v0 then 0 else 1000) ≤ 1000
        rw [if_neg e]; omega
    · have hd : (if w = v0 then 0 else 1000) < 1000 := hd
      by_cases e : w = v0
      · subst e
        have e2 : (if w = w then 0 else 1000) = 0 := if_pos rfl
        show ∃ m, m < kk ^ (if w = w then 0 else 1000) ∧ gw kk (tgR lo kk c pn pg) (if w = w then 0 else 1000) m w = some w
        rw [e2]
        exact ⟨0, Nat.one_pos, rfl⟩
      · rw [if_neg e] at hd
        omega
  | succ j ih =>
    intro i S1 f hi o1 re r4 hag hfr
    have fin : ∀ x : Int32, x = nI (if i = v0 then 0 else 1000) → aG (d + 3) 195 (fun o S' => o = .inl none ∧ (∃ D f, ia S' 64 81 f ∧ dsOk lo kk c pn pg v0 D ∧ ∀ w, w < kk ^ 4 → f w = nI (D w)) ∧ aq_fr S S' (fun q => q = 64)) 27 [(0, .ref 52), (1, .int (nI v0)), (2, .int (nI i))] [.int x, .int (nI i), .ref 64] S1 := by
      intro x hx
      refine av_sti i_X7_findDistances_27 (by omega) (r4) (by omega) (by omega) (fun S2 g2 k2 => ?_)
      refine ar_inc i_X7_findDistances_28 rfl rfl ?_
      refine ar_go i_X7_findDistances_31 ?_
      rw [nI_1]
      exact ih (i + 1) S2 _ (by omega) (o1.fr k2 (by omega)) (re.fr k2 (by omega)) g2 (fun w hw => by
        by_cases e : w = i
        · rw [e, upd_eq]; exact hx
        · rw [upd_ne e]; exact hag w (by omega)) (hfr.tr k2)
    refine ar_ld i_X7_findDistances_2 rfl rfl ?_
    refine ar_ld i_X7_findDistances_3 rfl rfl ?_
    refine ar_cr i_X7_findDistances_4 rfl ⟨_, _, _, rfl, o1⟩ (Nat.le_of_ble_eq_true rfl) (m_nodes (d + 1) o1) ?_
    refine ar_iff i_X7_findDistances_7 rfl (nI_ge (show i < kk ^ 4 by omega) (by omega)) ?_
    refine ar_ld i_X7_findDistances_10 rfl rfl ?_
    refine ar_gf i_X7_findDistances_11 (o1) rfl ?_
    refine ar_ld i_X7_findDistances_14 rfl rfl ?_
    refine ar_ld i_X7_findDistances_15 rfl rfl ?_
    refine ar_ld i_X7_findDistances_16 rfl rfl ?_
    by_cases e : i = v0
    · refine ar_iff i_X7_findDistances_17 rfl (fun z => z (by rw [e])) ?_
      refine ar_push i_X7_findDistances_20 ?_
      refine ar_go i_X7_findDistances_21 ?_
      exact fin 0 (by rw [if_pos e]; rfl)
    · refine ar_ift i_X7_findDistances_17 rfl (fun z => e (nI_inj (by omega) (by omega) z)) ?_
      refine ar_push i_X7_findDistances_24 ?_
      exact fin 1000 (by rw [if_neg e]; rfl)
end
