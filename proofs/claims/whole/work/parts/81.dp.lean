/-! ===== counting words letter by letter ===== -/
section
theorem sumN_add (f g : Nat → Nat) : ∀ n, sumN (fun i => f i + g i) n = sumN f n + sumN g n
  | 0 => rfl
  | n + 1 => by
    show sumN (fun i => f i + g i) n + (f n + g n) = sumN f n + f n + (sumN g n + g n)
    rw [sumN_add f g n]
    omega
theorem pif_and_eq {P : Prop} {x y : Nat} (h : P) : pif (P ∧ x = y) 1 0 = pif (y = x) 1 0 := pif_cg ⟨fun z => z.2.symm, fun z => ⟨h, z.symm⟩⟩
/-- a sum over the classes of a set is a sum over the set -/
theorem sum_cls (c : Nat → Nat) (P : Nat → Prop) (f : Nat → Nat) (sz : Nat) : ∀ M, (∀ m, m < M → P m → f m < sz) → sumN (fun s => c s * cntN (fun m => P m ∧ f m = s) M) sz = sumN (fun m => pif (P m) (c (f m)) 0) M
  | 0, _ => by
    show sumN (fun s => c s * 0) sz = 0
    rw [sumN_cg (g := fun _ => 0) sz (fun i _ => Nat.mul_zero _), sumN_const, Nat.mul_zero]
  | M + 1, h => by
    show sumN (fun s => c s * (cntN (fun m => P m ∧ f m = s) M + pif (P M ∧ f M = s) 1 0)) sz = sumN (fun m => pif (P m) (c (f m)) 0) M + pif (P M) (c (f M)) 0
    rw [sumN_cg (g := fun s => c s * cntN (fun m => P m ∧ f m = s) M + c s * pif (P M ∧ f M = s) 1 0) sz (fun s _ => Nat.mul_add _ _ _), sumN_add, sum_cls c P f sz M (fun m hm => h m (by omega))]
    congr 1
    by_cases hP : P M
    · rw [pif_t hP]
      refine sumN_one (s := f M) ?_ sz (h M (by omega) hP) (fun i _ hne => ?_)
      · show c (f M) * pif (P M ∧ f M = f M) 1 0 = _
        rw [pif_t ⟨hP, rfl⟩, Nat.mul_one]
      · show c i * pif (P M ∧ f M = i) 1 0 = 0
        rw [pif_f (fun z => hne z.2.symm), Nat.mul_zero]
    · rw [pif_f hP, sumN_cg (g := fun _ => 0) sz (fun s _ => by
        show c s * pif (P M ∧ f M = s) 1 0 = 0
        rw [pif_f (fun z => hP z.1), Nat.mul_zero]), sumN_const, Nat.mul_zero]
theorem sum_one (P : Nat → Prop) : ∀ M, sumN (fun m => pif (P m) 1 0) M = cntN P M
  | 0 => rfl
  | M + 1 => by
    show sumN _ M + _ = cntN P M + _
    rw [sum_one P M]
theorem cnt_total (P : Nat → Prop) (f : Nat → Nat) (sz : Nat) (M : Nat) (h : ∀ m, m < M → P m → f m < sz) : sumN (fun s => cntN (fun m => P m ∧ f m = s) M) sz = cntN P M := by
  have := sum_cls (fun _ => 1) P f sz M h
  rw [sum_one] at this
  rw [← this]
  exact sumN_cg sz (fun i _ => (Nat.one_mul _).symm)
/-- one letter more -/
theorem dp_step {k n sz t : Nat} {tg : Nat → Nat → Option Nat} {P P' : Nat → Prop} {f f' : Nat → Nat} {W : Nat → Nat} (hW : ∀ s, s < sz → W s = cntN (fun m => P m ∧ f m = s) (k ^ n)) (hf : ∀ m, m < k ^ n → P m → f m < sz) (hs : ∀ m a, m < k ^ n → a < k → ((P' (m * k + a) ∧ f' (m * k + a) = t) ↔ (P m ∧ tg (f m) a = some t))) : cntN (fun m => P' m ∧ f' m = t) (k ^ (n + 1)) = sumN (fun s => cntN (fun a => tg s a = some t) k * W s) sz := by
  rw [sumN_cg (g := fun s => cntN (fun a => tg s a = some t) k * cntN (fun m => P m ∧ f m = s) (k ^ n)) sz (fun s hs' => by rw [hW s hs']), sum_cls (fun s => cntN (fun a => tg s a = some t) k) P f sz (k ^ n) hf, Nat.pow_succ, cntN_mul]
  refine sumN_cg _ fun m hm => ?_
  by_cases hP : P m
  · rw [pif_t hP]
    exact cntN_cg k fun a ha => (hs m a hm ha).trans ⟨fun z => z.2, fun z => ⟨hP, z⟩⟩
  · rw [pif_f hP]
    exact cntN_no k fun a ha z => hP ((hs m a hm ha).mp z).1
/-- the number of walks of n steps from the state 0 -/
noncomputable def wkN (k sz : Nat) (tg : Nat → Nat → Option Nat) : Nat → Nat → Nat
  | 0, t => if t = 0 then 1 else 0
  | n + 1, t => sumN (fun s => cntN (fun a => tg s a = some t) k * wkN k sz tg n s) sz
/-- the state behind a word -/
def stW (k n m : Nat) : Nat := off k (min n 4) + m % k ^ min n 4
theorem stW_lt {k n m : Nat} (hk : 0 < k) : stW k n m < off k 5 := by
  unfold stW
  have h1 := Nat.mod_lt m (show 0 < k ^ min n 4 from Nat.pow_pos hk)
  have h2 := off_add k (min n 4)
  have h3 := off_mono k (show min n 4 + 1 ≤ 5 by omega)
  omega
theorem stW_step {k n m a : Nat} (ha : a < k) : stW k (n + 1) (m * k + a) = nxS k (min n 4) (m % k ^ min n 4) a := by
  have hk : 0 < k := by omega
  unfold stW nxS
  by_cases h4 : n < 4
  · rw [show min n 4 = n by omega, if_pos h4, show min (n + 1) 4 = n + 1 by omega, modmul ha]
  · rw [show min n 4 = 4 by omega, show min (n + 1) 4 = 4 by omega, if_neg (by omega), ← modmul ha (n := 4)]
    rw [Nat.mod_mod_of_dvd _ (show k ^ 4 ∣ k ^ (4 + 1) from ⟨k, Nat.pow_succ k 4⟩)]
/-- how many words of n letters avoid the patterns, but one -/
noncomputable def acnt (lo : Int32) (k c : Nat) (pn : Nat → Nat) (pg : Nat → Nat → Int32) (n : Nat) : Nat := cntN (fun m => avP lo k c pn pg n m) (k ^ n)
theorem wkN_av {lo : Int32} {k c : Nat} {pn : Nat → Nat} {pg : Nat → Nat → Int32} (h : pOk c pn pg) (hk : 0 < k) : ∀ n t, wkN k (off k 5) (tgG k (alP lo k c pn pg)) n t = cntN (fun m => avP lo k c pn pg n m ∧ stW k n m = t) (k ^ n)
  | 0, t => by
    show (if t = 0 then 1 else 0) = 0 + pif (avP lo k c pn pg 0 0 ∧ stW k 0 0 = t) 1 0
    have e : stW k 0 0 = 0 := by
      show 0 + 0 % k ^ 0 = 0
      rw [Nat.zero_mod]
    rw [Nat.zero_add]
    by_cases ht : t = 0
    · rw [if_pos ht, pif_t ⟨avP_0 h 0, e.trans ht.symm⟩]
    · rw [if_neg ht, pif_f (fun z => ht (z.2.symm.trans e))]
  | n + 1, t => by
    refine (dp_step (P := fun m => avP lo k c pn pg n m) (f := fun m => stW k n m) (fun s _ => wkN_av h hk n s) (fun m _ _ => stW_lt hk) (fun m a hm ha => ?_)).symm
    rw [avP_step h ha, stW_step ha]
    have hu : m % k ^ min n 4 < k ^ min n 4 := Nat.mod_lt _ (Nat.pow_pos hk)
    have e : tgG k (alP lo k c pn pg) (stW k n m) a = pif (alP lo k c pn pg (min n 4) (m % k ^ min n 4) a) (some (nxS k (min n 4) (m % k ^ min n 4) a)) none := tgG_at (by omega) hu
    rw [e]
    by_cases hal : alP lo k c pn pg (min n 4) (m % k ^ min n 4) a
    · rw [pif_t hal]
      exact ⟨fun z => ⟨z.1.1, congrArg some z.2⟩, fun z => ⟨⟨z.1, hal⟩, Option.some.inj z.2⟩⟩
    · rw [pif_f hal]
      exact ⟨fun z => absurd z.1.2 hal, fun z => (by cases z.2)⟩
theorem wkN_tot {lo : Int32} {k c : Nat} {pn : Nat → Nat} {pg : Nat → Nat → Int32} (h : pOk c pn pg) (hk : 0 < k) (hk3 : k ≤ 3) (n : Nat) : sumN (fun t => wkN k (off k 5) (tgG k (alP lo k c pn pg)) n t) 121 = acnt lo k c pn pg n := by
  rw [sumN_cg (g := fun t => cntN (fun m => avP lo k c pn pg n m ∧ stW k n m = t) (k ^ n)) 121 (fun t _ => wkN_av h hk n t)]
  exact cnt_total _ _ 121 _ (fun m _ _ => by
    have := stW_lt (n := n) (m := m) hk
    have := off_5 k (by omega)
    omega)
theorem k_target (d : Nat) {S : aq_S} {k s a : Nat} {tg : Nat → Nat → Option Nat} (h : kG S k tg) (hs : s < off k 5) (ha : a < k) (hk : k ≤ 3) : aX (d + 2) 38 [.ref 31, .int (nI s), .int (nI a)] S (fun o S' => o = .inl (some (.int (tgI (tg s a)))) ∧ S' = S) := by
  obtain ⟨o1, ⟨T, hT, hg⟩, -⟩ := h
  have h5 := off_5 k (by omega)
  refine ar_run (Nat.le_of_ble_eq_true rfl) (fun o S1 h => aq_le_of (aq_le_refl S) h) ?_
  refine ar_ld i_X4_target_0 rfl rfl ?_
  refine ar_gf i_X4_target_1 (o1) rfl ?_
  refine ar_ld i_X4_target_4 rfl rfl ?_
  refine ar_push i_X4_target_5 ?_
  rw [show (3 : Int32) = nI 3 from rfl]
  refine ar_ar i_X4_target_6 rfl ?_
  rw [pk_mul]
  refine ar_ld i_X4_target_7 rfl rfl ?_
  refine ar_ar i_X4_target_8 rfl ?_
  rw [nI_add]
  refine ar_cr i_X4_target_9 rfl trivial (Nat.le_of_ble_eq_true rfl) (k_peek d hT (show s * 3 + a < 363 by omega) (by omega)) ?_
  rw [show s * 3 + a = 3 * s + a by omega, hg s hs a ha]
  exact ar_ret i_X4_target_12 rfl ⟨rfl, rfl⟩
theorem tgI_some {t : Nat} : tgI (some t) = nI t := rfl
theorem kG.fr {S S' : aq_S} {k : Nat} {tg : Nat → Nat → Option Nat} {P : Nat → Prop} (h : kG S k tg) (q : aq_fr S S' P) (h1 : ¬ P 31) (h2 : ¬ P 32) (h3 : ¬ P 33) : kG S' k tg := by
  obtain ⟨o1, ⟨T, hT, hg⟩, l, hl, hg2⟩ := h
  exact ⟨o1.fr q h1, ⟨T, hT.fr q h2, hg⟩, l, hl.fr q h3, hg2⟩
theorem k_countOneMore (d : Nat) {S : aq_S} {k : Nat} {tg : Nat → Nat → Option Nat} {W : Nat → Nat} {cn nc : Nat → Int64} (h : kG S k tg) (hk : k ≤ 3) (htg : ∀ s a t, tg s a = some t → t < off k 5) (h1 : la S 40 121 cn) (h2 : la S 41 121 nc) (hW : ∀ s, s < 121 → cn s = lN (W s)) : aX (d + 3) 42 [.ref 31] S (fun o S' => o = .inl none ∧ (∃ cn', la S' 40 121 cn' ∧ (∀ t, t < 121 → cn' t = lN (sumN (fun s => cntN (fun a => tg s a = some t) k * W s) (off k 5))) ∧ ∃ nc', la S' 41 121 nc') ∧ aq_fr S S' (fun q => q = 40 ∨ q = 41)) := by
  have h5 := off_5 k (by omega)
  refine ar_run (Nat.le_of_ble_eq_true rfl) (fun o S1 h => h.2.2.le) ?_
  refine ar_push i_X4_countOneMore_0 ?_
  refine ar_st i_X4_countOneMore_1 rfl rfl ?_
  have ph3 : ∀ j i (S1 : aq_S) (cn nc : Nat → Int64) (L : List (Nat × Value)), i + j = 121 → (L = [] ∨ (∃ v, L = [(2, .int v)]) ∨ ∃ v u, L = [(2, .int v), (3, .int u)]) → kG S1 k tg → la S1 40 121 cn → la S1 41 121 nc → (∀ t, t < 121 → nc t = lN (sumN (fun s => cntN (fun a => tg s a = some t) k * W s) (off k 5))) → (∀ t, t < i → cn t = nc t) → aq_fr S S1 (fun q => q = 40 ∨ q = 41) → aG (d + 2) 42 (fun o S' => o = .inl none ∧ (∃ cn', la S' 40 121 cn' ∧ (∀ t, t < 121 → cn' t = lN (sumN (fun s => cntN (fun a => tg s a = some t) k * W s) (off k 5))) ∧ ∃ nc', la S' 41 121 nc') ∧ aq_fr S S' (fun q => q = 40 ∨ q = 41)) 113 ((0, .ref 31) :: (1, .int (nI i)) :: L) [] S1 := by
    intro j
    induction j with
    | zero =>
      intro i S1 cn nc L hi hL hG h1 h2 hn hag hfr
      refine ar_ld i_X4_countOneMore_113 rfl rfl ?_
      refine ar_ld i_X4_countOneMore_114 rfl rfl ?_
      refine ar_gf i_X4_countOneMore_115 (hG.1) rfl ?_
      refine ar_len i_X4_countOneMore_118 (by decide) (h1) ?_
      refine ar_ift i_X4_countOneMore_119 rfl (nI_le (a := 121) (by omega) (by omega)) ?_
      exact ar_retv i_X4_countOneMore_149 ⟨rfl, ⟨cn, h1, fun t ht => by rw [hag t (by omega)]; exact hn t ht, nc, h2⟩, hfr⟩
    | succ j ih =>
      intro i S1 cn nc L hi hL hG h1 h2 hn hag hfr
      refine ar_ld i_X4_countOneMore_113 rfl rfl ?_
      refine ar_ld i_X4_countOneMore_114 rfl rfl ?_
      refine ar_gf i_X4_countOneMore_115 (hG.1) rfl ?_
      refine ar_len i_X4_countOneMore_118 (by decide) (h1) ?_
      refine ar_iff i_X4_countOneMore_119 rfl (nI_ge (b := 121) (by omega) (by omega)) ?_
      refine ar_ld i_X4_countOneMore_122 rfl rfl ?_
      refine ar_ld i_X4_countOneMore_123 rfl rfl ?_
      refine ar_gf i_X4_countOneMore_124 (hG.1) rfl ?_
      refine ar_len i_X4_countOneMore_127 (by decide) (h2) ?_
      refine ar_iff i_X4_countOneMore_128 rfl (nI_ge (b := 121) (by omega) (by omega)) ?_
      refine ar_ld i_X4_countOneMore_131 rfl rfl ?_
      refine ar_gf i_X4_countOneMore_132 (hG.1) rfl ?_
      refine ar_ld i_X4_countOneMore_135 rfl rfl ?_
      refine ar_ld i_X4_countOneMore_136 rfl rfl ?_
      refine ar_gf i_X4_countOneMore_137 (hG.1) rfl ?_
      refine ar_ld i_X4_countOneMore_140 rfl rfl ?_
      refine av_ldl i_X4_countOneMore_141 (h2) (by omega) (by omega) ?_
      refine av_stl i_X4_countOneMore_142 (by omega) (h1) (by omega) (by omega) (fun S2 g2 k2 => ?_)
      refine ar_inc i_X4_countOneMore_143 rfl rfl ?_
      refine ar_go i_X4_countOneMore_146 ?_
      have := ih (i + 1) S2 _ nc L (by omega) hL (hG.fr k2 (by omega) (by omega) (by omega)) g2 (h2.fr k2 (by omega)) hn (fun t ht => by
        by_cases e : t = i
        · rw [e, vp_updL_eq]
        · rw [vp_updL_ne e]; exact hag t (by omega)) (hfr.tr (k2.mono (fun q z => Or.inl z)))
      rw [← nI_1 i] at this
      rcases hL with e | ⟨v, e⟩ | ⟨v, u, e⟩ <;> subst e <;> exact this
  have ph2 : ∀ j s (S1 : aq_S) (nc : Nat → Int64) (L : List (Nat × Value)), s + j = off k 5 → (L = [] ∨ (∃ v, L = [(2, .int v)]) ∨ ∃ v u, L = [(2, .int v), (3, .int u)]) → kG S1 k tg → la S1 40 121 cn → la S1 41 121 nc → (∀ t, t < 121 → nc t = lN (sumN (fun s => cntN (fun a => tg s a = some t) k * W s) s)) → aq_fr S S1 (fun q => q = 40 ∨ q = 41) → aG (d + 2) 42 (fun o S' => o = .inl none ∧ (∃ cn', la S' 40 121 cn' ∧ (∀ t, t < 121 → cn' t = lN (sumN (fun s => cntN (fun a => tg s a = some t) k * W s) (off k 5))) ∧ ∃ nc', la S' 41 121 nc') ∧ aq_fr S S' (fun q => q = 40 ∨ q = 41)) 26 ((0, .ref 31) :: (1, .int (nI s)) :: L) [] S1 := by
    intro j
    induction j with
    | zero =>
      intro s S1 nc L hs hL hG h1 h2 hn hfr
      have es : s = off k 5 := hs
      subst es
      refine ar_ld i_X4_countOneMore_26 rfl rfl ?_
      refine ar_ld i_X4_countOneMore_27 rfl rfl ?_
      refine ar_gf i_X4_countOneMore_28 (hG.1) rfl ?_
      refine ar_ift i_X4_countOneMore_31 rfl (nI_le (Nat.le_refl _) (by omega)) ?_
      refine ar_push i_X4_countOneMore_111 ?_
      refine ar_st i_X4_countOneMore_112 rfl rfl ?_
      rcases hL with e | ⟨v, e⟩ | ⟨v, u, e⟩ <;> subst e <;> exact ph3 121 0 S1 cn nc _ (by omega) (by first | exact Or.inl rfl | exact Or.inr (Or.inl ⟨_, rfl⟩) | exact Or.inr (Or.inr ⟨_, _, rfl⟩)) hG h1 h2 hn (fun t ht => absurd ht (Nat.not_lt_zero t)) hfr
    | succ j ih =>
      intro s S1 nc L hs hL hG h1 h2 hn hfr
      have inner : ∀ jj a (S1 : aq_S) (nc : Nat → Int64) (L3 : List (Nat × Value)), a + jj = k → (L3 = [] ∨ ∃ u, L3 = [(3, .int u)]) → kG S1 k tg → la S1 40 121 cn → la S1 41 121 nc → (∀ t, t < 121 → nc t = lN (sumN (fun s => cntN (fun a => tg s a = some t) k * W s) s + cntN (fun a => tg s a = some t) a * W s)) → aq_fr S S1 (fun q => q = 40 ∨ q = 41) → aG (d + 2) 42 (fun o S' => o = .inl none ∧ (∃ cn', la S' 40 121 cn' ∧ (∀ t, t < 121 → cn' t = lN (sumN (fun s => cntN (fun a => tg s a = some t) k * W s) (off k 5))) ∧ ∃ nc', la S' 41 121 nc') ∧ aq_fr S S' (fun q => q = 40 ∨ q = 41)) 45 ((0, .ref 31) :: (1, .int (nI s)) :: (2, .int (nI a)) :: L3) [] S1 := by
        intro jj
        induction jj with
        | zero =>
          intro a S1 nc L3 ha hL3 hG h1 h2 hn hfr
          have ea : a = k := ha
          subst ea
          refine ar_ld i_X4_countOneMore_45 rfl rfl ?_
          refine ar_ld i_X4_countOneMore_46 rfl rfl ?_
          refine ar_gf i_X4_countOneMore_47 (hG.1) rfl ?_
          refine ar_ift i_X4_countOneMore_50 rfl (nI_le (Nat.le_refl _) (by omega)) ?_
          refine ar_inc i_X4_countOneMore_105 rfl rfl ?_
          refine ar_go i_X4_countOneMore_108 ?_
          have := ih (s + 1) S1 nc ((2, .int (nI a)) :: L3) (by omega) (by
            rcases hL3 with e | ⟨u, e⟩
            · exact Or.inr (Or.inl ⟨_, by rw [e]⟩)
            · exact Or.inr (Or.inr ⟨_, _, by rw [e]⟩)) hG h1 h2 hn hfr
          rw [← nI_1 s] at this
          rcases hL3 with e | ⟨u, e⟩ <;> subst e <;> exact this
        | succ jj ihj =>
          intro a S1 nc L3 ha hL3 hG h1 h2 hn hfr
          refine ar_ld i_X4_countOneMore_45 rfl rfl ?_
          refine ar_ld i_X4_countOneMore_46 rfl rfl ?_
          refine ar_gf i_X4_countOneMore_47 (hG.1) rfl ?_
          refine ar_iff i_X4_countOneMore_50 rfl (nI_ge (show a < k by omega) (by omega)) ?_
          refine ar_ld i_X4_countOneMore_53 rfl rfl ?_
          refine ar_gf i_X4_countOneMore_54 (hG.1) rfl ?_
          refine ar_ld i_X4_countOneMore_57 rfl rfl ?_
          refine av_ldl i_X4_countOneMore_58 (h1) (by omega) (by omega) ?_
          rw [hW s (by omega)]
          refine ar_push i_X4_countOneMore_59 ?_
          refine ar_ar i_X4_countOneMore_60 rfl ?_
          by_cases hz : lN (W s) = 0
          · refine ar_ift i_X4_countOneMore_61 rfl ((lg_cmp_eq _ _).mpr hz) ?_
            refine ar_inc i_X4_countOneMore_105 rfl rfl ?_
            refine ar_go i_X4_countOneMore_108 ?_
            have hz2 : ∀ x y, lN (x + y * W s) = lN x := fun x y => by
              rw [← lN_add, ← lN_mul, hz, Int64.mul_zero, Int64.add_zero]
            have := ih (s + 1) S1 nc ((2, .int (nI a)) :: L3) (by omega) (by
              rcases hL3 with e | ⟨u, e⟩
              · exact Or.inr (Or.inl ⟨_, by rw [e]⟩)
              · exact Or.inr (Or.inr ⟨_, _, by rw [e]⟩)) hG h1 h2 (fun t ht => by
              rw [hn t ht, hz2]
              exact (hz2 _ _).symm) hfr
            rw [← nI_1 s] at this
            rcases hL3 with e | ⟨u, e⟩ <;> subst e <;> exact this
          · refine ar_iff i_X4_countOneMore_61 rfl (fun z => hz ((lg_cmp_eq _ _).mp z)) ?_
            refine ar_ld i_X4_countOneMore_64 rfl rfl ?_
            refine ar_ld i_X4_countOneMore_65 rfl rfl ?_
            refine ar_ld i_X4_countOneMore_66 rfl rfl ?_
            refine ar_cr i_X4_countOneMore_67 rfl ⟨_, _, _, rfl, (hG.1)⟩ (Nat.le_of_ble_eq_true rfl) (k_target d hG (show s < off k 5 by omega) (show a < k by omega) hk) ?_
            have nxt : ∀ (S2 : aq_S) (nc2 : Nat → Int64) (u : Int32), kG S2 k tg → la S2 40 121 cn → la S2 41 121 nc2 → (∀ t, t < 121 → nc2 t = lN (sumN (fun s => cntN (fun a => tg s a = some t) k * W s) s + cntN (fun a => tg s a = some t) (a + 1) * W s)) → aq_fr S S2 (fun q => q = 40 ∨ q = 41) → aG (d + 2) 42 (fun o S' => o = .inl none ∧ (∃ cn', la S' 40 121 cn' ∧ (∀ t, t < 121 → cn' t = lN (sumN (fun s => cntN (fun a => tg s a = some t) k * W s) (off k 5))) ∧ ∃ nc', la S' 41 121 nc') ∧ aq_fr S S' (fun q => q = 40 ∨ q = 41)) 99 [(0, .ref 31), (1, .int (nI s)), (2, .int (nI a)), (3, .int u)] [] S2 := by
              intro S2 nc2 u hG h1 h2 hn hfr
              refine ar_inc i_X4_countOneMore_99 rfl rfl ?_
              refine ar_go i_X4_countOneMore_102 ?_
              have := ihj (a + 1) S2 nc2 [(3, .int u)] (by omega) (Or.inr ⟨_, rfl⟩) hG h1 h2 hn hfr
              rw [← nI_1 a] at this
              exact this
            have body : aG (d + 2) 42 (fun o S' => o = .inl none ∧ (∃ cn', la S' 40 121 cn' ∧ (∀ t, t < 121 → cn' t = lN (sumN (fun s => cntN (fun a => tg s a = some t) k * W s) (off k 5))) ∧ ∃ nc', la S' 41 121 nc') ∧ aq_fr S S' (fun q => q = 40 ∨ q = 41)) 71 [(0, .ref 31), (1, .int (nI s)), (2, .int (nI a)), (3, .int (tgI (tg s a)))] [] S1 := by
              cases ht : tg s a with
              | none =>
                refine ar_ld i_X4_countOneMore_71 rfl rfl ?_
                refine ar_ift i_X4_countOneMore_72 rfl (by decide) ?_
                exact nxt S1 nc _ hG h1 h2 (fun t ht2 => by
                  rw [hn t ht2, cntN_n (p := fun a => tg s a = some t) (by rw [ht]; exact fun z => (by cases z))]) hfr
              | some t0 =>
                have ht0 := htg s a t0 ht
                rw [tgI_some]
                refine ar_ld i_X4_countOneMore_71 rfl rfl ?_
                refine ar_iff i_X4_countOneMore_72 rfl (nI_pos (by omega)) ?_
                refine ar_ld i_X4_countOneMore_75 rfl rfl ?_
                refine ar_ld i_X4_countOneMore_76 rfl rfl ?_
                refine ar_gf i_X4_countOneMore_77 (hG.1) rfl ?_
                refine ar_len i_X4_countOneMore_80 (by decide) (h2) ?_
                refine ar_iff i_X4_countOneMore_81 rfl (nI_ge (a := t0) (b := 121) (by omega) (by omega)) ?_
                refine ar_ld i_X4_countOneMore_84 rfl rfl ?_
                refine ar_gf i_X4_countOneMore_85 (hG.1) rfl ?_
                refine ar_ld i_X4_countOneMore_88 rfl rfl ?_
                refine ar_ar i_X4_countOneMore_89 rfl ?_
                refine av_ldl i_X4_countOneMore_90 (h2) (by omega) (by omega) ?_
                refine ar_ld i_X4_countOneMore_91 rfl rfl ?_
                refine ar_gf i_X4_countOneMore_92 (hG.1) rfl ?_
                refine ar_ld i_X4_countOneMore_95 rfl rfl ?_
                refine av_ldl i_X4_countOneMore_96 (h1) (by omega) (by omega) ?_
                rw [hW s (by omega), hn t0 (by omega)]
                refine ar_ar i_X4_countOneMore_97 rfl ?_
                rw [lN_add]
                refine av_stl i_X4_countOneMore_98 (by omega) (h2) (by omega) (by omega) (fun S2 g2 k2 => ?_)
                exact nxt S2 _ _ (hG.fr k2 (by omega) (by omega) (by omega)) (h1.fr k2 (by omega)) g2 (fun t ht2 => by
                  by_cases e : t = t0
                  · subst e
                    rw [vp_updL_eq, cntN_y (p := fun a => tg s a = some t) ht, Nat.add_mul, Nat.one_mul, Nat.add_assoc]
                  · rw [vp_updL_ne e, hn t ht2, cntN_n (p := fun a => tg s a = some t) (by rw [ht]; exact fun z => e (Option.some.inj z).symm)]) (hfr.tr (k2.mono (fun q z => Or.inr z)))
            rcases hL3 with e | ⟨u, e⟩
            · subst e
              refine ar_st i_X4_countOneMore_70 rfl rfl ?_
              exact body
            · subst e
              refine ar_st i_X4_countOneMore_70 rfl rfl ?_
              exact body
      have start := fun L3 hL3 => inner k 0 S1 nc L3 (by omega) hL3 hG h1 h2 (fun t ht => by rw [hn t ht]; show _ = lN (_ + 0 * W s); rw [Nat.zero_mul]; rfl) hfr
      rcases hL with e | ⟨v, e⟩ | ⟨v, u, e⟩
      · subst e
        refine ar_ld i_X4_countOneMore_26 rfl rfl ?_
        refine ar_ld i_X4_countOneMore_27 rfl rfl ?_
        refine ar_gf i_X4_countOneMore_28 (hG.1) rfl ?_
        refine ar_iff i_X4_countOneMore_31 rfl (nI_ge (show s < off k 5 by omega) (by omega)) ?_
        refine ar_ld i_X4_countOneMore_34 rfl rfl ?_
        refine ar_ld i_X4_countOneMore_35 rfl rfl ?_
        refine ar_gf i_X4_countOneMore_36 (hG.1) rfl ?_
        refine ar_len i_X4_countOneMore_39 (by decide) (h1) ?_
        refine ar_iff i_X4_countOneMore_40 rfl (nI_ge (a := s) (b := 121) (by omega) (by omega)) ?_
        refine ar_push i_X4_countOneMore_43 ?_
        refine ar_st i_X4_countOneMore_44 rfl rfl ?_
        exact start [] (Or.inl rfl)
      · subst e
        refine ar_ld i_X4_countOneMore_26 rfl rfl ?_
        refine ar_ld i_X4_countOneMore_27 rfl rfl ?_
        refine ar_gf i_X4_countOneMore_28 (hG.1) rfl ?_
        refine ar_iff i_X4_countOneMore_31 rfl (nI_ge (show s < off k 5 by omega) (by omega)) ?_
        refine ar_ld i_X4_countOneMore_34 rfl rfl ?_
        refine ar_ld i_X4_countOneMore_35 rfl rfl ?_
        refine ar_gf i_X4_countOneMore_36 (hG.1) rfl ?_
        refine ar_len i_X4_countOneMore_39 (by decide) (h1) ?_
        refine ar_iff i_X4_countOneMore_40 rfl (nI_ge (a := s) (b := 121) (by omega) (by omega)) ?_
        refine ar_push i_X4_countOneMore_43 ?_
        refine ar_st i_X4_countOneMore_44 rfl rfl ?_
        exact start [] (Or.inl rfl)
      · subst e
        refine ar_ld i_X4_countOneMore_26 rfl rfl ?_
        refine ar_ld i_X4_countOneMore_27 rfl rfl ?_
        refine ar_gf i_X4_countOneMore_28 (hG.1) rfl ?_
        refine ar_iff i_X4_countOneMore_31 rfl (nI_ge (show s < off k 5 by omega) (by omega)) ?_
        refine ar_ld i_X4_countOneMore_34 rfl rfl ?_
        refine ar_ld i_X4_countOneMore_35 rfl rfl ?_
        refine ar_gf i_X4_countOneMore_36 (hG.1) rfl ?_
        refine ar_len i_X4_countOneMore_39 (by decide) (h1) ?_
        refine ar_iff i_X4_countOneMore_40 rfl (nI_ge (a := s) (b := 121) (by omega) (by omega)) ?_
        refine ar_push i_X4_countOneMore_43 ?_
        refine ar_st i_X4_countOneMore_44 rfl rfl ?_
        exact start [(3, .int u)] (Or.inr ⟨_, rfl⟩)
  suffices ph1 : ∀ j i (S1 : aq_S) (nc : Nat → Int64), i + j = 121 → kG S1 k tg → la S1 40 121 cn → la S1 41 121 nc → (∀ t, t < i → nc t = 0) → aq_fr S S1 (fun q => q = 40 ∨ q = 41) → aG (d + 2) 42 (fun o S' => o = .inl none ∧ (∃ cn', la S' 40 121 cn' ∧ (∀ t, t < 121 → cn' t = lN (sumN (fun s => cntN (fun a => tg s a = some t) k * W s) (off k 5))) ∧ ∃ nc', la S' 41 121 nc') ∧ aq_fr S S' (fun q => q = 40 ∨ q = 41)) 2 [(0, .ref 31), (1, .int (nI i))] [] S1 from ph1 121 0 S nc (by omega) h h1 h2 (fun t ht => absurd ht (Nat.not_lt_zero t)) aq_fr.rf
  intro j
  induction j with
  | zero =>
    intro i S1 nc hi hG h1 h2 hag hfr
    refine ar_ld i_X4_countOneMore_2 rfl rfl ?_
    refine ar_ld i_X4_countOneMore_3 rfl rfl ?_
    refine ar_gf i_X4_countOneMore_4 (hG.1) rfl ?_
    refine ar_len i_X4_countOneMore_7 (by decide) (h2) ?_
    refine ar_ift i_X4_countOneMore_8 rfl (nI_le (a := 121) (by omega) (by omega)) ?_
    refine ar_push i_X4_countOneMore_24 ?_
    refine ar_st i_X4_countOneMore_25 rfl rfl ?_
    exact ph2 (off k 5) 0 S1 nc [] (by omega) (Or.inl rfl) hG h1 h2 (fun t ht => hag t (by omega)) hfr
  | succ j ih =>
    intro i S1 nc hi hG h1 h2 hag hfr
    refine ar_ld i_X4_countOneMore_2 rfl rfl ?_
    refine ar_ld i_X4_countOneMore_3 rfl rfl ?_
    refine ar_gf i_X4_countOneMore_4 (hG.1) rfl ?_
    refine ar_len i_X4_countOneMore_7 (by decide) (h2) ?_
    refine ar_iff i_X4_countOneMore_8 rfl (nI_ge (b := 121) (by omega) (by omega)) ?_
    refine ar_ld i_X4_countOneMore_11 rfl rfl ?_
    refine ar_gf i_X4_countOneMore_12 (hG.1) rfl ?_
    refine ar_ld i_X4_countOneMore_15 rfl rfl ?_
    refine ar_push i_X4_countOneMore_16 ?_
    refine av_stl i_X4_countOneMore_17 (by omega) (h2) (by omega) (by omega) (fun S2 g2 k2 => ?_)
    refine ar_inc i_X4_countOneMore_18 rfl rfl ?_
    refine ar_go i_X4_countOneMore_21 ?_
    have := ih (i + 1) S2 _ (by omega) (hG.fr k2 (by omega) (by omega) (by omega)) (h1.fr k2 (by omega)) g2 (fun t ht => by
      by_cases e : t = i
      · rw [e, vp_updL_eq]
      · rw [vp_updL_ne e]; exact hag t (by omega)) (hfr.tr (k2.mono (fun q z => Or.inr z)))
    rw [← nI_1 i] at this
    exact this
end
