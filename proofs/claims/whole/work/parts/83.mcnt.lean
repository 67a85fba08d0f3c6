/-! ===== the reference: its graph, countAvoiding ===== -/
section
/-- a row of booleans -/
def ba (S : aq_S) (a m : Nat) (f : Nat → Int32) : Prop := S.2.2.2 a = some (.inl (3, (m, .inl f)))
theorem ba.fr {S S' : aq_S} {a m : Nat} {f : Nat → Int32} {P : Nat → Prop} (h : ba S a m f) (q : aq_fr S S' P) (h1 : ¬ P a) : ba S' a m f := (q.2.2.2 a h1).trans h
/-- the rows of the reference's graph, whatever they hold -/
def mGr (S : aq_S) : Prop := (∃ f, ba S 60 81 f) ∧ (∃ f, ba S 61 243 f) ∧ (∃ f, la S 62 81 f) ∧ (∃ f, la S 63 81 f) ∧ (∃ f, ia S 64 81 f) ∧ (∃ f, ia S 65 40 f) ∧ ∃ f, ia S 66 40 f
theorem pw4 : ∀ k, k < 4 → k ^ 4 ≤ 81 := by decide
theorem m_nodes (d : Nat) {S : aq_S} {kk : Nat} {th il err rd tl pc lo cur hs sv : Int32} (h : mO S th (nI kk) il err rd tl pc lo cur hs sv) : aX (d + 2) 184 [.ref 52] S (fun o S' => o = .inl (some (.int (nI (kk ^ 4)))) ∧ S' = S) := by
  refine ar_run (Nat.le_of_ble_eq_true rfl) (fun o S1 h => aq_le_of (aq_le_refl S) h) ?_
  refine ar_ld i_X7_nodes_0 rfl rfl ?_
  refine ar_push i_X7_nodes_1 ?_
  refine ar_cr i_X7_nodes_2 rfl ⟨_, _, _, rfl, h⟩ (Nat.le_of_ble_eq_true rfl) (m_power d h (e := 4) (by omega)) ?_
  exact ar_ret i_X7_nodes_5 rfl ⟨rfl, rfl⟩
theorem m_behind (d : Nat) {S : aq_S} {kk v a : Nat} {th il err rd tl pc lo cur hs sv : Int32} (h : mO S th (nI kk) il err rd tl pc lo cur hs sv) (hk0 : 0 < kk) (hk : kk ≤ 3) (hv : v < kk ^ 4) (ha : a < kk) : aX (d + 3) 185 [.ref 52, .int (nI v), .int (nI a)] S (fun o S' => o = .inl (some (.int (nI ((v * kk + a) % kk ^ 4)))) ∧ S' = S) := by
  have h4 := pw4 kk (by omega)
  have hp : 0 < kk ^ 4 := Nat.pow_pos hk0
  have hvk : v * kk ≤ 81 * 3 := Nat.mul_le_mul (by omega) hk
  refine ar_run (Nat.le_of_ble_eq_true rfl) (fun o S1 h => aq_le_of (aq_le_refl S) h) ?_
  refine ar_ld i_X7_behind_0 rfl rfl ?_
  refine ar_ld i_X7_behind_1 rfl rfl ?_
  refine ar_gf i_X7_behind_2 (h) rfl ?_
  refine ar_ar i_X7_behind_5 rfl ?_
  rw [pk_mul]
  refine ar_ld i_X7_behind_6 rfl rfl ?_
  refine ar_ar i_X7_behind_7 rfl ?_
  rw [nI_add]
  refine ar_ld i_X7_behind_8 rfl rfl ?_
  refine ar_cr i_X7_behind_9 rfl ⟨_, _, _, rfl, h⟩ (Nat.le_of_ble_eq_true rfl) (m_nodes d h) ?_
  refine ar_arc i_X7_behind_12 rfl (nI_ne0 hp (by omega)) ?_
  rw [pk_rem (by omega) hp (by omega)]
  exact ar_ret i_X7_behind_13 rfl ⟨rfl, rfl⟩
/-- the suffix of a word that avoids the patterns -/
theorem avP_tail {lo : Int32} {k c : Nat} {pn : Nat → Nat} {pg : Nat → Nat → Int32} {n m j : Nat} (hk : 0 < k) (hj : j ≤ n) (h : avP lo k c pn pg n m) : avP lo k c pn pg j (m % k ^ j) := by
  intro i hi hl p hp
  obtain ⟨x, hx, hd⟩ := h i hi hl (n - j + p) (by omega)
  refine ⟨x, hx, ?_⟩
  rw [wlet_tail hk hj (by omega), show n - j + (p + x) = n - j + p + x by omega]
  exact hd
theorem m_findGraph (d : Nat) {S : aq_S} {kk c : Nat} {fp : Nat → Int32} {pn : Nat → Nat} {pg : Nat → Nat → Int32} {th il err rd tl lo cur hs sv : Int32} (h : mO S th (nI kk) il err rd tl (nI c) lo cur hs sv) (hp : mPt S c pn pg) (hpk : pOk c pn pg) (w5 : ia S 55 40 fp) {n0 e0 : Nat → Int32} (r1 : ba S 60 81 n0) (r2 : ba S 61 243 e0) (hk0 : 0 < kk) (hk : kk ≤ 3) : aX (d + 3) 186 [.ref 52] S (fun o S' => o = .inl none ∧ ((∃ fn, ba S' 60 81 fn ∧ ∀ v, v < kk ^ 4 → fn v = bI (avP lo kk c pn pg 4 v)) ∧ (∃ fe, ba S' 61 243 fe ∧ ∀ v, v < kk ^ 4 → ∀ a, a < kk → fe (3 * v + a) = bI (avP lo kk c pn pg 5 (v * kk + a))) ∧ ∃ F, ia S' 55 40 F) ∧ aq_fr S S' (fun q => q = 55 ∨ q = 60 ∨ q = 61)) := by
  have h4 := pw4 kk (by omega)
  refine ar_run (Nat.le_of_ble_eq_true rfl) (fun o S1 h => h.2.2.le) ?_
  refine ar_push i_X7_findGraph_0 ?_
  refine ar_st i_X7_findGraph_1 rfl rfl ?_
  suffices key : ∀ j v (S1 : aq_S) (F fn fe : Nat → Int32) (L : List (Nat × Value)), v + j = kk ^ 4 → (L = [] ∨ ∃ u, L = [(2, .int u)]) → mO S1 th (nI kk) il err rd tl (nI c) lo cur hs sv → mPt S1 c pn pg → ia S1 55 40 F → ba S1 60 81 fn → ba S1 61 243 fe → (∀ x, x < v → fn x = bI (avP lo kk c pn pg 4 x)) → (∀ x, x < v → ∀ a, a < kk → fe (3 * x + a) = bI (avP lo kk c pn pg 5 (x * kk + a))) → aq_fr S S1 (fun q => q = 55 ∨ q = 60 ∨ q = 61) → aG (d + 2) 186 (fun o S' => o = .inl none ∧ ((∃ fn, ba S' 60 81 fn ∧ ∀ v, v < kk ^ 4 → fn v = bI (avP lo kk c pn pg 4 v)) ∧ (∃ fe, ba S' 61 243 fe ∧ ∀ v, v < kk ^ 4 → ∀ a, a < kk → fe (3 * v + a) = bI (avP lo kk c pn pg 5 (v * kk + a))) ∧ ∃ F, ia S' 55 40 F) ∧ aq_fr S S' (fun q => q = 55 ∨ q = 60 ∨ q = 61)) 2 ((0, .ref 52) :: (1, .int (nI v)) :: L) [] S1 from key _ 0 S fp n0 e0 [] (Nat.zero_add _) (Or.inl rfl) h hp w5 r1 r2 (fun x hx => absurd hx (Nat.not_lt_zero x)) (fun x hx => absurd hx (Nat.not_lt_zero x)) aq_fr.rf
  intro j
  induction j with
  | zero =>
    intro v S1 F fn fe L hv hL o1 p1 u5 r1 r2 a1 a2 hfr
    have ev : v = kk ^ 4 := hv
    subst ev
    refine ar_ld i_X7_findGraph_2 rfl rfl ?_
    refine ar_ld i_X7_findGraph_3 rfl rfl ?_
    refine ar_cr i_X7_findGraph_4 rfl ⟨_, _, _, rfl, o1⟩ (Nat.le_of_ble_eq_true rfl) (m_nodes d o1) ?_
    refine ar_ift i_X7_findGraph_7 rfl (nI_le (Nat.le_refl _) (by omega)) ?_
    exact ar_retv i_X7_findGraph_81 ⟨rfl, ⟨⟨fn, r1, a1⟩, ⟨fe, r2, a2⟩, F, u5⟩, hfr⟩
  | succ j ih =>
    intro v S1 F fn fe L hv hL o1 p1 u5 r1 r2 a1 a2 hfr
    refine ar_ld i_X7_findGraph_2 rfl rfl ?_
    refine ar_ld i_X7_findGraph_3 rfl rfl ?_
    refine ar_cr i_X7_findGraph_4 rfl ⟨_, _, _, rfl, o1⟩ (Nat.le_of_ble_eq_true rfl) (m_nodes d o1) ?_
    refine ar_iff i_X7_findGraph_7 rfl (nI_ge (show v < kk ^ 4 by omega) (by omega)) ?_
    refine ar_ld i_X7_findGraph_10 rfl rfl ?_
    refine ar_ld i_X7_findGraph_11 rfl rfl ?_
    refine ar_push i_X7_findGraph_12 ?_
    refine av_cv i_X7_findGraph_13 rfl ⟨_, _, _, rfl, o1⟩ (Nat.le_of_ble_eq_true rfl) (m_spells (d + 1) o1 u5 hk0 hk (n := 4) (num := v) (by omega) (by omega)) (fun S2 q2 => ?_)
    obtain ⟨⟨F2, q5, q6, -⟩, k2⟩ := q2
    have o2 := o1.fr k2 (by omega)
    have p2 := p1.fr k2 (by omega) (by omega)
    refine ar_ld i_X7_findGraph_16 rfl rfl ?_
    refine ar_gf i_X7_findGraph_17 (o2) rfl ?_
    refine ar_ld i_X7_findGraph_20 rfl rfl ?_
    refine ar_ld i_X7_findGraph_21 rfl rfl ?_
    refine ar_ld i_X7_findGraph_22 rfl rfl ?_
    refine ar_gf i_X7_findGraph_23 (o2) rfl ?_
    refine ar_push i_X7_findGraph_26 ?_
    refine ar_push i_X7_findGraph_27 ?_
    refine ar_cr i_X7_findGraph_28 rfl ⟨_, _, _, rfl, o2⟩ (Nat.le_of_ble_eq_true rfl) (m_doesAvoid d o2 p2 hpk q5 (from' := 0) (n := 4) (f := wlet kk 4 v) (by omega) (by omega) (fun i hi => by rw [Nat.zero_add]; exact q6 i hi)) ?_
    refine av_stz i_X7_findGraph_31 (by omega) (r1.fr k2 (by omega)) (by omega) (by omega) (bI_01 _) (fun S3 g3 k3 => ?_)
    have g3 : ba S3 60 81 (upd fn v (bI (avP lo kk c pn pg 4 v))) := g3
    have o3 := o2.fr k3 (by omega)
    have p3 := p2.fr k3 (by omega) (by omega)
    have hfr3 := hfr.tr ((k2.mono (P' := fun q => q = 55 ∨ q = 60 ∨ q = 61) (fun q z => Or.inl z)).tr (k3.mono (fun q z => Or.inr (Or.inl z))))
    have inner : ∀ jj a (S3 : aq_S) (F fe : Nat → Int32), a + jj = kk → mO S3 th (nI kk) il err rd tl (nI c) lo cur hs sv → mPt S3 c pn pg → ia S3 55 40 F → (∀ i, i < 4 → F i = wlet kk 4 v i) → ba S3 60 81 (upd fn v (bI (avP lo kk c pn pg 4 v))) → ba S3 61 243 fe → (∀ x, x < v → ∀ a, a < kk → fe (3 * x + a) = bI (avP lo kk c pn pg 5 (x * kk + a))) → (∀ x, x < a → fe (3 * v + x) = bI (avP lo kk c pn pg 5 (v * kk + x))) → aq_fr S S3 (fun q => q = 55 ∨ q = 60 ∨ q = 61) → aG (d + 2) 186 (fun o S' => o = .inl none ∧ ((∃ fn, ba S' 60 81 fn ∧ ∀ v, v < kk ^ 4 → fn v = bI (avP lo kk c pn pg 4 v)) ∧ (∃ fe, ba S' 61 243 fe ∧ ∀ v, v < kk ^ 4 → ∀ a, a < kk → fe (3 * v + a) = bI (avP lo kk c pn pg 5 (v * kk + a))) ∧ ∃ F, ia S' 55 40 F) ∧ aq_fr S S' (fun q => q = 55 ∨ q = 60 ∨ q = 61)) 34 [(0, .ref 52), (1, .int (nI v)), (2, .int (nI a))] [] S3 := by
      intro jj
      induction jj with
      | zero =>
        intro a S3 F fe ha o3 p3 u5 hF r1 r2 b1 b2 hfr
        have ea : a = kk := ha
        subst ea
        refine ar_ld i_X7_findGraph_34 rfl rfl ?_
        refine ar_ld i_X7_findGraph_35 rfl rfl ?_
        refine ar_gf i_X7_findGraph_36 (o3) rfl ?_
        refine ar_ift i_X7_findGraph_39 rfl (nI_le (Nat.le_refl _) (by omega)) ?_
        refine ar_inc i_X7_findGraph_75 rfl rfl ?_
        refine ar_go i_X7_findGraph_78 ?_
        rw [nI_1]
        exact ih (v + 1) S3 F _ fe [(2, .int (nI a))] (by omega) (Or.inr ⟨_, rfl⟩) o3 p3 u5 r1 r2 (fun x hx => by
          by_cases e : x = v
          · rw [e, upd_eq]
          · rw [upd_ne e]; exact a1 x (by omega)) (fun x hx b hb => by
          by_cases e : x = v
          · rw [e]; exact b2 b hb
          · exact b1 x (by omega) b hb) hfr
      | succ jj ihj =>
        intro a S3 F fe ha o3 p3 u5 hF r1 r2 b1 b2 hfr
        have hak : a < kk := by omega
        refine ar_ld i_X7_findGraph_34 rfl rfl ?_
        refine ar_ld i_X7_findGraph_35 rfl rfl ?_
        refine ar_gf i_X7_findGraph_36 (o3) rfl ?_
        refine ar_iff i_X7_findGraph_39 rfl (nI_ge hak (by omega)) ?_
        refine ar_ld i_X7_findGraph_42 rfl rfl ?_
        refine ar_gf i_X7_findGraph_43 (o3) rfl ?_
        refine ar_push i_X7_findGraph_46 ?_
        refine ar_ld i_X7_findGraph_47 rfl rfl ?_
        rw [show (4 : Int32) = nI 4 from rfl]
        refine av_sti i_X7_findGraph_48 (by omega) (u5) (by omega) (by omega) (fun S4 g4 k4 => ?_)
        have g4 : ia S4 55 40 (upd F 4 (nI a)) := g4
        have o4 := o3.fr k4 (by omega)
        have p4 := p3.fr k4 (by omega) (by omega)
        refine ar_ld i_X7_findGraph_49 rfl rfl ?_
        refine ar_gf i_X7_findGraph_50 (o4) rfl ?_
        refine ar_push i_X7_findGraph_53 ?_
        rw [show (3 : Int32) = nI 3 from rfl]
        refine ar_ld i_X7_findGraph_54 rfl rfl ?_
        refine ar_ar i_X7_findGraph_55 rfl ?_
        rw [pk_mul]
        refine ar_ld i_X7_findGraph_56 rfl rfl ?_
        refine ar_ar i_X7_findGraph_57 rfl ?_
        rw [nI_add]
        refine ar_ld i_X7_findGraph_58 rfl rfl ?_
        refine ar_ld i_X7_findGraph_59 rfl rfl ?_
        refine ar_gf i_X7_findGraph_60 (o4) rfl ?_
        refine ar_push i_X7_findGraph_63 ?_
        refine ar_push i_X7_findGraph_64 ?_
        have hF5 : ∀ i, i < 5 → upd F 4 (nI a) (0 + i) = wlet kk 5 (v * kk + a) i := fun i hi => by
          rw [Nat.zero_add]
          by_cases e : i = 4
          · rw [e, upd_eq]; exact (wlet_last hak).symm
          · rw [upd_ne e, hF i (by omega)]; exact (wlet_in hak (show i < 4 by omega)).symm
        refine ar_cr i_X7_findGraph_65 rfl ⟨_, _, _, rfl, o4⟩ (Nat.le_of_ble_eq_true rfl) (m_doesAvoid d o4 p4 hpk g4 (from' := 0) (n := 5) (f := wlet kk 5 (v * kk + a)) (by omega) (by omega) hF5) ?_
        refine av_stz i_X7_findGraph_68 (by omega) (r2.fr k4 (by omega)) (by omega) (by omega) (bI_01 _) (fun S5 g5 k5 => ?_)
        refine ar_inc i_X7_findGraph_69 rfl rfl ?_
        refine ar_go i_X7_findGraph_72 ?_
        rw [nI_1]
        exact ihj (a + 1) S5 _ _ (by omega) (o4.fr k5 (by omega)) (p4.fr k5 (by omega) (by omega)) (g4.fr k5 (by omega)) (fun i hi => by rw [upd_ne (by omega)]; exact hF i hi) ((r1.fr k4 (by omega)).fr k5 (by omega)) g5 (fun x hx b hb => by rw [upd_ne (by omega)]; exact b1 x hx b hb) (fun x hx => by
          by_cases e : x = a
          · rw [e, upd_eq]; rfl
          · rw [upd_ne (by omega)]; exact b2 x (by omega)) (hfr.tr ((k4.mono (fun q z => Or.inl z)).tr (k5.mono (fun q z => Or.inr (Or.inr z)))))
    have start := inner kk 0 S3 F2 fe (by omega) o3 p3 (q5.fr k3 (by omega)) (fun i hi => q6 i hi) g3 ((r2.fr k2 (by omega)).fr k3 (by omega)) a2 (fun x hx => absurd hx (Nat.not_lt_zero x)) hfr3
    rcases hL with e | ⟨u, e⟩
    · subst e
      refine ar_push i_X7_findGraph_32 ?_
      refine ar_st i_X7_findGraph_33 rfl rfl ?_
      exact start
    · subst e
      refine ar_push i_X7_findGraph_32 ?_
      refine ar_st i_X7_findGraph_33 rfl rfl ?_
      exact start
/-- the graph of the reference -/
noncomputable def tgR (lo : Int32) (k c : Nat) (pn : Nat → Nat) (pg : Nat → Nat → Int32) (v a : Nat) : Option Nat := pif (avP lo k c pn pg 5 (v * k + a)) (some ((v * k + a) % k ^ 4)) none
/-- the ways with one letter more -/
noncomputable def gW (lo : Int32) (k c : Nat) (pn : Nat → Nat) (pg : Nat → Nat → Int32) (W : Nat → Nat) (t : Nat) : Nat := sumN (fun v => cntN (fun a => tgR lo k c pn pg v a = some t) k * W v) (k ^ 4)
theorem m_goesOn (d : Nat) {S : aq_S} {kk c : Nat} {pn : Nat → Nat} {pg : Nat → Nat → Int32} {fe : Nat → Int32} {w nw : Nat → Int64} {W : Nat → Nat} {th il err rd tl pc lo cur hs sv : Int32} (h : mO S th (nI kk) il err rd tl pc lo cur hs sv) (re : ba S 61 243 fe) (hfe : ∀ v, v < kk ^ 4 → ∀ a, a < kk → fe (3 * v + a) = bI (avP lo kk c pn pg 5 (v * kk + a))) (r1 : la S 62 81 w) (r2 : la S 63 81 nw) (hW : ∀ v, v < kk ^ 4 → w v = lN (W v)) (hk0 : 0 < kk) (hk : kk ≤ 3) : aX (d + 4) 187 [.ref 52] S (fun o S' => o = .inl (some (.long (lN (sumN (gW lo kk c pn pg W) (kk ^ 4))))) ∧ ((∃ w', la S' 62 81 w' ∧ ∀ t, t < kk ^ 4 → w' t = lN (gW lo kk c pn pg W t)) ∧ ∃ nw', la S' 63 81 nw') ∧ aq_fr S S' (fun q => q = 62 ∨ q = 63)) := by
  have h4 := pw4 kk (by omega)
  have hp4 : 0 < kk ^ 4 := Nat.pow_pos hk0
  refine ar_run (Nat.le_of_ble_eq_true rfl) (fun o S1 h => h.2.2.le) ?_
  refine ar_push i_X7_goesOn_0 ?_
  refine ar_st i_X7_goesOn_1 rfl rfl ?_
  refine ar_push i_X7_goesOn_2 ?_
  refine ar_st i_X7_goesOn_3 rfl rfl ?_
  have ph3 : ∀ j t (S1 : aq_S) (w nw : Nat → Int64) (L : List (Nat × Value)), t + j = kk ^ 4 → (L = [] ∨ ∃ u, L = [(4, .int u)]) → mO S1 th (nI kk) il err rd tl pc lo cur hs sv → la S1 62 81 w → la S1 63 81 nw → (∀ t, t < kk ^ 4 → nw t = lN (gW lo kk c pn pg W t)) → (∀ x, x < t → w x = lN (gW lo kk c pn pg W x)) → aq_fr S S1 (fun q => q = 62 ∨ q = 63) → aG (d + 3) 187 (fun o S' => o = .inl (some (.long (lN (sumN (gW lo kk c pn pg W) (kk ^ 4))))) ∧ ((∃ w', la S' 62 81 w' ∧ ∀ t, t < kk ^ 4 → w' t = lN (gW lo kk c pn pg W t)) ∧ ∃ nw', la S' 63 81 nw') ∧ aq_fr S S' (fun q => q = 62 ∨ q = 63)) 100 ((0, .ref 52) :: (1, .long (lN (sumN (gW lo kk c pn pg W) t))) :: (3, .int (nI t)) :: L) [] S1 := by
    intro j
    induction j with
    | zero =>
      intro t S1 w nw L ht hL o1 r1 r2 a1 a2 hfr
      have et : t = kk ^ 4 := ht
      subst et
      refine ar_ld i_X7_goesOn_100 rfl rfl ?_
      refine ar_ld i_X7_goesOn_101 rfl rfl ?_
      refine ar_cr i_X7_goesOn_102 rfl ⟨_, _, _, rfl, o1⟩ (Nat.le_of_ble_eq_true rfl) (m_nodes (d + 1) o1) ?_
      refine ar_ift i_X7_goesOn_105 rfl (nI_le (Nat.le_refl _) (by omega)) ?_
      refine ar_ld i_X7_goesOn_135 rfl rfl ?_
      exact ar_ret i_X7_goesOn_136 rfl ⟨rfl, ⟨⟨w, r1, a2⟩, nw, r2⟩, hfr⟩
    | succ j ih =>
      intro t S1 w nw L ht hL o1 r1 r2 a1 a2 hfr
      have htk : t < kk ^ 4 := by omega
      refine ar_ld i_X7_goesOn_100 rfl rfl ?_
      refine ar_ld i_X7_goesOn_101 rfl rfl ?_
      refine ar_cr i_X7_goesOn_102 rfl ⟨_, _, _, rfl, o1⟩ (Nat.le_of_ble_eq_true rfl) (m_nodes (d + 1) o1) ?_
      refine ar_iff i_X7_goesOn_105 rfl (nI_ge htk (by omega)) ?_
      refine ar_ld i_X7_goesOn_108 rfl rfl ?_
      refine ar_gf i_X7_goesOn_109 (o1) rfl ?_
      refine ar_ld i_X7_goesOn_112 rfl rfl ?_
      refine ar_ld i_X7_goesOn_113 rfl rfl ?_
      refine ar_gf i_X7_goesOn_114 (o1) rfl ?_
      refine ar_ld i_X7_goesOn_117 rfl rfl ?_
      refine av_ldl i_X7_goesOn_118 (r2) (by omega) (by omega) ?_
      rw [a1 t htk]
      refine av_stl i_X7_goesOn_119 (by omega) (r1) (by omega) (by omega) (fun S2 g2 k2 => ?_)
      have g2 : la S2 62 81 (vp_updL w t (lN (gW lo kk c pn pg W t))) := g2
      have o2 := o1.fr k2 (by omega)
      refine ar_ld i_X7_goesOn_120 rfl rfl ?_
      refine ar_ld i_X7_goesOn_121 rfl rfl ?_
      refine ar_gf i_X7_goesOn_122 (o2) rfl ?_
      refine ar_ld i_X7_goesOn_125 rfl rfl ?_
      refine av_ldl i_X7_goesOn_126 (g2) (by omega) (by omega) ?_
      rw [vp_updL_eq]
      refine ar_ar i_X7_goesOn_127 rfl ?_
      rw [lN_add]
      have := ih (t + 1) S2 _ nw L (by omega) hL o2 g2 (r2.fr k2 (by omega)) a1 (fun x hx => by
        by_cases e : x = t
        · rw [e, vp_updL_eq]
        · rw [vp_updL_ne e]; exact a2 x (by omega)) (hfr.tr (k2.mono (fun q z => Or.inl z)))
      rw [← nI_1 t] at this
      refine ar_st i_X7_goesOn_128 rfl rfl ?_
      refine ar_inc i_X7_goesOn_129 rfl rfl ?_
      refine ar_go i_X7_goesOn_132 ?_
      rcases hL with e | ⟨u, e⟩ <;> subst e <;> exact this
  have ph2 : ∀ j v (S1 : aq_S) (nw : Nat → Int64) (L : List (Nat × Value)), v + j = kk ^ 4 → (L = [] ∨ ∃ u, L = [(4, .int u)]) → mO S1 th (nI kk) il err rd tl pc lo cur hs sv → ba S1 61 243 fe → la S1 62 81 w → la S1 63 81 nw → (∀ t, t < kk ^ 4 → nw t = lN (sumN (fun v => cntN (fun a => tgR lo kk c pn pg v a = some t) kk * W v) v)) → aq_fr S S1 (fun q => q = 62 ∨ q = 63) → aG (d + 3) 187 (fun o S' => o = .inl (some (.long (lN (sumN (gW lo kk c pn pg W) (kk ^ 4))))) ∧ ((∃ w', la S' 62 81 w' ∧ ∀ t, t < kk ^ 4 → w' t = lN (gW lo kk c pn pg W t)) ∧ ∃ nw', la S' 63 81 nw') ∧ aq_fr S S' (fun q => q = 62 ∨ q = 63)) 27 ((0, .ref 52) :: (1, .long 0) :: (3, .int (nI v)) :: L) [] S1 := by
    intro j
    induction j with
    | zero =>
      intro v S1 nw L hv hL o1 re r1 r2 a1 hfr
      have ev : v = kk ^ 4 := hv
      subst ev
      refine ar_ld i_X7_goesOn_27 rfl rfl ?_
      refine ar_ld i_X7_goesOn_28 rfl rfl ?_
      refine ar_cr i_X7_goesOn_29 rfl ⟨_, _, _, rfl, o1⟩ (Nat.le_of_ble_eq_true rfl) (m_nodes (d + 1) o1) ?_
      refine ar_ift i_X7_goesOn_32 rfl (nI_le (Nat.le_refl _) (by omega)) ?_
      have := ph3 (kk ^ 4) 0 S1 w nw L (by omega) hL o1 r1 r2 a1 (fun x hx => absurd hx (Nat.not_lt_zero x)) hfr
      refine ar_push i_X7_goesOn_98 ?_
      refine ar_st i_X7_goesOn_99 rfl rfl ?_
      rcases hL with e | ⟨u, e⟩ <;> subst e <;> exact this
    | succ j ih =>
      intro v S1 nw L hv hL o1 re r1 r2 a1 hfr
      have hvk : v < kk ^ 4 := by omega
      refine ar_ld i_X7_goesOn_27 rfl rfl ?_
      refine ar_ld i_X7_goesOn_28 rfl rfl ?_
      refine ar_cr i_X7_goesOn_29 rfl ⟨_, _, _, rfl, o1⟩ (Nat.le_of_ble_eq_true rfl) (m_nodes (d + 1) o1) ?_
      refine ar_iff i_X7_goesOn_32 rfl (nI_ge hvk (by omega)) ?_
      have inner : ∀ jj a (S1 : aq_S) (nw : Nat → Int64), a + jj = kk → mO S1 th (nI kk) il err rd tl pc lo cur hs sv → ba S1 61 243 fe → la S1 62 81 w → la S1 63 81 nw → (∀ t, t < kk ^ 4 → nw t = lN (sumN (fun v => cntN (fun a => tgR lo kk c pn pg v a = some t) kk * W v) v + cntN (fun a => tgR lo kk c pn pg v a = some t) a * W v)) → aq_fr S S1 (fun q => q = 62 ∨ q = 63) → aG (d + 3) 187 (fun o S' => o = .inl (some (.long (lN (sumN (gW lo kk c pn pg W) (kk ^ 4))))) ∧ ((∃ w', la S' 62 81 w' ∧ ∀ t, t < kk ^ 4 → w' t = lN (gW lo kk c pn pg W t)) ∧ ∃ nw', la S' 63 81 nw') ∧ aq_fr S S' (fun q => q = 62 ∨ q = 63)) 38 [(0, .ref 52), (1, .long 0), (3, .int (nI v)), (4, .int (nI a))] [] S1 := by
        intro jj
        induction jj with
        | zero =>
          intro a S1 nw ha o1 re r1 r2 a1 hfr
          have ea : a = kk := ha
          subst ea
          refine ar_ld i_X7_goesOn_38 rfl rfl ?_
          refine ar_ld i_X7_goesOn_40 rfl rfl ?_
          refine ar_gf i_X7_goesOn_41 (o1) rfl ?_
          refine ar_ift i_X7_goesOn_44 rfl (nI_le (Nat.le_refl _) (by omega)) ?_
          refine ar_inc i_X7_goesOn_92 rfl rfl ?_
          refine ar_go i_X7_goesOn_95 ?_
          rw [nI_1]
          exact ih (v + 1) S1 nw [(4, .int (nI a))] (by omega) (Or.inr ⟨_, rfl⟩) o1 re r1 r2 a1 hfr
        | succ jj ihj =>
          intro a S1 nw ha o1 re r1 r2 a1 hfr
          have hak : a < kk := by omega
          have hb : (v * kk + a) % kk ^ 4 < kk ^ 4 := Nat.mod_lt _ hp4
          have fin : ∀ x y, x = lN y → (∀ t, t < kk ^ 4 → cntN (fun a => tgR lo kk c pn pg v a = some t) (a + 1) * W v = cntN (fun a => tgR lo kk c pn pg v a = some t) a * W v + (if t = (v * kk + a) % kk ^ 4 then y else 0)) → aG (d + 3) 187 (fun o S' => o = .inl (some (.long (lN (sumN (gW lo kk c pn pg W) (kk ^ 4))))) ∧ ((∃ w', la S' 62 81 w' ∧ ∀ t, t < kk ^ 4 → w' t = lN (gW lo kk c pn pg W t)) ∧ ∃ nw', la S' 63 81 nw') ∧ aq_fr S S' (fun q => q = 62 ∨ q = 63)) 84 [(0, .ref 52), (1, .long 0), (3, .int (nI v)), (4, .int (nI a))] [.long x, .long (nw ((v * kk + a) % kk ^ 4)), .int (nI ((v * kk + a) % kk ^ 4)), .ref 63] S1 := by
            intro x y hx hy
            rw [hx, a1 _ hb]
            refine ar_ar i_X7_goesOn_84 rfl ?_
            rw [lN_add]
            refine av_stl i_X7_goesOn_85 (by omega) (r2) (by omega) (by omega) (fun S2 g2 k2 => ?_)
            refine ar_inc i_X7_goesOn_86 rfl rfl ?_
            refine ar_go i_X7_goesOn_89 ?_
            rw [nI_1]
            exact ihj (a + 1) S2 _ (by omega) (o1.fr k2 (by omega)) (re.fr k2 (by omega)) (r1.fr k2 (by omega)) g2 (fun t ht => by
              rw [hy t ht]
              by_cases e : t = (v * kk + a) % kk ^ 4
              · rw [e, vp_updL_eq, if_pos rfl, Nat.add_assoc]
              · rw [vp_updL_ne e, if_neg e, Nat.add_zero]; exact a1 t ht) (hfr.tr (k2.mono (fun q z => Or.inr z)))
          refine ar_ld i_X7_goesOn_38 rfl rfl ?_
          refine ar_ld i_X7_goesOn_40 rfl rfl ?_
          refine ar_gf i_X7_goesOn_41 (o1) rfl ?_
          refine ar_iff i_X7_goesOn_44 rfl (nI_ge hak (by omega)) ?_
          refine ar_ld i_X7_goesOn_47 rfl rfl ?_
          refine ar_gf i_X7_goesOn_48 (o1) rfl ?_
          refine ar_ld i_X7_goesOn_51 rfl rfl ?_
          refine ar_ld i_X7_goesOn_52 rfl rfl ?_
          refine ar_ld i_X7_goesOn_53 rfl rfl ?_
          refine ar_cr i_X7_goesOn_55 rfl ⟨_, _, _, rfl, o1⟩ (Nat.le_of_ble_eq_true rfl) (m_behind d o1 hk0 hk hvk hak) ?_
          refine ar_ar i_X7_goesOn_58 rfl ?_
          refine av_ldl i_X7_goesOn_59 (r2) (by omega) (by omega) ?_
          refine ar_ld i_X7_goesOn_60 rfl rfl ?_
          refine ar_gf i_X7_goesOn_61 (o1) rfl ?_
          refine ar_push i_X7_goesOn_64 ?_
          rw [show (3 : Int32) = nI 3 from rfl]
          refine ar_ld i_X7_goesOn_65 rfl rfl ?_
          refine ar_ar i_X7_goesOn_66 rfl ?_
          rw [pk_mul]
          refine ar_ld i_X7_goesOn_67 rfl rfl ?_
          refine ar_ar i_X7_goesOn_69 rfl ?_
          rw [nI_add]
          refine av_ldi i_X7_goesOn_70 (re) (by omega) (by omega) ?_
          rw [hfe v hvk a hak]
          by_cases hav : avP lo kk c pn pg 5 (v * kk + a)
          · refine ar_iff i_X7_goesOn_71 rfl (fun z => bI_nz.mpr hav z) ?_
            refine ar_ld i_X7_goesOn_74 rfl rfl ?_
            refine ar_gf i_X7_goesOn_75 (o1) rfl ?_
            refine ar_ld i_X7_goesOn_78 rfl rfl ?_
            refine av_ldl i_X7_goesOn_79 (r1) (by omega) (by omega) ?_
            rw [hW v hvk]
            refine ar_go i_X7_goesOn_80 ?_
            refine fin _ (W v) rfl (fun t ht => ?_)
            by_cases e : t = (v * kk + a) % kk ^ 4
            · rw [if_pos e, cntN_y (p := fun a => tgR lo kk c pn pg v a = some t) (by rw [e]; exact pif_t hav), Nat.add_mul, Nat.one_mul]
            · rw [if_neg e, cntN_n (p := fun a => tgR lo kk c pn pg v a = some t) (fun z => e (by
                have : tgR lo kk c pn pg v a = some ((v * kk + a) % kk ^ 4) := pif_t hav
                rw [this] at z
                exact (Option.some.inj z).symm)), Nat.add_zero]
          · refine ar_ift i_X7_goesOn_71 rfl (bI_f hav) ?_
            refine ar_push i_X7_goesOn_83 ?_
            refine fin 0 0 rfl (fun t ht => ?_)
            rw [cntN_n (p := fun a => tgR lo kk c pn pg v a = some t) (fun z => by
              have : tgR lo kk c pn pg v a = none := pif_f hav
              rw [this] at z
              cases z)]
            split <;> rfl
      have start := inner kk 0 S1 nw (by omega) o1 re r1 r2 (fun t ht => by rw [a1 t ht]; show _ = lN (_ + 0 * W v); rw [Nat.zero_mul]; rfl) hfr
      rcases hL with e | ⟨u, e⟩
      · subst e
        refine ar_push i_X7_goesOn_35 ?_
        refine ar_st i_X7_goesOn_36 rfl rfl ?_
        exact start
      · subst e
        refine ar_push i_X7_goesOn_35 ?_
        refine ar_st i_X7_goesOn_36 rfl rfl ?_
        exact start
  suffices ph1 : ∀ j i (S1 : aq_S) (nw : Nat → Int64), i + j = kk ^ 4 → mO S1 th (nI kk) il err rd tl pc lo cur hs sv → ba S1 61 243 fe → la S1 62 81 w → la S1 63 81 nw → (∀ t, t < i → nw t = 0) → aq_fr S S1 (fun q => q = 62 ∨ q = 63) → aG (d + 3) 187 (fun o S' => o = .inl (some (.long (lN (sumN (gW lo kk c pn pg W) (kk ^ 4))))) ∧ ((∃ w', la S' 62 81 w' ∧ ∀ t, t < kk ^ 4 → w' t = lN (gW lo kk c pn pg W t)) ∧ ∃ nw', la S' 63 81 nw') ∧ aq_fr S S' (fun q => q = 62 ∨ q = 63)) 4 [(0, .ref 52), (1, .long 0), (3, .int (nI i))] [] S1 from ph1 (kk ^ 4) 0 S nw (by omega) h re r1 r2 (fun t ht => absurd ht (Nat.not_lt_zero t)) aq_fr.rf
  intro j
  induction j with
  | zero =>
    intro i S1 nw hi o1 re r1 r2 hag hfr
    have ei : i = kk ^ 4 := hi
    subst ei
    refine ar_ld i_X7_goesOn_4 rfl rfl ?_
    refine ar_ld i_X7_goesOn_5 rfl rfl ?_
    refine ar_cr i_X7_goesOn_6 rfl ⟨_, _, _, rfl, o1⟩ (Nat.le_of_ble_eq_true rfl) (m_nodes (d + 1) o1) ?_
    refine ar_ift i_X7_goesOn_9 rfl (nI_le (Nat.le_refl _) (by omega)) ?_
    refine ar_push i_X7_goesOn_25 ?_
    refine ar_st i_X7_goesOn_26 rfl rfl ?_
    exact ph2 (kk ^ 4) 0 S1 nw [] (by omega) (Or.inl rfl) o1 re r1 r2 (fun t ht => hag t ht) hfr
  | succ j ih =>
    intro i S1 nw hi o1 re r1 r2 hag hfr
    refine ar_ld i_X7_goesOn_4 rfl rfl ?_
    refine ar_ld i_X7_goesOn_5 rfl rfl ?_
    refine ar_cr i_X7_goesOn_6 rfl ⟨_, _, _, rfl, o1⟩ (Nat.le_of_ble_eq_true rfl) (m_nodes (d + 1) o1) ?_
    refine ar_iff i_X7_goesOn_9 rfl (nI_ge (show i < kk ^ 4 by omega) (by omega)) ?_
    refine ar_ld i_X7_goesOn_12 rfl rfl ?_
    refine ar_gf i_X7_goesOn_13 (o1) rfl ?_
    refine ar_ld i_X7_goesOn_16 rfl rfl ?_
    refine ar_push i_X7_goesOn_17 ?_
    refine av_stl i_X7_goesOn_18 (by omega) (r2) (by omega) (by omega) (fun S2 g2 k2 => ?_)
    refine ar_inc i_X7_goesOn_19 rfl rfl ?_
    refine ar_go i_X7_goesOn_22 ?_
    rw [nI_1]
    exact ih (i + 1) S2 _ (by omega) (o1.fr k2 (by omega)) (re.fr k2 (by omega)) (r1.fr k2 (by omega)) g2 (fun t ht => by
      by_cases e : t = i
      · rw [e, vp_updL_eq]
      · rw [vp_updL_ne e]; exact hag t (by omega)) (hfr.tr (k2.mono (fun q z => Or.inr z)))
end
