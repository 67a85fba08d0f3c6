/-! ===== findCycle and avoidingCycle: the class ===== -/
section
theorem p2m {n : Nat} : nI (n + 1) - 2 = nI n - 1 := by
  cases n with
  | zero => decide
  | succ n => rw [show (2 : Int32) = nI 2 from rfl, pk_sub (by omega), nI_m1 (by omega)]; rfl
theorem k_readCycle (d : Nat) {S : aq_S} {k st n m s w0 : Nat} {tg : Nat → Nat → Option Nat} {dep cf g0 : Nat → Int32} (hG : kG S k tg) (hk : k ≤ 3) (hk0 : 0 < k) (h2 : ia S 37 121 dep) (h3 : ia S 39 121 cf) (hs : s < off k 5) (hst : 0 < st ∧ st < off k 5 ∧ (st - 1) % k = m % k) (hds : dep s = nI n) (hn : n + 1 ≤ 40) (hc : chn k (off k 5) cf n (m / k) s) (hw : isW S 43 w0 g0) : aX (d + 2) 45 [.ref 31, .int (nI st), .int (nI s), .ref 43] S (fun o S' => o = .inl none ∧ isW S' 43 (n + 1) (wlet k (n + 1) m) ∧ aq_fr S S' (fun q => q = 43 ∨ q = 44)) := by
  have h5 := off_5 k (by omega)
  obtain ⟨hs0, hs1, hs2⟩ := hst
  have hk1 : kG S k tg := hG
  obtain ⟨o1, -, l, hl, hl2⟩ := hG
  refine ar_run (Nat.le_of_ble_eq_true rfl) (fun o S1 h => h.2.2.le) ?_
  refine ar_ld i_X4_readCycle_0 rfl rfl ?_
  refine ar_gf i_X4_readCycle_1 (o1) rfl ?_
  refine ar_ld i_X4_readCycle_4 rfl rfl ?_
  refine ar_cr i_X4_readCycle_5 rfl trivial (Nat.le_of_ble_eq_true rfl) (k_peek d h2 (show s < 121 by omega) (by omega)) ?_
  rw [hds]
  refine ar_push i_X4_readCycle_8 ?_
  refine ar_ar i_X4_readCycle_9 rfl ?_
  rw [nI_1]
  refine ar_st i_X4_readCycle_10 rfl rfl ?_
  refine ar_ld i_X4_readCycle_12 rfl rfl ?_
  refine av_cv i_X4_readCycle_13 rfl ⟨_, _, _, rfl, hw.obj⟩ (Nat.le_of_ble_eq_true rfl) (w_makeEmpty d (g' := fun _ => nI (m % k)) hw) (fun S1 q1 => ?_)
  obtain ⟨g1, k1⟩ := q1
  refine ar_push i_X4_readCycle_16 ?_
  refine ar_st i_X4_readCycle_17 rfl rfl ?_
  have back : ∀ j M s' (S2 : aq_S) (g : Nat → Int32) (v6 : Int32), j ≤ n → v6 = nI j - 1 → M = m / k ^ (n + 1 - j) → s' < off k 5 → chn k (off k 5) cf j M s' → isW S2 43 (n + 1) g → (∀ x, j ≤ x → x ≤ n → g x = wlet k (n + 1) m x) → aq_fr S S2 (fun q => q = 43 ∨ q = 44) → aG (d + 1) 45 (fun o S' => o = .inl none ∧ isW S' 43 (n + 1) (wlet k (n + 1) m) ∧ aq_fr S S' (fun q => q = 43 ∨ q = 44)) 54 [(0, .ref 31), (1, .int (nI st)), (2, .int (nI s)), (3, .ref 43), (4, .int (nI (n + 1))), (5, .int (nI s')), (6, .int v6)] [] S2 := by
    intro j
    induction j with
    | zero =>
      intro M s' S2 g v6 hj hv hM hs' hc hw hg hfr
      rw [hv]
      refine ar_ld i_X4_readCycle_54 rfl rfl ?_
      refine ar_ift i_X4_readCycle_56 rfl (by decide) ?_
      exact ar_retv i_X4_readCycle_91 ⟨rfl, hw.cg (fun x hx => hg x (Nat.zero_le x) (by omega)), hfr⟩
    | succ j ih =>
      intro M s' S2 g v6 hj hv hM hs' hc hw hg hfr
      obtain ⟨c1, c2, c3, s2, c4, c5, c6⟩ := hc
      have hG2 := hk1.fr hfr (by omega) (by omega) (by omega)
      have ev : v6 = nI j := by rw [hv, nI_m1 (by omega)]; rfl
      rw [ev]
      refine ar_ld i_X4_readCycle_54 rfl rfl ?_
      refine ar_iff i_X4_readCycle_56 rfl (nI_pos (by omega)) ?_
      refine ar_ld i_X4_readCycle_59 rfl rfl ?_
      refine ar_ld i_X4_readCycle_60 rfl rfl ?_
      refine ar_ld i_X4_readCycle_62 rfl rfl ?_
      refine ar_gf i_X4_readCycle_63 (hG2.1) rfl ?_
      refine ar_ld i_X4_readCycle_66 rfl rfl ?_
      refine ar_cr i_X4_readCycle_68 rfl trivial (Nat.le_of_ble_eq_true rfl) (k_peek d (hl.fr hfr (by omega)) (show s' < 121 by omega) (by omega)) ?_
      rw [hl2 s' c1 c2, c3]
      refine av_cv i_X4_readCycle_71 rfl ⟨_, _, _, rfl, hw.obj⟩ (Nat.le_of_ble_eq_true rfl) (w_put d hw j (by omega) (nI (M % k))) (fun S3 q3 => ?_)
      obtain ⟨g3, k3⟩ := q3
      have hfr3 := hfr.tr (k3.mono (P' := fun q => q = 43 ∨ q = 44) (fun q z => by omega))
      have hG3 := hk1.fr hfr3 (by omega) (by omega) (by omega)
      refine ar_ld i_X4_readCycle_74 rfl rfl ?_
      refine ar_gf i_X4_readCycle_75 (hG3.1) rfl ?_
      refine ar_ld i_X4_readCycle_78 rfl rfl ?_
      refine ar_cr i_X4_readCycle_80 rfl trivial (Nat.le_of_ble_eq_true rfl) (k_peek d (h3.fr hfr3 (by omega)) (show s' < 121 by omega) (by omega)) ?_
      rw [c5]
      refine ar_st i_X4_readCycle_83 rfl rfl ?_
      refine ar_inc i_X4_readCycle_85 rfl rfl ?_
      refine ar_go i_X4_readCycle_88 ?_
      exact ih (M / k) s2 S3 _ _ (by omega) (Int32.sub_eq_add_neg _ _).symm (by rw [hM, Nat.div_div_eq_div_mul, ← Nat.pow_succ, show (n + 1 - (j + 1)).succ = n + 1 - j by omega]) c4 c6 g3 (fun x hx hxn => by
        by_cases e : x = j
        · rw [e, upd_eq]
          unfold wlet
          rw [hM, show n + 1 - 1 - j = n + 1 - (j + 1) by omega]
        · rw [upd_ne e]; exact hg x (by omega) hxn) hfr3
  have fwd : ∀ j i (S2 : aq_S), i + j = n + 1 → isW S2 43 i (fun _ => nI (m % k)) → aq_fr S S2 (fun q => q = 43 ∨ q = 44) → aG (d + 1) 45 (fun o S' => o = .inl none ∧ isW S' 43 (n + 1) (wlet k (n + 1) m) ∧ aq_fr S S' (fun q => q = 43 ∨ q = 44)) 19 [(0, .ref 31), (1, .int (nI st)), (2, .int (nI s)), (3, .ref 43), (4, .int (nI (n + 1))), (5, .int (nI i))] [] S2 := by
    intro j
    induction j with
    | zero =>
      intro i S2 hi hw hfr
      have ei : i = n + 1 := hi
      rw [ei] at hw
      refine ar_ld i_X4_readCycle_19 rfl rfl ?_
      refine ar_ld i_X4_readCycle_21 rfl rfl ?_
      refine ar_ift i_X4_readCycle_23 rfl (nI_le (show n + 1 ≤ i by omega) (by omega)) ?_
      refine ar_ld i_X4_readCycle_45 rfl rfl ?_
      refine ar_st i_X4_readCycle_46 rfl rfl ?_
      refine ar_ld i_X4_readCycle_48 rfl rfl ?_
      refine ar_push i_X4_readCycle_50 ?_
      refine ar_ar i_X4_readCycle_51 rfl ?_
      refine ar_st i_X4_readCycle_52 rfl rfl ?_
      exact back n (m / k) s S2 (fun _ => nI (m % k)) _ (Nat.le_refl n) p2m (by rw [show n + 1 - n = 1 by omega, Nat.pow_one]) hs hc hw (fun x hx hxn => by
        have e : x = n := by omega
        rw [e]
        unfold wlet
        rw [show n + 1 - 1 - n = 0 by omega, Nat.pow_zero, Nat.div_one]) hfr
    | succ j ih =>
      intro i S2 hi hw hfr
      have hG2 := hk1.fr hfr (by omega) (by omega) (by omega)
      refine ar_ld i_X4_readCycle_19 rfl rfl ?_
      refine ar_ld i_X4_readCycle_21 rfl rfl ?_
      refine ar_iff i_X4_readCycle_23 rfl (nI_ge (show i < n + 1 by omega) (by omega)) ?_
      refine ar_ld i_X4_readCycle_26 rfl rfl ?_
      refine ar_ld i_X4_readCycle_27 rfl rfl ?_
      refine ar_gf i_X4_readCycle_28 (hG2.1) rfl ?_
      refine ar_ld i_X4_readCycle_31 rfl rfl ?_
      refine ar_cr i_X4_readCycle_32 rfl trivial (Nat.le_of_ble_eq_true rfl) (k_peek d (hl.fr hfr (by omega)) (show st < 121 by omega) (by omega)) ?_
      rw [hl2 st hs0 hs1, hs2]
      refine av_cr i_X4_readCycle_35 rfl ⟨_, _, _, rfl, hw.obj⟩ (Nat.le_of_ble_eq_true rfl) (w_add d hw (nI (m % k)) (by omega)) (fun S3 q3 => ?_)
      obtain ⟨g3, k3⟩ := q3
      refine ar_ar i_X4_readCycle_38 rfl ?_
      refine ar_inc i_X4_readCycle_39 rfl rfl ?_
      refine ar_go i_X4_readCycle_42 ?_
      rw [nI_1]
      exact ih (i + 1) S3 (by omega) (g3.cg (fun x hx => by
        by_cases e : x = i
        · rw [e, upd_eq]
        · rw [upd_ne e])) (hfr.tr (k3.mono (fun q z => by omega)))
  exact fwd (n + 1) 0 S1 (by omega) g1 (k1.mono (fun q z => by omega))
theorem wlt_num {k n p b : Nat} (hk : 0 < k) (hk3 : k ≤ 3) (hp : p < k ^ n) (hb : b < k ^ n) : (∃ i, i < n ∧ (∀ j, j < i → wlet k n p j = wlet k n b j) ∧ wlet k n p i < wlet k n b i) ↔ p < b := by
  refine ⟨fun ⟨i, hi, h, hl⟩ => (wlet_cmp hk hk3 hp hb hi h (Or.inr fun z => by rw [z] at hl; exact Int32.lt_irrefl hl)).mp hl, fun hlt => Classical.byContradiction fun z => ?_⟩
  have all : ∀ i, i ≤ n → ∀ j, j < i → wlet k n p j = wlet k n b j := by
    intro i
    induction i with
    | zero => intro _ j hj; exact absurd hj (Nat.not_lt_zero j)
    | succ i ih =>
      intro hi j hj
      by_cases e : j = i
      · refine Classical.byContradiction fun u => z ⟨i, by omega, ih (by omega), ?_⟩
        exact (wlet_cmp hk hk3 hp hb (by omega) (ih (by omega)) (Or.inr (by rw [← e]; exact u))).mpr hlt
      · exact ih (by omega) j (by omega)
  have := wlet_agree hk hk3 hp hb n (Nat.le_refl n) (all n (Nat.le_refl n))
  rw [Nat.sub_self, Nat.pow_zero, Nat.div_one, Nat.div_one] at this
  omega
/-- the best cycle through the states below v, in the word 45 -/
def fcB (S : aq_S) (k sz : Nat) (tg : Nat → Nat → Option Nat) (v : Nat) : Prop := ∃ n0 b, n0 ≤ 40 ∧ isW S 45 n0 (wlet k n0 b) ∧ ((n0 = 0 ∧ ∀ w, w < v → ∀ n m, n ≤ 40 → ¬ clo k tg n m w) ∨ ((∃ w, w < sz ∧ clo k tg n0 b w) ∧ ∀ w, w < v → ∀ n' m', clo k tg n' m' w → ¬ lex n' m' n0 b))
theorem k_findCycle (d : Nat) {S : aq_S} {k : Nat} {tg : Nat → Nat → Option Nat} (hg0 : kG S k tg) (hA : kA S) (hk : k ≤ 3) (hk0 : 0 < k) (htg : ∀ s a t, tg s a = some t → 0 < t ∧ t < off k 5 ∧ (t - 1) % k = a) (hD : hD S) : aX (d + 4) 43 [.ref 31, .ref 45, .ref 43] S (fun o S' => o = .inl none ∧ (fcB S' k (off k 5) tg (off k 5) ∧ kA S' ∧ (∃ n g, isW S' 43 n g)) ∧ aq_fr S S' (fun q => (36 ≤ q ∧ q ≤ 39) ∨ (43 ≤ q ∧ q ≤ 46))) := by
  have h5 := off_5 k (by omega)
  have hA0 := hA
  obtain ⟨-, -, -, -, ⟨q0, h1⟩, ⟨g0, h2⟩, ⟨f0, h3⟩, ⟨c0, h4⟩, -⟩ := hA
  obtain ⟨⟨n1, w1, hw1⟩, n2, w2, hw2⟩ := hD
  refine ar_run (Nat.le_of_ble_eq_true rfl) (fun o S1 h => h.2.2.le) ?_
  refine ar_ld i_X4_findCycle_0 rfl rfl ?_
  refine av_cv i_X4_findCycle_1 rfl ⟨_, _, _, rfl, hw2.obj⟩ (Nat.le_of_ble_eq_true rfl) (w_makeEmpty (d + 2) (g' := wlet k 0 0) hw2) (fun S1 q1 => ?_)
  obtain ⟨g1, k1⟩ := q1
  refine ar_push i_X4_findCycle_4 ?_
  refine ar_st i_X4_findCycle_5 rfl rfl ?_
  suffices key : ∀ j v (S1 : aq_S) (L : List (Nat × Value)), v + j = off k 5 → (L = [] ∨ ∃ u, L = [(4, .int u)]) → kG S1 k tg → (∃ f, ia S1 36 121 f) → (∃ f, ia S1 37 121 f) → (∃ f, ia S1 39 121 f) → (∃ n g, isW S1 43 n g) → fcB S1 k (off k 5) tg v → aq_fr S S1 (fun q => q = 36 ∨ q = 37 ∨ q = 39 ∨ (43 ≤ q ∧ q ≤ 46)) → aG (d + 3) 43 (fun o S' => o = .inl none ∧ (fcB S' k (off k 5) tg (off k 5) ∧ kA S' ∧ (∃ n g, isW S' 43 n g)) ∧ aq_fr S S' (fun q => (36 ≤ q ∧ q ≤ 39) ∨ (43 ≤ q ∧ q ≤ 46))) 6 ((0, .ref 31) :: (1, .ref 45) :: (2, .ref 43) :: (3, .int (nI v)) :: L) [] S1 from key (off k 5) 0 S1 [] (by omega) (Or.inl rfl) (hg0.fr k1 (by omega) (by omega) (by omega)) ⟨q0, h1.fr k1 (by omega)⟩ ⟨g0, h2.fr k1 (by omega)⟩ ⟨c0, h4.fr k1 (by omega)⟩ ⟨n1, w1, hw1.fr k1 (by omega) (by omega)⟩ ⟨0, 0, Nat.zero_le _, g1, Or.inl ⟨rfl, fun w hw => absurd hw (Nat.not_lt_zero w)⟩⟩ (k1.mono (fun q z => by omega))
  intro j
  induction j with
  | zero =>
    intro v S1 L hv hL hG f1 f2 f3 hw hB hfr
    have ev : v = off k 5 := hv
    rw [ev] at hB
    refine ar_ld i_X4_findCycle_6 rfl rfl ?_
    refine ar_ld i_X4_findCycle_7 rfl rfl ?_
    refine ar_gf i_X4_findCycle_8 (hG.1) rfl ?_
    refine ar_ift i_X4_findCycle_11 rfl (nI_le (show off k 5 ≤ v by omega) (by omega)) ?_
    obtain ⟨⟨x1, a1⟩, ⟨x2, a2⟩, ⟨x3, a3⟩, ⟨f4, a4, b4⟩, -, -, -, -, ⟨x9, a9⟩, x10, a10⟩ := hA0
    have hkA : kA S1 := ⟨⟨x1, a1.fr hfr (by omega)⟩, ⟨x2, a2.fr hfr (by omega)⟩, ⟨x3, a3.fr hfr (by omega)⟩, ⟨f4, a4.fr hfr (by omega), b4⟩, f1, f2, ⟨f0, h3.fr hfr (by omega)⟩, f3, ⟨x9, a9.fr hfr (by omega)⟩, x10, a10.fr hfr (by omega)⟩
    exact ar_retv i_X4_findCycle_77 ⟨rfl, ⟨hB, hkA, hw⟩, hfr.mono (fun q z => by omega)⟩
  | succ j ih =>
    intro v S1 L hv hL hG f1 f2 f3 hw hB hfr
    have hvs : v < off k 5 := by omega
    obtain ⟨q, f1⟩ := f1
    obtain ⟨dep, f2⟩ := f2
    obtain ⟨cf, f3⟩ := f3
    obtain ⟨nw, gw0, hw⟩ := hw
    obtain ⟨n0, b, hn0, hw5, hcase⟩ := hB
    have next : ∀ (S2 : aq_S) (u : Int32), (∃ f, ia S2 36 121 f) → (∃ f, ia S2 37 121 f) → (∃ f, ia S2 39 121 f) → (∃ n g, isW S2 43 n g) → fcB S2 k (off k 5) tg (v + 1) → aq_fr S1 S2 (fun q => q = 36 ∨ q = 37 ∨ q = 39 ∨ (43 ≤ q ∧ q ≤ 46)) → aG (d + 3) 43 (fun o S' => o = .inl none ∧ (fcB S' k (off k 5) tg (off k 5) ∧ kA S' ∧ (∃ n g, isW S' 43 n g)) ∧ aq_fr S S' (fun q => (36 ≤ q ∧ q ≤ 39) ∨ (43 ≤ q ∧ q ≤ 46))) 71 [(0, .ref 31), (1, .ref 45), (2, .ref 43), (3, .int (nI v)), (4, .int u)] [] S2 := by
      intro S2 u a1 a2 a3 a4 a5 a6
      refine ar_inc i_X4_findCycle_71 rfl rfl ?_
      refine ar_go i_X4_findCycle_74 ?_
      rw [nI_1]
      exact ih (v + 1) S2 [(4, .int u)] (by omega) (Or.inr ⟨_, rfl⟩) (hG.fr a6 (by omega) (by omega) (by omega)) a1 a2 a3 a4 a5 (hfr.tr a6)
    have call : ∀ (L : List (Nat × Value)) (lim : Nat), (L = [] ∨ ∃ u, L = [(4, .int u)]) → lim ≤ 40 → ((n0 = 0 ∧ lim = 40) ∨ (0 < n0 ∧ lim = n0)) → aG (d + 3) 43 (fun o S' => o = .inl none ∧ (fcB S' k (off k 5) tg (off k 5) ∧ kA S' ∧ (∃ n g, isW S' 43 n g)) ∧ aq_fr S S' (fun q => (36 ≤ q ∧ q ≤ 39) ∨ (43 ≤ q ∧ q ≤ 46))) 32 ((0, .ref 31) :: (1, .ref 45) :: (2, .ref 43) :: (3, .int (nI v)) :: L) [.int (nI lim), .int (nI v), .ref 31] S1 := by
      intro L lim hL hlim hl2
      refine av_ce i_X4_findCycle_32 rfl ⟨_, _, _, rfl, hG.1⟩ (Nat.le_of_ble_eq_true rfl) (k_lastBeforeReturn d hG hk hk0 htg hvs hlim f1 f2 f3) (fun x S2 q2 => ?_)
      obtain ⟨⟨hbk, e36, e37, e39⟩, k2⟩ := q2
      have k2' : aq_fr S1 S2 (fun q => q = 36 ∨ q = 37 ∨ q = 39 ∨ (43 ≤ q ∧ q ≤ 46)) := k2.mono (fun q z => by omega)
      have hw52 := hw5.fr k2 (by omega) (by omega)
      have hw32 := hw.fr k2 (by omega) (by omega)
      have body : aG (d + 3) 43 (fun o S' => o = .inl none ∧ (fcB S' k (off k 5) tg (off k 5) ∧ kA S' ∧ (∃ n g, isW S' 43 n g)) ∧ aq_fr S S' (fun q => (36 ≤ q ∧ q ≤ 39) ∨ (43 ≤ q ∧ q ≤ 46))) 37 [(0, .ref 31), (1, .ref 45), (2, .ref 43), (3, .int (nI v)), (4, .int x)] [] S2 := by
        rcases hbk with ⟨ex, hno⟩ | ⟨n, m, s, dp, cf2, ex, hs, hnl, z1, z2, hds, hc, hcl, hst, hmin⟩
        · refine ar_ld i_X4_findCycle_37 rfl rfl ?_
          refine ar_push i_X4_findCycle_39 ?_
          refine ar_ift i_X4_findCycle_40 rfl (ex) ?_
          refine next S2 x e36 e37 e39 ⟨_, _, hw32⟩ ⟨n0, b, hn0, hw52, ?_⟩ k2'
          rcases hcase with ⟨y1, y2⟩ | ⟨y3, y4⟩
          · refine Or.inl ⟨y1, fun w hw n m hn hc => ?_⟩
            by_cases ew : w = v
            · rw [ew] at hc
              have h7 := hno n m hc
              omega
            · exact y2 w (by omega) n m hn hc
          · refine Or.inr ⟨y3, fun w hw n' m' hc hl => ?_⟩
            by_cases ew : w = v
            · rw [ew] at hc
              have h7 := hno n' m' hc
              obtain ⟨w2, -, hcw⟩ := y3
              have := hcw.1
              unfold lex at hl
              omega
            · exact y4 w (by omega) n' m' hc hl
        · rw [ex]
          refine ar_ld i_X4_findCycle_37 rfl rfl ?_
          refine ar_push i_X4_findCycle_39 ?_
          refine ar_iff i_X4_findCycle_40 rfl (nI_nm1 s (by omega)) ?_
          have hG2 := hG.fr k2 (by omega) (by omega) (by omega)
          refine ar_ld i_X4_findCycle_43 rfl rfl ?_
          refine ar_ld i_X4_findCycle_44 rfl rfl ?_
          refine ar_ld i_X4_findCycle_45 rfl rfl ?_
          refine ar_ld i_X4_findCycle_47 rfl rfl ?_
          refine av_cv i_X4_findCycle_48 rfl ⟨_, _, _, rfl, hG2.1⟩ (Nat.le_of_ble_eq_true rfl) (k_readCycle (d + 1) hG2 hk hk0 z1 z2 hs ⟨hst.1, hvs, hst.2⟩ hds (by omega) hc hw32) (fun S3 q3 => ?_)
          obtain ⟨g3, k3⟩ := q3
          have k3' : aq_fr S1 S3 (fun q => q = 36 ∨ q = 37 ∨ q = 39 ∨ (43 ≤ q ∧ q ≤ 46)) := k2'.tr (k3.mono (fun q z => by omega))
          have hw53 := hw52.fr k3 (by omega) (by omega)
          obtain ⟨r36, e36⟩ := e36
          obtain ⟨r37, e37⟩ := e37
          obtain ⟨r39, e39⟩ := e39
          have copy : (n0 = 0 ∨ lex (n + 1) m n0 b) → aG (d + 3) 43 (fun o S' => o = .inl none ∧ (fcB S' k (off k 5) tg (off k 5) ∧ kA S' ∧ (∃ n g, isW S' 43 n g)) ∧ aq_fr S S' (fun q => (36 ≤ q ∧ q ≤ 39) ∨ (43 ≤ q ∧ q ≤ 46))) 66 [(0, .ref 31), (1, .ref 45), (2, .ref 43), (3, .int (nI v)), (4, .int (nI s))] [] S3 := by
            intro hlt
            refine ar_ld i_X4_findCycle_66 rfl rfl ?_
            refine ar_ld i_X4_findCycle_67 rfl rfl ?_
            refine av_cv i_X4_findCycle_68 rfl ⟨_, _, _, rfl, hw53.obj⟩ (Nat.le_of_ble_eq_true rfl) (w_copyFrom (d + 1) hw53 g3) (fun S4 q4 => ?_)
            obtain ⟨g4, k4⟩ := q4
            refine next S4 (nI s) ⟨r36, (e36.fr k3 (by omega)).fr k4 (by omega)⟩ ⟨r37, (e37.fr k3 (by omega)).fr k4 (by omega)⟩ ⟨r39, (e39.fr k3 (by omega)).fr k4 (by omega)⟩ ⟨_, _, g3.fr k4 (by omega) (by omega)⟩ ⟨n + 1, m, by omega, g4, Or.inr ⟨⟨v, hvs, hcl⟩, fun w hw n' m' hc hl => ?_⟩⟩ (k3'.tr (k4.mono (fun q z => by omega)))
            by_cases ew : w = v
            · rw [ew] at hc
              exact hmin n' m' hc hl
            · rcases hcase with ⟨y1, y2⟩ | ⟨y3, y4⟩
              · exact y2 w (by omega) n' m' (by unfold lex at hl; omega) hc
              · rcases hlt with z | z
                · obtain ⟨w2, -, hcw⟩ := y3
                  have := hcw.1
                  omega
                · exact y4 w (by omega) n' m' hc (lex_tr hl z)
          refine ar_ld i_X4_findCycle_51 rfl rfl ?_
          refine ar_cr i_X4_findCycle_52 rfl ⟨_, _, _, rfl, hw53.obj⟩ (Nat.le_of_ble_eq_true rfl) (w_size (d + 2) hw53) ?_
          by_cases hz : n0 = 0
          · refine ar_ift i_X4_findCycle_55 rfl (by rw [hz]; rfl) ?_
            exact copy (Or.inl hz)
          · refine ar_iff i_X4_findCycle_55 rfl (nI_ne0 (by omega) (by omega)) ?_
            rcases hcase with ⟨y1, y2⟩ | ⟨⟨w2, hw2s, hcw⟩, y4⟩
            · exact absurd y1 hz
            · have hwl : wlt (n + 1) n0 (wlet k (n + 1) m) (wlet k n0 b) ↔ lex (n + 1) m n0 b := by
                unfold wlt lex
                by_cases e : n + 1 = n0
                · have hcb := hcw.2.1
                  rw [← e] at hcb ⊢
                  rw [wlt_num hk0 hk hcl.2.1 hcb]
                · exact ⟨fun u => Or.inl (u.resolve_right fun u => e u.1), fun u => Or.inl (u.resolve_right fun u => e u.1)⟩
              refine ar_ld i_X4_findCycle_58 rfl rfl ?_
              refine ar_ld i_X4_findCycle_59 rfl rfl ?_
              refine ar_cr i_X4_findCycle_60 rfl ⟨_, _, _, rfl, g3.obj⟩ (Nat.le_of_ble_eq_true rfl) (w_isBefore (d + 1) g3 hw53) ?_
              by_cases hlx : lex (n + 1) m n0 b
              · refine ar_iff i_X4_findCycle_63 rfl (bI_nz.mpr (hwl.mpr hlx)) ?_
                exact copy (Or.inr hlx)
              · refine ar_ift i_X4_findCycle_63 rfl (bI_f (fun u => hlx (hwl.mp u))) ?_
                refine next S3 (nI s) ⟨r36, e36.fr k3 (by omega)⟩ ⟨r37, e37.fr k3 (by omega)⟩ ⟨r39, e39.fr k3 (by omega)⟩ ⟨_, _, g3⟩ ⟨n0, b, hn0, hw53, Or.inr ⟨⟨w2, hw2s, hcw⟩, fun w hw n' m' hc hl => ?_⟩⟩ k3'
                by_cases ew : w = v
                · rw [ew] at hc
                  have := hmin n' m' hc
                  unfold lex at this hl hlx
                  omega
                · exact y4 w (by omega) n' m' hc hl
      rcases hL with e | ⟨u, e⟩
      · subst e
        refine ar_st i_X4_findCycle_35 rfl rfl ?_
        exact body
      · subst e
        refine ar_st i_X4_findCycle_35 rfl rfl ?_
        exact body
    refine ar_ld i_X4_findCycle_6 rfl rfl ?_
    refine ar_ld i_X4_findCycle_7 rfl rfl ?_
    refine ar_gf i_X4_findCycle_8 (hG.1) rfl ?_
    refine ar_iff i_X4_findCycle_11 rfl (nI_ge hvs (by omega)) ?_
    refine ar_ld i_X4_findCycle_14 rfl rfl ?_
    refine ar_ld i_X4_findCycle_15 rfl rfl ?_
    refine ar_ld i_X4_findCycle_16 rfl rfl ?_
    refine ar_cr i_X4_findCycle_17 rfl ⟨_, _, _, rfl, hw5.obj⟩ (Nat.le_of_ble_eq_true rfl) (w_size (d + 2) hw5) ?_
    by_cases hz : n0 = 0
    · refine ar_iff i_X4_findCycle_20 rfl (fun z => z (by rw [hz]; rfl)) ?_
      refine ar_push i_X4_findCycle_23 ?_
      refine ar_go i_X4_findCycle_25 ?_
      exact call L 40 hL (Nat.le_refl _) (Or.inl ⟨hz, rfl⟩)
    · refine ar_ift i_X4_findCycle_20 rfl (nI_ne0 (by omega) (by omega)) ?_
      refine ar_ld i_X4_findCycle_28 rfl rfl ?_
      refine ar_cr i_X4_findCycle_29 rfl ⟨_, _, _, rfl, hw5.obj⟩ (Nat.le_of_ble_eq_true rfl) (w_size (d + 2) hw5) ?_
      exact call L n0 hL hn0 (Or.inr ⟨by omega, rfl⟩)
end
