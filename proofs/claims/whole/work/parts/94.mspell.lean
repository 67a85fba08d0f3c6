/-! ===== the reference spells a cycle ===== -/
section
/-- the length of the shortest way round through v0, or 1000 -/
def roO (lo : Int32) (k c : Nat) (pn : Nat → Nat) (pg : Nat → Nat → Int32) (v0 : Nat) (D : Nat → Nat) (A r : Nat) : Prop := r ≤ 1000 ∧ (r < 1000 → ∃ a t, a < k ∧ tgR lo k c pn pg v0 a = some t ∧ r = D t + 1) ∧ ∀ a t, a < A → tgR lo k c pn pg v0 a = some t → r ≤ D t + 1
theorem roO_le {lo : Int32} {k c v0 r n m : Nat} {pn : Nat → Nat} {pg : Nat → Nat → Int32} {D : Nat → Nat} (hk : 0 < k) (hD : dsOk lo k c pn pg v0 D) (h : roO lo k c pn pg v0 D k r) (hc : clo k (tgR lo k c pn pg) n m v0) : r ≤ n := by
  obtain ⟨h0, hm, e⟩ := hc
  cases n with
  | zero => exact absurd h0 (Nat.lt_irrefl 0)
  | succ n =>
    obtain ⟨x, ha, z1, z2⟩ := gw_head hk hm e
    have h1 := h.2.2 _ x ha z1
    have h2 := dOk_le hk hD n _ x (tgR_lt hk z1) (Nat.mod_lt _ (Nat.pow_pos hk)) z2
    omega
theorem m_roundOf (d : Nat) {S : aq_S} {kk c v0 : Nat} {pn : Nat → Nat} {pg : Nat → Nat → Int32} {fe f : Nat → Int32} {D : Nat → Nat} {th il err rd tl pc lo cur hs sv : Int32} (hO : mO S th (nI kk) il err rd tl pc lo cur hs sv) (hre : ba S 61 243 fe) (hfe : ∀ v, v < kk ^ 4 → ∀ a, a < kk → fe (3 * v + a) = bI (avP lo kk c pn pg 5 (v * kk + a))) (hr4 : ia S 64 81 f) (hf : ∀ w, w < kk ^ 4 → f w = nI (D w)) (hD : ∀ w, w < kk ^ 4 → D w ≤ 1000) (hv0 : v0 < kk ^ 4) (hk0 : 0 < kk) (hk : kk ≤ 3) : aX (d + 4) 196 [.ref 52, .int (nI v0)] S (fun o S' => ∃ r : Nat, o = .inl (some (.int (nI r))) ∧ roO lo kk c pn pg v0 D kk r ∧ S' = S) := by
  have h4 := pw4 kk (by omega)
  have hp4 : 0 < kk ^ 4 := Nat.pow_pos hk0
  refine ar_run (Nat.le_of_ble_eq_true rfl) (fun o S1 h => by obtain ⟨_, -, -, rfl⟩ := h; exact aq_le_refl _) ?_
  refine ar_push i_X7_roundOf_0 ?_
  refine ar_st i_X7_roundOf_3 rfl rfl ?_
  refine ar_push i_X7_roundOf_4 ?_
  refine ar_st i_X7_roundOf_5 rfl rfl ?_
  suffices key : ∀ jj a r (L : List (Nat × Value)), a + jj = kk → (L = [] ∨ ∃ w, L = [(4, .int w)]) → roO lo kk c pn pg v0 D a r → aG (d + 3) 196 (fun o S' => ∃ r : Nat, o = .inl (some (.int (nI r))) ∧ roO lo kk c pn pg v0 D kk r ∧ S' = S) 6 ((0, .ref 52) :: (1, .int (nI v0)) :: (2, .int (nI r)) :: (3, .int (nI a)) :: L) [] S from key kk 0 1000 [] (by omega) (Or.inl rfl) ⟨Nat.le_refl _, fun z => absurd z (Nat.lt_irrefl _), fun a t ha => absurd ha (Nat.not_lt_zero a)⟩
  intro jj
  induction jj with
  | zero =>
    intro a r L ha hL hr
    have ea : a = kk := ha
    rw [ea] at hr
    refine ar_ld i_X7_roundOf_6 rfl rfl ?_
    refine ar_ld i_X7_roundOf_7 rfl rfl ?_
    refine ar_gf i_X7_roundOf_8 (hO) rfl ?_
    refine ar_ift i_X7_roundOf_11 rfl (nI_le (show kk ≤ a by omega) (by omega)) ?_
    refine ar_ld i_X7_roundOf_61 rfl rfl ?_
    exact ar_ret i_X7_roundOf_62 rfl ⟨r, rfl, hr, rfl⟩
  | succ jj ih =>
    intro a r L ha hL hr
    have hak : a < kk := by omega
    have hb : (v0 * kk + a) % kk ^ 4 < kk ^ 4 := Nat.mod_lt _ hp4
    have hdb := hD _ hb
    have hr1 := hr.1
    have fin : ∀ r2, roO lo kk c pn pg v0 D (a + 1) r2 → aG (d + 3) 196 (fun o S' => ∃ r : Nat, o = .inl (some (.int (nI r))) ∧ roO lo kk c pn pg v0 D kk r ∧ S' = S) 54 [(0, .ref 52), (1, .int (nI v0)), (2, .int (nI r)), (3, .int (nI a)), (4, .int (nI (D ((v0 * kk + a) % kk ^ 4) + 1)))] [.int (nI r2)] S := by
      intro r2 h2
      refine ar_st i_X7_roundOf_54 rfl rfl ?_
      refine ar_inc i_X7_roundOf_55 rfl rfl ?_
      refine ar_go i_X7_roundOf_58 ?_
      rw [nI_1]
      exact ih (a + 1) r2 [(4, .int (nI (D ((v0 * kk + a) % kk ^ 4) + 1)))] (by omega) (Or.inr ⟨_, rfl⟩) h2
    have keep : (avP lo kk c pn pg 5 (v0 * kk + a) → r ≤ D ((v0 * kk + a) % kk ^ 4) + 1) → roO lo kk c pn pg v0 D (a + 1) r := fun hno => ⟨hr.1, hr.2.1, fun a' t ha' et => by
      by_cases e : a' = a
      · rw [e] at et
        by_cases hav : avP lo kk c pn pg 5 (v0 * kk + a)
        · rw [tgR_y hav] at et
          rw [← Option.some.inj et]
          exact hno hav
        · rw [tgR_n hav] at et
          cases et
      · exact hr.2.2 a' t (by omega) et⟩
    have body : aG (d + 3) 196 (fun o S' => ∃ r : Nat, o = .inl (some (.int (nI r))) ∧ roO lo kk c pn pg v0 D kk r ∧ S' = S) 29 [(0, .ref 52), (1, .int (nI v0)), (2, .int (nI r)), (3, .int (nI a)), (4, .int (nI (D ((v0 * kk + a) % kk ^ 4) + 1)))] [] S := by
      refine ar_ld i_X7_roundOf_29 rfl rfl ?_
      refine ar_gf i_X7_roundOf_30 (hO) rfl ?_
      refine ar_push i_X7_roundOf_33 ?_
      refine ar_ld i_X7_roundOf_34 rfl rfl ?_
      rw [show (3 : Int32) = nI 3 from rfl]
      refine ar_ar i_X7_roundOf_35 rfl ?_
      rw [pk_mul]
      refine ar_ld i_X7_roundOf_36 rfl rfl ?_
      refine ar_ar i_X7_roundOf_37 rfl ?_
      rw [nI_add]
      refine av_ldi i_X7_roundOf_38 (hre) (by omega) (by omega) ?_
      rw [hfe v0 hv0 a hak]
      by_cases hav : avP lo kk c pn pg 5 (v0 * kk + a)
      · refine ar_iff i_X7_roundOf_39 rfl (fun z => bI_nz.mpr hav z) ?_
        refine ar_ld i_X7_roundOf_42 rfl rfl ?_
        refine ar_ld i_X7_roundOf_44 rfl rfl ?_
        by_cases hlt : D ((v0 * kk + a) % kk ^ 4) + 1 < r
        · refine ar_iff i_X7_roundOf_45 rfl (nI_ge hlt (by omega)) ?_
          refine ar_ld i_X7_roundOf_48 rfl rfl ?_
          refine ar_go i_X7_roundOf_50 ?_
          refine fin _ ⟨by omega, fun _ => ⟨a, _, hak, tgR_y hav, rfl⟩, fun a' t ha' et => ?_⟩
          by_cases e : a' = a
          · rw [e, tgR_y hav] at et
            rw [← Option.some.inj et]
            exact Nat.le_refl _
          · have := hr.2.2 a' t (by omega) et
            omega
        · refine ar_ift i_X7_roundOf_45 rfl (nI_le (Nat.le_of_not_lt hlt) (by omega)) ?_
          refine ar_ld i_X7_roundOf_53 rfl rfl ?_
          exact fin r (keep fun _ => Nat.le_of_not_lt hlt)
      · refine ar_ift i_X7_roundOf_39 rfl (bI_f hav) ?_
        refine ar_ld i_X7_roundOf_53 rfl rfl ?_
        exact fin r (keep fun z => absurd z hav)
    refine ar_ld i_X7_roundOf_6 rfl rfl ?_
    refine ar_ld i_X7_roundOf_7 rfl rfl ?_
    refine ar_gf i_X7_roundOf_8 (hO) rfl ?_
    refine ar_iff i_X7_roundOf_11 rfl (nI_ge hak (by omega)) ?_
    refine ar_ld i_X7_roundOf_14 rfl rfl ?_
    refine ar_gf i_X7_roundOf_15 (hO) rfl ?_
    refine ar_ld i_X7_roundOf_18 rfl rfl ?_
    refine ar_ld i_X7_roundOf_19 rfl rfl ?_
    refine ar_ld i_X7_roundOf_20 rfl rfl ?_
    refine ar_cr i_X7_roundOf_21 rfl ⟨_, _, _, rfl, hO⟩ (Nat.le_of_ble_eq_true rfl) (m_behind d hO hk0 hk hv0 hak) ?_
    refine av_ldi i_X7_roundOf_24 (hr4) (by omega) (by omega) ?_
    rw [hf _ hb]
    refine ar_push i_X7_roundOf_25 ?_
    refine ar_ar i_X7_roundOf_26 rfl ?_
    rw [nI_1]
    rcases hL with e | ⟨w, e⟩
    · subst e
      refine ar_st i_X7_roundOf_27 rfl rfl ?_
      exact body
    · subst e
      refine ar_st i_X7_roundOf_27 rfl rfl ?_
      exact body
theorem m_spellsCycle (d : Nat) {S : aq_S} {kk c v0 r : Nat} {pn : Nat → Nat} {pg : Nat → Nat → Int32} {fe f c0 : Nat → Int32} {D : Nat → Nat} {th il err rd tl pc lo cur hs sv : Int32} (hO : mO S th (nI kk) il err rd tl pc lo cur hs sv) (hre : ba S 61 243 fe) (hfe : ∀ v, v < kk ^ 4 → ∀ a, a < kk → fe (3 * v + a) = bI (avP lo kk c pn pg 5 (v * kk + a))) (hr4 : ia S 64 81 f) (hf : ∀ w, w < kk ^ 4 → f w = nI (D w)) (hD : dsOk lo kk c pn pg v0 D) (hR : roO lo kk c pn pg v0 D kk r) (hr : r ≤ 40) (hr5 : ia S 65 40 c0) (hv0 : v0 < kk ^ 4) (hk0 : 0 < kk) (hk : kk ≤ 3) : aX (d + 4) 197 [.ref 52, .int (nI v0), .int (nI r)] S (fun o S' => o = .inl none ∧ (∃ p g, ia S' 65 40 g ∧ clo kk (tgR lo kk c pn pg) r p v0 ∧ (∀ m, clo kk (tgR lo kk c pn pg) r m v0 → p ≤ m) ∧ ∀ i, i < r → g i = wlet kk r p i) ∧ aq_fr S S' (fun q => q = 65)) := by
  have h4 := pw4 kk (by omega)
  have hp4 : 0 < kk ^ 4 := Nat.pow_pos hk0
  obtain ⟨a0, t0, ha0, et0, er0⟩ := hR.2.1 (by omega)
  refine ar_run (Nat.le_of_ble_eq_true rfl) (fun o S1 h => h.2.2.le) ?_
  suffices key : ∀ j i (S1 : aq_S) (p x : Nat) (g : Nat → Int32) (L : List (Nat × Value)), i + j = r → (L = [] ∨ ∃ w, L = [(5, .int w)]) → mO S1 th (nI kk) il err rd tl pc lo cur hs sv → ba S1 61 243 fe → ia S1 64 81 f → ia S1 65 40 g → p < kk ^ i → x < kk ^ 4 → gw kk (tgR lo kk c pn pg) i p v0 = some x → (0 < i → D x + i = r) → (∀ a t, a < kk → tgR lo kk c pn pg x a = some t → r ≤ D t + 1 + i) → (i < r → ∃ a t, a < kk ∧ tgR lo kk c pn pg x a = some t ∧ D t + 1 + i = r) → (∀ m, clo kk (tgR lo kk c pn pg) r m v0 → p ≤ m / kk ^ (r - i)) → (∀ y, y < i → g y = wlet kk i p y) → aq_fr S S1 (fun q => q = 65) → aG (d + 3) 197 (fun o S' => o = .inl none ∧ (∃ p g, ia S' 65 40 g ∧ clo kk (tgR lo kk c pn pg) r p v0 ∧ (∀ m, clo kk (tgR lo kk c pn pg) r m v0 → p ≤ m) ∧ ∀ i, i < r → g i = wlet kk r p i) ∧ aq_fr S S' (fun q => q = 65)) 5 ((0, .ref 52) :: (1, .int (nI v0)) :: (2, .int (nI r)) :: (3, .int (nI x)) :: (4, .int (nI i)) :: L) [] S1 by
    refine ar_ld i_X7_spellsCycle_0 rfl rfl ?_
    refine ar_st i_X7_spellsCycle_1 rfl rfl ?_
    refine ar_push i_X7_spellsCycle_2 ?_
    refine ar_st i_X7_spellsCycle_3 rfl rfl ?_
    exact key r 0 S 0 v0 c0 [] (by omega) (Or.inl rfl) hO hre hr4 hr5 Nat.one_pos hv0 rfl (fun z => absurd z (Nat.lt_irrefl 0)) (fun a t ha et => hR.2.2 a t ha et) (fun _ => ⟨a0, t0, ha0, et0, er0.symm⟩) (fun m _ => Nat.zero_le _) (fun y hy => absurd hy (Nat.not_lt_zero y)) aq_fr.rf
  intro j
  induction j with
  | zero =>
    intro i S1 p x g L hi hL o1 re r4 r5 hp hx hgw hDx hLb hE hmin hg hfr
    have ei : i = r := hi
    rw [ei] at hp hgw hDx hmin hg
    refine ar_ld i_X7_spellsCycle_5 rfl rfl ?_
    refine ar_ld i_X7_spellsCycle_7 rfl rfl ?_
    refine ar_ift i_X7_spellsCycle_8 rfl (nI_le (show r ≤ i by omega) (by omega)) ?_
    have hx0 : D x = 0 := by have := hDx (by omega); omega
    have ex : x = v0 := by
      obtain ⟨m, -, z⟩ := hD.1.2.2 x hx (by omega)
      rw [hx0] at z
      exact Option.some.inj z
    rw [ex] at hgw
    exact ar_retv i_X7_spellsCycle_78 ⟨rfl, ⟨p, g, r5, ⟨by omega, hp, hgw⟩, fun m hm => by
      have := hmin m hm
      rw [Nat.sub_self, Nat.pow_zero, Nat.div_one] at this
      exact this, hg⟩, hfr⟩
  | succ j ih =>
    intro i S1 p x g L hi hL o1 re r4 r5 hp hx hgw hDx hLb hE hmin hg hfr
    obtain ⟨as, ts, has, ets, eDs⟩ := hE (by omega)
    have cnd : ∀ a t, a < kk → tgR lo kk c pn pg x a = some t → avP lo kk c pn pg 5 (x * kk + a) ∧ t = (x * kk + a) % kk ^ 4 := by
      intro a t ha et
      by_cases hav : avP lo kk c pn pg 5 (x * kk + a)
      · rw [tgR_y hav] at et
        exact ⟨hav, (Option.some.inj et).symm⟩
      · rw [tgR_n hav] at et
        cases et
    have inner : ∀ jj a, a + jj = as → (∀ b, b < a → ¬ (avP lo kk c pn pg 5 (x * kk + b) ∧ D ((x * kk + b) % kk ^ 4) + 1 + i = r)) → aG (d + 3) 197 (fun o S' => o = .inl none ∧ (∃ p g, ia S' 65 40 g ∧ clo kk (tgR lo kk c pn pg) r p v0 ∧ (∀ m, clo kk (tgR lo kk c pn pg) r m v0 → p ≤ m) ∧ ∀ i, i < r → g i = wlet kk r p i) ∧ aq_fr S S' (fun q => q = 65)) 14 [(0, .ref 52), (1, .int (nI v0)), (2, .int (nI r)), (3, .int (nI x)), (4, .int (nI i)), (5, .int (nI a))] [] S1 := by
      have found : ∀ a, a < kk → avP lo kk c pn pg 5 (x * kk + a) → D ((x * kk + a) % kk ^ 4) + 1 + i = r → (∀ b, b < a → ¬ (avP lo kk c pn pg 5 (x * kk + b) ∧ D ((x * kk + b) % kk ^ 4) + 1 + i = r)) → aG (d + 3) 197 (fun o S' => o = .inl none ∧ (∃ p g, ia S' 65 40 g ∧ clo kk (tgR lo kk c pn pg) r p v0 ∧ (∀ m, clo kk (tgR lo kk c pn pg) r m v0 → p ≤ m) ∧ ∀ i, i < r → g i = wlet kk r p i) ∧ aq_fr S S' (fun q => q = 65)) 55 [(0, .ref 52), (1, .int (nI v0)), (2, .int (nI r)), (3, .int (nI x)), (4, .int (nI i)), (5, .int (nI a))] [] S1 := by
        intro a hak hav hDa hlow
        have hb : (x * kk + a) % kk ^ 4 < kk ^ 4 := Nat.mod_lt _ hp4
        refine ar_ld i_X7_spellsCycle_55 rfl rfl ?_
        refine ar_gf i_X7_spellsCycle_56 (o1) rfl ?_
        refine ar_ld i_X7_spellsCycle_59 rfl rfl ?_
        refine ar_ld i_X7_spellsCycle_61 rfl rfl ?_
        refine av_sti i_X7_spellsCycle_63 (by omega) (r5) (by omega) (by omega) (fun S2 g2 k2 => ?_)
        have o2 := o1.fr k2 (by omega)
        refine ar_ld i_X7_spellsCycle_64 rfl rfl ?_
        refine ar_ld i_X7_spellsCycle_65 rfl rfl ?_
        refine ar_ld i_X7_spellsCycle_66 rfl rfl ?_
        refine ar_cr i_X7_spellsCycle_68 rfl ⟨_, _, _, rfl, o2⟩ (Nat.le_of_ble_eq_true rfl) (m_behind d o2 hk0 hk hx hak) ?_
        refine ar_st i_X7_spellsCycle_71 rfl rfl ?_
        refine ar_inc i_X7_spellsCycle_72 rfl rfl ?_
        refine ar_go i_X7_spellsCycle_75 ?_
        rw [nI_1]
        refine ih (i + 1) S2 (p * kk + a) ((x * kk + a) % kk ^ 4) _ [(5, .int (nI a))] (by omega) (Or.inr ⟨_, rfl⟩) o2 (re.fr k2 (by omega)) (r4.fr k2 (by omega)) g2 (child_lt hp hak) hb (gw_step hak hgw (tgR_y hav)) (fun _ => by omega) (fun b t hbk et => ?_) (fun hlt => ?_) (fun m hm => ?_) (fun y hy => ?_) (hfr.tr k2)
        · have := hD.2 _ b t hb hbk et
          omega
        · obtain ⟨m, hm, z⟩ := hD.1.2.2 _ hb (by omega)
          generalize hw : (x * kk + a) % kk ^ 4 = w at *
          cases hDw : D w with
          | zero => omega
          | succ n =>
            rw [hDw] at hm z
            obtain ⟨t, hb2, z1, z2⟩ := gw_head hk0 hm z
            have h1 := dOk_le hk0 hD n _ t (tgR_lt hk0 z1) (Nat.mod_lt _ (Nat.pow_pos hk0)) z2
            have h2 := hD.2 w _ t hb hb2 z1
            exact ⟨_, t, hb2, z1, by omega⟩
        · have h1 := hmin m hm
          have e : m / kk ^ (r - i) = m / kk ^ (r - (i + 1)) / kk := by
            rw [Nat.div_div_eq_div_mul, ← Nat.pow_succ, show (r - (i + 1)).succ = r - i by omega]
          have hmul : m / kk ^ (r - (i + 1)) = m / kk ^ (r - i) * kk + m / kk ^ (r - (i + 1)) % kk := by
            have := Nat.div_add_mod (m / kk ^ (r - (i + 1))) kk
            rw [← e, Nat.mul_comm] at this
            exact this.symm
          by_cases hlt : p < m / kk ^ (r - i)
          · have : (p + 1) * kk ≤ m / kk ^ (r - i) * kk := Nat.mul_le_mul_right kk hlt
            rw [Nat.add_mul, Nat.one_mul] at this
            omega
          · have ep : p = m / kk ^ (r - i) := by omega
            have hbk := Nat.mod_lt (m / kk ^ (r - (i + 1))) hk0
            have hsp : m / kk ^ (r - (i + 1)) * kk ^ (r - (i + 1)) + m % kk ^ (r - (i + 1)) = m := by rw [Nat.mul_comm]; exact Nat.div_add_mod m _
            have hcl := hm.2.2
            rw [← hsp, show r = (i + 1) + (r - (i + 1)) by omega] at hcl
            rw [show (i + 1) + (r - (i + 1)) - (i + 1) = r - (i + 1) by omega] at hcl
            obtain ⟨t, z1, z2⟩ := (gw_app (p := i + 1) (t := 0) hk0 (r - (i + 1)) _ _ (Nat.mod_lt _ (Nat.pow_pos hk0))).mp hcl
            obtain ⟨y, z3, z4⟩ := gw_inv z1
            rw [← e, ← ep, hgw] at z3
            have exy : x = y := Option.some.inj z3
            rw [← exy] at z4
            obtain ⟨hav2, et2⟩ := cnd _ t hbk z4
            have h2 := dOk_le hk0 hD _ _ t (tgR_lt hk0 z4) (Nat.mod_lt _ (Nat.pow_pos hk0)) z2
            have h3 := hLb _ t hbk z4
            have h5 : a ≤ m / kk ^ (r - (i + 1)) % kk := Nat.le_of_not_lt fun z => hlow _ z ⟨hav2, by rw [← et2]; omega⟩
            rw [hmul, ← ep]
            omega
        · by_cases ey : y = i
          · rw [ey, upd_eq, wlet_last hak]
          · rw [upd_ne ey, wlet_in hak (by omega)]
            exact hg y (by omega)
      have test : ∀ a, a < kk → aG (d + 3) 197 (fun o S' => o = .inl none ∧ (∃ p g, ia S' 65 40 g ∧ clo kk (tgR lo kk c pn pg) r p v0 ∧ (∀ m, clo kk (tgR lo kk c pn pg) r m v0 → p ≤ m) ∧ ∀ i, i < r → g i = wlet kk r p i) ∧ aq_fr S S' (fun q => q = 65)) 55 [(0, .ref 52), (1, .int (nI v0)), (2, .int (nI r)), (3, .int (nI x)), (4, .int (nI i)), (5, .int (nI a))] [] S1 ∨ ¬ (avP lo kk c pn pg 5 (x * kk + a) ∧ D ((x * kk + a) % kk ^ 4) + 1 + i = r) → (¬ (avP lo kk c pn pg 5 (x * kk + a) ∧ D ((x * kk + a) % kk ^ 4) + 1 + i = r) → aG (d + 3) 197 (fun o S' => o = .inl none ∧ (∃ p g, ia S' 65 40 g ∧ clo kk (tgR lo kk c pn pg) r p v0 ∧ (∀ m, clo kk (tgR lo kk c pn pg) r m v0 → p ≤ m) ∧ ∀ i, i < r → g i = wlet kk r p i) ∧ aq_fr S S' (fun q => q = 65)) 49 [(0, .ref 52), (1, .int (nI v0)), (2, .int (nI r)), (3, .int (nI x)), (4, .int (nI i)), (5, .int (nI a))] [] S1) → aG (d + 3) 197 (fun o S' => o = .inl none ∧ (∃ p g, ia S' 65 40 g ∧ clo kk (tgR lo kk c pn pg) r p v0 ∧ (∀ m, clo kk (tgR lo kk c pn pg) r m v0 → p ≤ m) ∧ ∀ i, i < r → g i = wlet kk r p i) ∧ aq_fr S S' (fun q => q = 65)) 14 [(0, .ref 52), (1, .int (nI v0)), (2, .int (nI r)), (3, .int (nI x)), (4, .int (nI i)), (5, .int (nI a))] [] S1 := by
        intro a hak hy hn
        have hb : (x * kk + a) % kk ^ 4 < kk ^ 4 := Nat.mod_lt _ hp4
        have hdb := hD.1.1 _ hb
        refine ar_ld i_X7_spellsCycle_14 rfl rfl ?_
        refine ar_gf i_X7_spellsCycle_15 (o1) rfl ?_
        refine ar_push i_X7_spellsCycle_18 ?_
        refine ar_ld i_X7_spellsCycle_19 rfl rfl ?_
        rw [show (3 : Int32) = nI 3 from rfl]
        refine ar_ar i_X7_spellsCycle_20 rfl ?_
        rw [pk_mul]
        refine ar_ld i_X7_spellsCycle_21 rfl rfl ?_
        refine ar_ar i_X7_spellsCycle_23 rfl ?_
        rw [nI_add]
        refine av_ldi i_X7_spellsCycle_24 (re) (by omega) (by omega) ?_
        rw [hfe x hx a hak]
        by_cases hav : avP lo kk c pn pg 5 (x * kk + a)
        · refine ar_iff i_X7_spellsCycle_25 rfl (fun z => bI_nz.mpr hav z) ?_
          refine ar_ld i_X7_spellsCycle_28 rfl rfl ?_
          refine ar_gf i_X7_spellsCycle_29 (o1) rfl ?_
          refine ar_ld i_X7_spellsCycle_32 rfl rfl ?_
          refine ar_ld i_X7_spellsCycle_33 rfl rfl ?_
          refine ar_ld i_X7_spellsCycle_34 rfl rfl ?_
          refine ar_cr i_X7_spellsCycle_36 rfl ⟨_, _, _, rfl, o1⟩ (Nat.le_of_ble_eq_true rfl) (m_behind d o1 hk0 hk hx hak) ?_
          refine av_ldi i_X7_spellsCycle_39 (r4) (by omega) (by omega) ?_
          rw [hf _ hb]
          refine ar_ld i_X7_spellsCycle_40 rfl rfl ?_
          refine ar_push i_X7_spellsCycle_41 ?_
          refine ar_ar i_X7_spellsCycle_42 rfl ?_
          rw [nI_m1 (by omega)]
          refine ar_ld i_X7_spellsCycle_43 rfl rfl ?_
          refine ar_ar i_X7_spellsCycle_45 rfl ?_
          rw [pk_sub (by omega)]
          by_cases hc : D ((x * kk + a) % kk ^ 4) + 1 + i = r
          · refine ar_ift i_X7_spellsCycle_46 rfl (by rw [show D ((x * kk + a) % kk ^ 4) = r - 1 - i by omega]) ?_
            exact hy.resolve_right (fun z => z ⟨hav, hc⟩)
          · refine ar_iff i_X7_spellsCycle_46 rfl (fun z => hc (by have := nI_inj (by omega) (by omega) z; omega)) ?_
            exact hn (fun z => hc z.2)
        · refine ar_ift i_X7_spellsCycle_25 rfl (bI_f hav) ?_
          exact hn (fun z => hav z.1)
      intro jj
      induction jj with
      | zero =>
        intro a ha hlow
        have ea : a = as := ha
        obtain ⟨hav, et⟩ := cnd as ts has ets
        have hc : D ((x * kk + as) % kk ^ 4) + 1 + i = r := by rw [← et]; exact eDs
        rw [← ea] at hav hc
        exact test a (by omega) (Or.inl (found a (by omega) hav hc hlow)) (fun z => absurd ⟨hav, hc⟩ z)
      | succ jj ihj =>
        intro a ha hlow
        by_cases hc : avP lo kk c pn pg 5 (x * kk + a) ∧ D ((x * kk + a) % kk ^ 4) + 1 + i = r
        · exact test a (by omega) (Or.inl (found a (by omega) hc.1 hc.2 hlow)) (fun z => absurd hc z)
        · refine test a (by omega) (Or.inr hc) (fun _ => ?_)
          refine ar_inc i_X7_spellsCycle_49 rfl rfl ?_
          refine ar_go i_X7_spellsCycle_52 ?_
          rw [nI_1]
          exact ihj (a + 1) (by omega) (fun b hb => by
            by_cases e : b = a
            · rw [e]; exact hc
            · exact hlow b (by omega))
    have start := inner as 0 (by omega) (fun b hb => absurd hb (Nat.not_lt_zero b))
    refine ar_ld i_X7_spellsCycle_5 rfl rfl ?_
    refine ar_ld i_X7_spellsCycle_7 rfl rfl ?_
    refine ar_iff i_X7_spellsCycle_8 rfl (nI_ge (show i < r by omega) (by omega)) ?_
    rcases hL with e | ⟨w, e⟩
    · subst e
      refine ar_push i_X7_spellsCycle_11 ?_
      refine ar_st i_X7_spellsCycle_12 rfl rfl ?_
      exact start
    · subst e
      refine ar_push i_X7_spellsCycle_11 ?_
      refine ar_st i_X7_spellsCycle_12 rfl rfl ?_
      exact start
end
