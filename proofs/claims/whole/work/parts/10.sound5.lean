/-! ===== ends, calls, throws, switches ===== -/
section
variable {T : Nat → Nat → Option aq_Op} {Nl : Nat → Nat} {Ms : Nat → aq_M} {nc : List (String × String)} {strs : List (Nat × String)} {cc : ByteArray} {nL : Nat} {own mn : String} {ret : Option FieldType} {hh : List (Nat × Nat × Nat × Nat)} {pc n : Nat}
theorem aq_wd {w : Jvm.Cond} (h : w ∈ lw_tbl) (hg : goodWord w = true) : w ∈ aq_WA := List.mem_filter.mpr ⟨h, hg⟩
theorem aq_good {w : Jvm.Cond} (h : w ∈ lw_tbl) (hg : goodWord w = true) : GoodIn aq_WA (w :: aq_WA) := fun x hx => by
  rcases List.mem_cons.mp hx with rfl | hx
  · exact ⟨aq_wd h hg, good_of_word hg⟩
  · exact ⟨hx, good_of_word (List.mem_filter.mp hx).2⟩
theorem aq_end {D : va_G} {cA : Nat → ClassId} {b β : Nat} {s : State} {H : Heap} {locs : List Loc} {S : aq_S} (hR : aq_R D cA b β s S H) (hS : va_S (fun q => β < q) s.heap H locs) {o : aq_O} {v : Option Value} (ho : o = .inl v) {args : Array Value} (t : State) (ht : t.heap = H) (hW : s.WarmedH t.vm) : aq_Qc D cA b β o S args s (.returned (v.map (aq_cV b β))) t :=
  ⟨⟨v, ho, rfl⟩, by rw [ht]; exact aq_R.to hW.alike hR, hS.F ht⟩
theorem so_ireturn  (hd : decode cc pc = .ok (.ireturn, 1)) (hret : ret = some .int) : aq_SOp T Nl Ms nc strs cc nL own mn ret hh pc (aq_ret 0) := by
  intro p l e R s m args below meth c D cA b β d S0 S' o C0 IH K L st S hK h
  obtain ⟨hx, hb, hr, hml, hown, hlk, hts, hV, hbβ, hβs, hst0, het, hmn, hRf, hRl, hRc, hRs⟩ := C0
  obtain ⟨v, rfl, hv, ho, rfl⟩ := h
  refine ⟨Nat.le_refl _, Nat.le_refl _, Nat.le_refl _, fun H locs cells slots ls hR hS hl e1 e2 => ?_⟩
  have hwc : cells ≤ R.cells := by omega
  have hws : slots ≤ R.slots := by omega
  have hq := fun (t : State) (ht : t.heap = H) (hW : s.WarmedH t.vm) => aq_end (args := args) hR hS ho.symm t ht hW
  have hr' : meth.sig.returnType = some .int := hr.trans hret
  refine vx_ret (W.widen (k := R.cells) (n := R.slots) hwc hws ?_)
  cases v with
  | int x => exact W.iret hx hb hr' hq hS.2.2 hd hlk
  | _ => cases hv
theorem so_zreturn  (hd : decode cc pc = .ok (.ireturn, 1)) (hret : ret = some .boolean) : aq_SOp T Nl Ms nc strs cc nL own mn ret hh pc (aq_ret 5) := by
  intro p l e R s m args below meth c D cA b β d S0 S' o C0 IH K L st S hK h
  obtain ⟨hx, hb, hr, hml, hown, hlk, hts, hV, hbβ, hβs, hst0, het, hmn, hRf, hRl, hRc, hRs⟩ := C0
  obtain ⟨v, rfl, hv, ho, rfl⟩ := h
  refine ⟨Nat.le_refl _, Nat.le_refl _, Nat.le_refl _, fun H locs cells slots ls hR hS hl e1 e2 => ?_⟩
  have hwc : cells ≤ R.cells := by omega
  have hws : slots ≤ R.slots := by omega
  have hq := fun (t : State) (ht : t.heap = H) (hW : s.WarmedH t.vm) => aq_end (args := args) hR hS ho.symm t ht hW
  have hr' : meth.sig.returnType = some .boolean := hr.trans hret
  refine vx_ret (W.widen (k := R.cells) (n := R.slots) hwc hws ?_)
  cases v with
  | int x => exact W.zret hx hb hr' (by rcases hv with rfl | rfl <;> decide +kernel) hq hS.2.2 hd hlk
  | _ => cases hv
theorem so_lreturn  (hd : decode cc pc = .ok (.lreturn, 1)) (hret : ret = some .long) : aq_SOp T Nl Ms nc strs cc nL own mn ret hh pc (aq_ret 1) := by
  intro p l e R s m args below meth c D cA b β d S0 S' o C0 IH K L st S hK h
  obtain ⟨hx, hb, hr, hml, hown, hlk, hts, hV, hbβ, hβs, hst0, het, hmn, hRf, hRl, hRc, hRs⟩ := C0
  obtain ⟨v, rfl, hv, ho, rfl⟩ := h
  refine ⟨Nat.le_refl _, Nat.le_refl _, Nat.le_refl _, fun H locs cells slots ls hR hS hl e1 e2 => ?_⟩
  have hwc : cells ≤ R.cells := by omega
  have hws : slots ≤ R.slots := by omega
  have hq := fun (t : State) (ht : t.heap = H) (hW : s.WarmedH t.vm) => aq_end (args := args) hR hS ho.symm t ht hW
  have hr' : meth.sig.returnType = some .long := hr.trans hret
  refine vx_ret (W.widen (k := R.cells) (n := R.slots) hwc hws ?_)
  cases v with
  | long x => exact W.lret hx hb hr' hq hS.2.2 hd hlk
  | _ => cases hv
theorem so_dreturn  (hd : decode cc pc = .ok (.dreturn, 1)) (hret : ret = some .double) : aq_SOp T Nl Ms nc strs cc nL own mn ret hh pc (aq_ret 3) := by
  intro p l e R s m args below meth c D cA b β d S0 S' o C0 IH K L st S hK h
  obtain ⟨hx, hb, hr, hml, hown, hlk, hts, hV, hbβ, hβs, hst0, het, hmn, hRf, hRl, hRc, hRs⟩ := C0
  obtain ⟨v, rfl, hv, ho, rfl⟩ := h
  refine ⟨Nat.le_refl _, Nat.le_refl _, Nat.le_refl _, fun H locs cells slots ls hR hS hl e1 e2 => ?_⟩
  have hwc : cells ≤ R.cells := by omega
  have hws : slots ≤ R.slots := by omega
  have hq := fun (t : State) (ht : t.heap = H) (hW : s.WarmedH t.vm) => aq_end (args := args) hR hS ho.symm t ht hW
  have hr' : meth.sig.returnType = some .double := hr.trans hret
  refine vx_ret (W.widen (k := R.cells) (n := R.slots) hwc hws ?_)
  cases v with
  | double x => exact W.dret hx hb hr' hq hS.2.2 hd hlk
  | _ => cases hv
theorem so_areturn {X : String} (hd : decode cc pc = .ok (.areturn, 1)) (hret : ret = some (.object X)) : aq_SOp T Nl Ms nc strs cc nL own mn ret hh pc (aq_ret 4) := by
  intro p l e R s m args below meth c D cA b β d S0 S' o C0 IH K L st S hK h
  obtain ⟨hx, hb, hr, hml, hown, hlk, hts, hV, hbβ, hβs, hst0, het, hmn, hRf, hRl, hRc, hRs⟩ := C0
  obtain ⟨v, rfl, hv, ho, rfl⟩ := h
  refine ⟨Nat.le_refl _, Nat.le_refl _, Nat.le_refl _, fun H locs cells slots ls hR hS hl e1 e2 => ?_⟩
  have hwc : cells ≤ R.cells := by omega
  have hws : slots ≤ R.slots := by omega
  have hq := fun (t : State) (ht : t.heap = H) (hW : s.WarmedH t.vm) => aq_end (args := args) hR hS ho.symm t ht hW
  have hr' : meth.sig.returnType = some (.object X) := hr.trans hret
  refine vx_ret (W.widen (k := R.cells) (n := R.slots) hwc hws ?_)
  cases v with
  | ref x => exact W.aret hx hb hr' (Or.inl ⟨_, rfl⟩) (Or.inr ⟨_, rfl⟩) hq hS.2.2 hd hlk
  | null => exact W.aret hx hb hr' (Or.inl ⟨_, rfl⟩) (Or.inl rfl) hq hS.2.2 hd hlk
  | _ => cases hv
theorem so_return (hd : decode cc pc = .ok (.return_, 1)) (hret : ret = none) : aq_SOp T Nl Ms nc strs cc nL own mn ret hh pc aq_retv := by
  intro p l e R s m args below meth c D cA b β d S0 S' o C0 IH K L st S hK h
  obtain ⟨hx, hb, hr, hml, hown, hlk, hts, hV, hbβ, hβs, hst0, het, hmn, hRf, hRl, hRc, hRs⟩ := C0
  obtain ⟨rfl, ho, rfl⟩ := h
  refine ⟨Nat.le_refl _, Nat.le_refl _, Nat.le_refl _, fun H locs cells slots ls hR hS hl e1 e2 => ?_⟩
  have hwc : cells ≤ R.cells := by omega
  have hws : slots ≤ R.slots := by omega
  have hq := fun (t : State) (ht : t.heap = H) (hW : s.WarmedH t.vm) => aq_end (args := args) hR hS ho.symm t ht hW
  exact vx_ret (W.widen (k := R.cells) (n := R.slots) hwc hws (W.vret hx hb (hr.trans hret) hq hS.2.2 hd hlk))
theorem so_imin {idx : Nat} (hd : decode cc pc = .ok (.invokestatic idx, 3)) (h1 : Jvm.Cond.methodLink own idx Lib.Math.min.name ∈ lw_tbl) (h2 : Jvm.Cond.static Lib.Math.min.name ∈ lw_tbl) (h3 : Jvm.Cond.initialized "java/lang/Math" ∈ lw_tbl) (h4 : Jvm.Cond.code Lib.Math.min.name Lib.Math.min.code 2 (some .int) ∈ lw_tbl) : aq_SOp T Nl Ms nc strs cc nL own mn ret hh pc (aq_ar af_imin (pc + 3)) := by
  intro p l e R s m args below meth c D cA b β d S0 S' o C0 IH K L st S hK h
  obtain ⟨hx, hb, hr, hml, hown, hlk, hts, hV, hbβ, hβs, hst0, het, hmn, hRf, hRl, hRc, hRs⟩ := C0
  obtain ⟨r, hf, h⟩ := h
  obtain ⟨g1, g2, g3, g4⟩ := hK _ _ _ _ h
  refine ⟨g1, g2, g3, fun H locs cells slots ls hR hS hl e1 e2 => ?_⟩
  have kk := g4 H locs cells slots ls hR hS hl e1 e2
  unfold af_imin at hf
  split at hf
  · cases hf
    exact va_mmin hx hb (hml.trans hl.1.symm) hown (hts _ (aq_wd h1 rfl)) (hts _ (aq_wd h2 rfl)) (hts _ (aq_wd h3 rfl)) (hts _ (aq_wd h4 rfl)) (by omega) (by simp; omega) (by omega) (by omega) hd kk
  · cases hf
theorem so_d2bits {idx : Nat} (hd : decode cc pc = .ok (.invokestatic idx, 3)) (h1 : Jvm.Cond.methodLink own idx ⟨"java/lang/Double", "doubleToRawLongBits", "(D)J"⟩ ∈ lw_tbl) (h2 : Jvm.Cond.native ⟨"java/lang/Double", "doubleToRawLongBits", "(D)J"⟩ ∈ lw_tbl) (h3 : Jvm.Cond.static ⟨"java/lang/Double", "doubleToRawLongBits", "(D)J"⟩ ∈ lw_tbl) (h4 : Jvm.Cond.initialized "java/lang/Double" ∈ lw_tbl) : aq_SOp T Nl Ms nc strs cc nL own mn ret hh pc (aq_ar af_d2bits (pc + 3)) := by
  intro p l e R s m args below meth c D cA b β d S0 S' o C0 IH K L st S hK h
  obtain ⟨hx, hb, hr, hml, hown, hlk, hts, hV, hbβ, hβs, hst0, het, hmn, hRf, hRl, hRc, hRs⟩ := C0
  obtain ⟨r, hf, h⟩ := h
  obtain ⟨g1, g2, g3, g4⟩ := hK _ _ _ _ h
  refine ⟨g1, g2, g3, fun H locs cells slots ls hR hS hl e1 e2 => ?_⟩
  have kk := g4 H locs cells slots ls hR hS hl e1 e2
  unfold af_d2bits at hf
  split at hf
  · cases hf
    exact vn_d2l hx hb (hml.trans hl.1.symm) hown (hts _ (aq_wd h1 rfl)) (hts _ (aq_wd h2 rfl)) (hts _ (aq_wd h3 rfl)) (hts _ (aq_wd h4 rfl)) (by omega) (by simp; omega) hd kk
  · cases hf
theorem so_f2bits {idx : Nat} (hd : decode cc pc = .ok (.invokestatic idx, 3)) (h1 : Jvm.Cond.methodLink own idx ⟨"java/lang/Float", "floatToRawIntBits", "(F)I"⟩ ∈ lw_tbl) (h2 : Jvm.Cond.native ⟨"java/lang/Float", "floatToRawIntBits", "(F)I"⟩ ∈ lw_tbl) (h3 : Jvm.Cond.static ⟨"java/lang/Float", "floatToRawIntBits", "(F)I"⟩ ∈ lw_tbl) (h4 : Jvm.Cond.initialized "java/lang/Float" ∈ lw_tbl) : aq_SOp T Nl Ms nc strs cc nL own mn ret hh pc (aq_ar af_f2bits (pc + 3)) := by
  intro p l e R s m args below meth c D cA b β d S0 S' o C0 IH K L st S hK h
  obtain ⟨hx, hb, hr, hml, hown, hlk, hts, hV, hbβ, hβs, hst0, het, hmn, hRf, hRl, hRc, hRs⟩ := C0
  obtain ⟨r, hf, h⟩ := h
  obtain ⟨g1, g2, g3, g4⟩ := hK _ _ _ _ h
  refine ⟨g1, g2, g3, fun H locs cells slots ls hR hS hl e1 e2 => ?_⟩
  have kk := g4 H locs cells slots ls hR hS hl e1 e2
  unfold af_f2bits at hf
  split at hf
  · cases hf
    exact vn_f2i hx hb (hml.trans hl.1.symm) hown (hts _ (aq_wd h1 rfl)) (hts _ (aq_wd h2 rfl)) (hts _ (aq_wd h3 rfl)) (hts _ (aq_wd h4 rfl)) (by omega) (by simp; omega) hd kk
  · cases hf
theorem so_sw {len : Nat} {dflt hi : Int} {offs : Array Int} {ts : List Nat} {dt : Nat} (hd : decode cc pc = .ok (.tableswitch dflt 0 hi offs, len)) (hhi : hi = (ts.length : Int) - 1) (ht : ∀ (i t : Nat), ts[i]? = some t → ∃ off, offs[i]? = some off ∧ (pc : Int) + off = (t : Int)) (hdt : (pc : Int) + dflt = (dt : Int)) : aq_SOp T Nl Ms nc strs cc nL own mn ret hh pc (aq_sw ts dt) := by
  intro p l e R s m args below meth c D cA b β d S0 S' o C0 IH K L st S hK h
  obtain ⟨hx, hb, hr, hml, hown, hlk, hts, hV, hbβ, hβs, hst0, het, hmn, hRf, hRl, hRc, hRs⟩ := C0
  obtain ⟨x, r, rfl, k1, k2⟩ := h
  by_cases hxr : x.toInt < 0 ∨ (ts.length : Int) ≤ x.toInt
  · obtain ⟨g1, g2, g3, g4⟩ := hK _ _ _ _ (k2 hxr)
    refine ⟨g1, g2, g3, fun H locs cells slots ls hR hS hl e1 e2 => ?_⟩
    exact lv_tableOut hx hb hd (by omega) hdt (g4 H locs cells slots ls hR hS hl e1 e2)
  · have hx0 : 0 ≤ x.toInt := by omega
    have hx1 : x.toInt < ts.length := by omega
    obtain ⟨i, hi'⟩ : ∃ i : Nat, x.toInt = (i : Int) := ⟨x.toInt.toNat, by omega⟩
    have hlt : i < ts.length := by omega
    have hti : ts[i]? = some ts[i] := List.getElem?_eq_getElem hlt
    obtain ⟨off, ho1, ho2⟩ := ht i _ hti
    obtain ⟨g1, g2, g3, g4⟩ := hK _ _ _ _ (k1 i _ hi' hti)
    refine ⟨g1, g2, g3, fun H locs cells slots ls hR hS hl e1 e2 => ?_⟩
    exact lv_tableIn hx hb hd (by omega) (by omega) (by rw [show (x.toInt - 0).toNat = i by omega]; exact ho1) ho2 (g4 H locs cells slots ls hR hS hl e1 e2)
theorem so_thr {cls text Y0 : String} {r0 : List String} {ik is ic i0 : Nat} {b0 : ByteArray} (hcls : Bundle.fit cls = true) (hY0 : Bundle.fit Y0 = true) (hr0 : ∀ n ∈ r0, Bundle.fit n = true) (hb0_0 : decode b0 0 = .ok (.aload_n 0, 1)) (hb0_1 : decode b0 1 = .ok (.aload_n 1, 1)) (hb0_2 : decode b0 2 = .ok (.invokespecial i0, 3)) (hb0_5 : decode b0 5 = .ok (.return_, 1)) (hlen : r0.length ≤ 4)
    (hk : Jvm.Cond.classLink own ik cls ∈ lw_tbl) (hini : Jvm.Cond.initialized cls ∈ lw_tbl) (hstr : (is, text) ∈ strs) (ho6 : own = RX6) (hat : ∀ w ∈ ax_atS own ic cls Y0 r0 i0 b0, w ∈ lw_tbl ∧ (goodWord w || aq_bad w) = true) (hhh : hh = [])
    (d0 : decode cc pc = .ok (.new ik, 3)) (d3 : decode cc (pc + 3) = .ok (.dup, 1)) (d4 : decode cc (pc + 4) = .ok (.ldc is, 2)) (d6 : decode cc (pc + 6) = .ok (.invokespecial ic, 3)) (d9 : decode cc (pc + 9) = .ok (.athrow, 1)) : aq_SOp T Nl Ms nc strs cc nL own mn ret hh pc (aq_thr cls) := by
  intro p l e R s m args below meth c D cA b β d S0 S' o C0 IH K L st S hK h
  obtain ⟨hx, hb, hr, hml, hown, hlk, hts, hV, hbβ, hβs, hst0, het, hmn, hRf, hRl, hRc, hRs⟩ := C0
  obtain ⟨hsum, ho, hS'⟩ := h
  subst hS'
  refine ⟨Nat.le_refl _, Nat.le_add_right _ _, Nat.le_add_right _ _, fun H locs cells slots ls hR hS hl e1 e2 => ?_⟩
  have hRc' : S.1 + (S.2.1 + 1) ≤ S0.1 + S0.2.1 + R.cells := hRc
  have hRs' : S.2.2.1 + 6 ≤ S0.2.2.1 + R.slots := hRs
  subst ho6
  obtain ⟨sa, hsa⟩ := hV.2.2.2.1 _ hstr
  have hw : ∀ w, w ∈ lw_tbl → (goodWord w || aq_bad w) = true → w.before args s = true := fun w hw hg => by
    cases hgw : goodWord w with
    | true => exact hts _ (aq_wd hw hgw)
    | false => rw [hgw] at hg; exact va_Nw.use (aq_bad_tab hg) (hV.2.1 w hw hg)
  have hot : ∀ w, (goodWord w || aq_bad w) = true → vx_ot w = true := fun w hg => by
    unfold vx_ot
    cases hgw : goodWord w with
    | true => simp
    | false => rw [hgw] at hg; rw [aq_bad_tab hg]; rfl
  refine ax_make (A := fun q => β < q) hx hb hst0 hown hcls hY0 hr0 hb0_0 hb0_1 hb0_2 hb0_5 (hts _ (aq_wd hk rfl)) (hts _ (aq_wd hini rfl)) hsa (fun w h => hw w (hat w h).1 (hat w h).2) (fun w h => ?_) hV.2.2.2.2.1 hV.2.2.2.2.2.1 hS (hl.1.trans hml.symm) d0 d3 d4 d6 (by simp only [List.length_cons]; omega) (by rw [aq_cV_sum]; simp only [List.length_cons]; omega) (by omega) (by omega) (fun q H1 ce hce hcv hcl hz hq hS1 => ?_)
  · rcases List.mem_cons.mp h with rfl | h
    · rfl
    · rcases List.mem_cons.mp h with rfl | h
      · rfl
      · exact hot w (hat w h).2
  · refine ax_athrow hx hb d9 (vx_out (by rw [het, hhh]; intro x hx; cases hx) hlk hce hcv hcl (fun t ht hW => ⟨ho.symm, by rw [ht]; exact aq_R.to hW (aq_R_more hR hz hq hbβ (by decide)), hS1.F ht⟩) hS1.2.2 (by omega) (by omega))
theorem so_thrW {cls text Y0 : String} {r0 : List String} {ik is ic i0 : Nat} {b0 : ByteArray} (hcls : Bundle.fit cls = true) (hY0 : Bundle.fit Y0 = true) (hr0 : ∀ n ∈ r0, Bundle.fit n = true) (hb0_0 : decode b0 0 = .ok (.aload_n 0, 1)) (hb0_1 : decode b0 1 = .ok (.aload_n 1, 1)) (hb0_2 : decode b0 2 = .ok (.invokespecial i0, 3)) (hb0_5 : decode b0 5 = .ok (.return_, 1)) (hlen : r0.length ≤ 4)
    (hk : Jvm.Cond.classLink own ik cls ∈ lw_tbl) (hini : Jvm.Cond.initialized cls ∈ lw_tbl) (hstr : (is, text) ∈ strs) (ho6 : own = RX6) (hat : ∀ w ∈ ax_atS own ic cls Y0 r0 i0 b0, w ∈ lw_tbl ∧ (goodWord w || aq_bad w) = true) (hhh : hh = [])
    (d0 : decode cc pc = .ok (.new ik, 3)) (d3 : decode cc (pc + 3) = .ok (.dup, 1)) (d4 : decode cc (pc + 4) = .ok (.ldc_w is, 3)) (d6 : decode cc (pc + 7) = .ok (.invokespecial ic, 3)) (d9 : decode cc (pc + 10) = .ok (.athrow, 1)) : aq_SOp T Nl Ms nc strs cc nL own mn ret hh pc (aq_thr cls) := by
  intro p l e R s m args below meth c D cA b β d S0 S' o C0 IH K L st S hK h
  obtain ⟨hx, hb, hr, hml, hown, hlk, hts, hV, hbβ, hβs, hst0, het, hmn, hRf, hRl, hRc, hRs⟩ := C0
  obtain ⟨hsum, ho, hS'⟩ := h
  subst hS'
  refine ⟨Nat.le_refl _, Nat.le_add_right _ _, Nat.le_add_right _ _, fun H locs cells slots ls hR hS hl e1 e2 => ?_⟩
  have hRc' : S.1 + (S.2.1 + 1) ≤ S0.1 + S0.2.1 + R.cells := hRc
  have hRs' : S.2.2.1 + 6 ≤ S0.2.2.1 + R.slots := hRs
  subst ho6
  obtain ⟨sa, hsa⟩ := hV.2.2.2.1 _ hstr
  have hw : ∀ w, w ∈ lw_tbl → (goodWord w || aq_bad w) = true → w.before args s = true := fun w hw hg => by
    cases hgw : goodWord w with
    | true => exact hts _ (aq_wd hw hgw)
    | false => rw [hgw] at hg; exact va_Nw.use (aq_bad_tab hg) (hV.2.1 w hw hg)
  have hot : ∀ w, (goodWord w || aq_bad w) = true → vx_ot w = true := fun w hg => by
    unfold vx_ot
    cases hgw : goodWord w with
    | true => simp
    | false => rw [hgw] at hg; rw [aq_bad_tab hg]; rfl
  refine ax_makeW (A := fun q => β < q) hx hb hst0 hown hcls hY0 hr0 hb0_0 hb0_1 hb0_2 hb0_5 (hts _ (aq_wd hk rfl)) (hts _ (aq_wd hini rfl)) hsa (fun w h => hw w (hat w h).1 (hat w h).2) (fun w h => ?_) hV.2.2.2.2.1 hV.2.2.2.2.2.1 hS (hl.1.trans hml.symm) d0 d3 d4 d6 (by simp only [List.length_cons]; omega) (by rw [aq_cV_sum]; simp only [List.length_cons]; omega) (by omega) (by omega) (fun q H1 ce hce hcv hcl hz hq hS1 => ?_)
  · rcases List.mem_cons.mp h with rfl | h
    · rfl
    · rcases List.mem_cons.mp h with rfl | h
      · rfl
      · exact hot w (hat w h).2
  · refine ax_athrow hx hb d9 (vx_out (by rw [het, hhh]; intro x hx; cases hx) hlk hce hcv hcl (fun t ht hW => ⟨ho.symm, by rw [ht]; exact aq_R.to hW (aq_R_more hR hz hq hbβ (by decide)), hS1.F ht⟩) hS1.2.2 (by omega) (by omega))
end
