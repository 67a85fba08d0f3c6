/-! ===== calls ===== -/
section
theorem aq_pop_spec : ∀ {n : Nat} {st As r : List Value}, aq_pop n st = some (As, r) → st = As.reverse ++ r ∧ As.length = n
  | 0, st, As, r, h => by cases h; exact ⟨rfl, rfl⟩
  | n + 1, v :: st, As, r, h => by
    unfold aq_pop at h
    cases hq : aq_pop n st with
    | none => rw [hq] at h; cases h
    | some q =>
      obtain ⟨A0, r0⟩ := q
      rw [hq] at h
      cases h
      obtain ⟨h1, h2⟩ := aq_pop_spec hq
      exact ⟨by rw [h1]; simp, by simp [h2]⟩
  | n + 1, [], As, r, h => by cases h
variable {D : va_G} {cA : Nat → ClassId} {nc : List (String × String)} {strs : List (Nat × String)} {b β : Nat}
theorem aq_blind {As : List Value} {S : aq_S} : FrameBlind (aq_Pc D cA nc strs b β As S) := fun a U g mk q => by
  obtain ⟨q0, qR, qV⟩ := q
  exact ⟨q0, aq_R.to (U := U.calling g mk a) (Vm.Alike.refl U.vm) qR, aq_V.to (U := U.calling g mk a) (State.WarmedH.refl U) (fun _ _ _ => rfl) qV⟩
variable {p : Program} {l : Launch} {e : Env} {R : Room} {s : State} {m : MethodId} {args : Array Value} {below : List Frame} {meth : Method} {c : Code} {H : Heap} {locs : List Loc} {cells slots : Nat} {Q : State → Prop} {pc : Nat} {ls : Array Slot} {rest st0 : List Value} {a : Array Value}
/-- what a callee's start asks, out of the caller's state -/
theorem aq_pre {As : List Value} {S : aq_S} (hV : aq_V D cA nc strs β s s.heap) (hR : aq_R D cA b β s S H) (hS : va_S (fun q => β < q) s.heap H locs) : ∀ U : State, U.heap = H → s.WarmedH U.vm → aq_Pc D cA nc strs b β As S (As.map (aq_cV b β)).toArray U := fun U hU hW =>
  ⟨rfl, by rw [hU]; exact aq_R.to hW.alike hR, aq_V.to hW (fun q h1 h2 => by rw [hU]; exact hS.2.1 q h1 h2) hV⟩
theorem aq_run {mc ms : Nat} {o1 : aq_O} {S1 : aq_S} (hr : vx_Run p l e R s m args below meth c H locs cells slots mc ms (F0 m pc ls st0) rest (aq_Qc D cA b β o1 S1 a) (aq_XC D cA b β o1 S1) (fun q => β < q)) (hS : va_S (fun q => β < q) s.heap H locs)
    (kx : ∀ (E : String) (ce : Cell) (q9 : Addr) (H1 : Heap) (locs1 : List Loc), o1 = .inr E → aq_R D cA b β s S1 H1 → va_S (fun q => β < q) s.heap H1 locs1 → H1[q9]? = some ce → ce.vm = .none → s.vm.findClass E = some ce.cls → vx_W p l e R s m args below meth c H1 locs1 (cells + mc) (slots + ms) Q (F0 m pc ls rest) q9)
    (kk : ∀ (v : Option Value) (H1 : Heap) (locs1 : List Loc), o1 = .inl v → aq_R D cA b β s S1 H1 → va_S (fun q => β < q) s.heap H1 locs1 → W p l e R s m args below meth c H1 locs1 (cells + mc) (slots + ms) Q (F0 m (pc + 3) ls ((v.map (aq_cV b β)).toList ++ rest))) : W p l e R s m args below meth c H locs cells slots Q (F0 m pc ls st0) := by
  intro T hT X
  rcases hr T hT X with ⟨v, st₀, t, T', L, h0, X', hL, e1, e2, ⟨⟨v0, ho, hv⟩, hR1, hF⟩, st⟩ | ⟨q, st₀, t, T', L, E, ce, h0, X', hL, e1, e2, ⟨ho, hR1, hF⟩, hce, hcv, hcl, st⟩
  · cases hv
    obtain ⟨k1, k2, k3⟩ := vx_keep h0 e1 hS (fun _ _ z => z) (fun _ z => z) hL hF
    have hal : s.vm.Alike t.vm := by rw [← e2]; exact X'.warmed.alike
    obtain ⟨t2, a1, b1⟩ := kk v0 T'.heap (locs ++ L) ho (by rw [e1]; exact aq_R.to hal.symm hR1) k3 T' rfl X'
    exact ⟨t2, st t2 a1, b1⟩
  · obtain ⟨k1, k2, k3⟩ := vx_keep h0 e1 hS (fun _ _ z => z) (fun _ z => z) hL hF
    have hal : s.vm.Alike t.vm := by rw [← e2]; exact X'.warmed.alike
    obtain ⟨t2, a1, b1⟩ := kx E ce q T'.heap (locs ++ L) ho (by rw [e1]; exact aq_R.to hal.symm hR1) k3 (by rw [e1]; exact hce) hcv hcl T' rfl X'
    exact ⟨t2, st.trans a1, b1⟩
theorem aq_tol (v : Option Value) (r : List Value) : (v.map (aq_cV b β)).toList ++ r.map (aq_cV b β) = (v.toList ++ r).map (aq_cV b β) := by cases v <;> rfl
end
section
variable {T : Nat → Nat → Option aq_Op} {Nl : Nat → Nat} {Ms : Nat → aq_M} {nc : List (String × String)} {strs : List (Nat × String)} {cc : ByteArray} {nL : Nat} {own mn : String} {ret : Option FieldType} {hh : List (Nat × Nat × Nat × Nat)} {pc n : Nat}
/-- a call rule out of the machine's way to make it -/
theorem so_call {y nA : Nat} {rc : Option Nat} (hhh : hh = []) (row : ∀ (p : Program) (l : Launch) (e : Env) (R : Room) (s : State) (m : MethodId) (args : Array Value) (below : List Frame) (meth : Method) (c : Code) (D : va_G) (cA : Nat → ClassId) (b β d : Nat) (S0 S' S S1 : aq_S) (o1 : aq_O) (As r : List Value) (H : Heap) (locs : List Loc) (cells slots : Nat) (ls : Array Slot),
      aq_CX p l R s m args meth c D cA nc strs b β d S0 S' cc nL own mn ret hh → aq_R D cA b β s S H → va_S (fun q => β < q) s.heap H locs → aq_rcv rc As S → As.length = nA → (r.map fun v => v.category).sum ≤ 8 → ls.size = nL → cells + ((S1.1 + S1.2.1) - (S.1 + S.2.1)) ≤ R.cells ∧ slots + (S1.2.2.1 - S.2.2.1) ≤ R.slots →
      vx_Met l (Ms y).1 (aq_cw (Ms y) :: aq_WA) (aq_rm d ((S1.1 + S1.2.1) - (S.1 + S.2.1)) (S1.2.2.1 - S.2.2.1)) (aq_Pc D cA nc strs b β As S) (aq_Qc D cA b β o1 S1) (aq_XC D cA b β o1 S1) ((S1.1 + S1.2.1) - (S.1 + S.2.1)) (S1.2.2.1 - S.2.2.1) (fun q => β < q) →
      ∃ a, vx_Run p l e R s m args below meth c H locs cells slots ((S1.1 + S1.2.1) - (S.1 + S.2.1)) (S1.2.2.1 - S.2.2.1) (F0 m pc ls ((As.reverse ++ r).map (aq_cV b β))) (r.map (aq_cV b β)) (aq_Qc D cA b β o1 S1 a) (aq_XC D cA b β o1 S1) (fun q => β < q)) : aq_SOp T Nl Ms nc strs cc nL own mn ret hh pc (aq_call y nA rc (pc + 3)) := by
  intro p l e R s m args below meth c D cA b β d S0 S' o C0 IH K L st S hK h
  obtain ⟨hx, hb, hr, hml, hown, hlk, hts, hV, hbβ, hβs, hst0, het, hmn, hRf, hRl, hRc, hRs⟩ := id C0
  obtain ⟨As, r, hp, hrc, hsum, o1, S1, hEx, kn, kx⟩ := h
  obtain ⟨hst, hlen⟩ := aq_pop_spec hp
  subst hst
  obtain ⟨hle, hMet⟩ := IH _ _ _ _ _ hEx
  obtain ⟨hle1, hle2, hle3⟩ := hle
  have hle' : S1.1 ≤ S'.1 ∧ S1.2.1 ≤ S'.2.1 ∧ S1.2.2.1 ≤ S'.2.2.1 := by
    rcases o1 with v | E
    · obtain ⟨g1, g2, g3, -⟩ := hK _ _ _ _ (kn v rfl)
      exact ⟨g1, g2, g3⟩
    · obtain ⟨-, g⟩ := kx E rfl
      subst g
      exact ⟨Nat.le_refl _, Nat.le_refl _, Nat.le_refl _⟩
  obtain ⟨i1, i2, i3⟩ := hle'
  refine ⟨by omega, by omega, by omega, fun H locs cells slots ls hR hS hl e1 e2 => ?_⟩
  obtain ⟨a, hrun⟩ := row p l e R s m args below meth c D cA b β d S0 S' S S1 o1 As r H locs cells slots ls C0 hR hS hrc hlen hsum hl.1 ⟨by omega, by omega⟩ hMet
  refine aq_run hrun hS (fun E ce q9 H1 locs1 ho hR1 hS1 hce hcv hcl => ?_) (fun v H1 locs1 ho hR1 hS1 => ?_)
  · obtain ⟨g1, g2⟩ := kx E ho
    subst g2
    exact vx_out (by rw [het, hhh]; intro x hx; cases hx) hlk hce hcv hcl (fun t ht hW => ⟨g1.symm, by rw [ht]; exact aq_R.to hW hR1, hS1.F ht⟩) hS1.2.2 (by omega) (by omega)
  · rw [aq_tol]
    exact (hK _ _ _ _ (kn v ho)).2.2.2 H1 locs1 _ _ ls hR1 hS1 hl (by omega) (by omega)
theorem so_callV {y nA na ci idx maxL N : Nat} {yN : MethodName} {bytes : ByteArray} {rt : Option FieldType} {C : String} {TT : u_T} (hhh : hh = []) (hd : decode cc pc = .ok (.invokevirtual idx, 3)) (hM : Ms y = (yN, bytes, maxL, rt, [])) (hcode : Jvm.Cond.code yN bytes maxL rt ∈ lw_tbl) (hini : Jvm.Cond.initialized yN.cls ∈ lw_tbl) (hy : yN.cls ≠ "java/lang/invoke/MethodHandle" ∧ yN.cls ≠ "java/lang/invoke/VarHandle" ∧ (parseMethodDescriptor yN.desc).map (fun d => d.parameters.length) = some na) (hmL : maxL ≤ 45) (hlink : Jvm.Cond.methodLink own idx yN ∈ lw_tbl) (hinst : Jvm.Cond.instanceMethod yN ∈ lw_tbl) (hsel : Jvm.Cond.selects C yN yN ∈ lw_tbl) (hc : aq_cl[ci]? = some (C, TT, N)) (hnA : nA = na + 1) : aq_SOp T Nl Ms nc strs cc nL own mn ret hh pc (aq_call y nA (some ci) (pc + 3)) := by
  refine so_call hhh fun p l e R s m args below meth c D cA b β d S0 S' S S1 o1 As r H locs cells slots ls C0 hR hS hrc hlen hsum hls hf hMet => ?_
  obtain ⟨hx, hb, hr, hml, hown, hlk, hts, hV, hbβ, hβs, hst0, het, hmn, hRf, hRl, hRc, hRs⟩ := C0
  rw [hM] at hMet
  have hG : GoodIn aq_WA (Jvm.Cond.code yN bytes maxL rt :: aq_WA) := aq_good hcode rfl
  have hFr : (aq_rm d ((S1.1 + S1.2.1) - (S.1 + S.2.1)) (S1.2.2.1 - S.2.2.1)).frames + 1 ≤ R.frames ∧ 8 + (maxL + 11) + (aq_rm d ((S1.1 + S1.2.1) - (S.1 + S.2.1)) (S1.2.2.1 - S.2.2.1)).locals ≤ R.locals := ⟨by show d + 10 + 1 ≤ _; omega, by show 8 + (maxL + 11) + (64 * d + 200) ≤ _; omega⟩
  obtain ⟨a0, As', fs, rfl, ha⟩ := hrc
  obtain ⟨g1, g2, g3, g4⟩ := aq_R_obj hR ha
  have hst : ((Value.ref a0 :: As').reverse ++ r).map (aq_cV b β) = (As'.map (aq_cV b β)).reverse ++ Value.ref (aq_rho b β a0) :: r.map (aq_cV b β) := by simp [aq_cV]
  rw [hst]
  refine ⟨_, vx_runV (C := C) (b := aq_rho b β a0) (As := As'.map (aq_cV b β)) ⟨hx, hb, hml, hown, hts⟩ hMet ⟨(callB_of (bytes := bytes) (maxL := maxL) (ret := rt) (mc := (S1.1 + S1.2.1) - (S.1 + S.2.1)) (ms := S1.2.2.1 - S.2.2.1) na hts hG rfl rfl rfl (hts _ (aq_wd hini rfl)) (hts _ (aq_wd hlink rfl)) hy hFr), hts _ (aq_wd hinst rfl), hts _ (aq_wd hsel rfl)⟩ ⟨aq_blind, ?_, aq_pre hV hR hS⟩ rfl (by rw [List.length_map]; simp only [List.length_cons] at hlen; omega) hls rfl (lv_room (by rw [aq_cV_sum]; exact hsum)) hd hf⟩
  rw [g1]
  exact va_recv hV.1 (aq_P1 g4) (ci := ci) (q0 := 0) hc rfl
theorem so_callS {y nA idx maxL : Nat} {yN : MethodName} {bytes : ByteArray} {rt : Option FieldType} (hhh : hh = []) (hd : decode cc pc = .ok (.invokestatic idx, 3)) (hM : Ms y = (yN, bytes, maxL, rt, [])) (hcode : Jvm.Cond.code yN bytes maxL rt ∈ lw_tbl) (hini : Jvm.Cond.initialized yN.cls ∈ lw_tbl) (hy : yN.cls ≠ "java/lang/invoke/MethodHandle" ∧ yN.cls ≠ "java/lang/invoke/VarHandle" ∧ (parseMethodDescriptor yN.desc).map (fun d => d.parameters.length) = some nA) (hmL : maxL ≤ 45) (hlink : Jvm.Cond.methodLink own idx yN ∈ lw_tbl) (hstat : Jvm.Cond.static yN ∈ lw_tbl) : aq_SOp T Nl Ms nc strs cc nL own mn ret hh pc (aq_call y nA none (pc + 3)) := by
  refine so_call hhh fun p l e R s m args below meth c D cA b β d S0 S' S S1 o1 As r H locs cells slots ls C0 hR hS hrc hlen hsum hls hf hMet => ?_
  obtain ⟨hx, hb, hr, hml, hown, hlk, hts, hV, hbβ, hβs, hst0, het, hmn, hRf, hRl, hRc, hRs⟩ := C0
  rw [hM] at hMet
  have hG : GoodIn aq_WA (Jvm.Cond.code yN bytes maxL rt :: aq_WA) := aq_good hcode rfl
  have hFr : (aq_rm d ((S1.1 + S1.2.1) - (S.1 + S.2.1)) (S1.2.2.1 - S.2.2.1)).frames + 1 ≤ R.frames ∧ 8 + (maxL + 11) + (aq_rm d ((S1.1 + S1.2.1) - (S.1 + S.2.1)) (S1.2.2.1 - S.2.2.1)).locals ≤ R.locals := ⟨by show d + 10 + 1 ≤ _; omega, by show 8 + (maxL + 11) + (64 * d + 200) ≤ _; omega⟩
  have hst : (As.reverse ++ r).map (aq_cV b β) = (As.map (aq_cV b β)).reverse ++ r.map (aq_cV b β) := by simp
  rw [hst]
  exact ⟨_, vx_runS (As := As.map (aq_cV b β)) ⟨hx, hb, hml, hown, hts⟩ hMet ⟨(callB_of (bytes := bytes) (maxL := maxL) (ret := rt) (mc := (S1.1 + S1.2.1) - (S.1 + S.2.1)) (ms := S1.2.2.1 - S.2.2.1) nA hts hG rfl rfl rfl (hts _ (aq_wd hini rfl)) (hts _ (aq_wd hlink rfl)) hy hFr), hts _ (aq_wd hstat rfl)⟩ ⟨aq_blind, aq_pre hV hR hS⟩ rfl (by rw [List.length_map]; exact hlen) hls rfl (lv_room (by rw [aq_cV_sum]; exact hsum)) hd hf⟩
theorem so_callSN {y nA idx maxL : Nat} {yN : MethodName} {bytes : ByteArray} {rt : Option FieldType} {host : String} (hhh : hh = []) (hd : decode cc pc = .ok (.invokestatic idx, 3)) (hM : Ms y = (yN, bytes, maxL, rt, [])) (hcode : Jvm.Cond.code yN bytes maxL rt ∈ lw_tbl) (hini : Jvm.Cond.initialized yN.cls ∈ lw_tbl) (hy : yN.cls ≠ "java/lang/invoke/MethodHandle" ∧ yN.cls ≠ "java/lang/invoke/VarHandle" ∧ (parseMethodDescriptor yN.desc).map (fun d => d.parameters.length) = some nA) (hmL : maxL ≤ 45) (hlink : Jvm.Cond.methodLinkNest own idx yN host ∈ lw_tbl) (hstat : Jvm.Cond.static yN ∈ lw_tbl) : aq_SOp T Nl Ms nc strs cc nL own mn ret hh pc (aq_call y nA none (pc + 3)) := by
  refine so_call hhh fun p l e R s m args below meth c D cA b β d S0 S' S S1 o1 As r H locs cells slots ls C0 hR hS hrc hlen hsum hls hf hMet => ?_
  obtain ⟨hx, hb, hr, hml, hown, hlk, hts, hV, hbβ, hβs, hst0, het, hmn, hRf, hRl, hRc, hRs⟩ := C0
  rw [hM] at hMet
  have hG : GoodIn aq_WA (Jvm.Cond.code yN bytes maxL rt :: aq_WA) := aq_good hcode rfl
  have hFr : (aq_rm d ((S1.1 + S1.2.1) - (S.1 + S.2.1)) (S1.2.2.1 - S.2.2.1)).frames + 1 ≤ R.frames ∧ 8 + (maxL + 11) + (aq_rm d ((S1.1 + S1.2.1) - (S.1 + S.2.1)) (S1.2.2.1 - S.2.2.1)).locals ≤ R.locals := ⟨by show d + 10 + 1 ≤ _; omega, by show 8 + (maxL + 11) + (64 * d + 200) ≤ _; omega⟩
  have hst : (As.reverse ++ r).map (aq_cV b β) = (As.map (aq_cV b β)).reverse ++ r.map (aq_cV b β) := by simp
  rw [hst]
  exact ⟨_, vx_runSN (As := As.map (aq_cV b β)) ⟨hx, hb, hml, hown, hts⟩ hMet ⟨(va_cnB (bytes := bytes) (maxL := maxL) (ret := rt) (mc := (S1.1 + S1.2.1) - (S.1 + S.2.1)) (ms := S1.2.2.1 - S.2.2.1) nA hts hG rfl rfl rfl (hV.2.1 _ hlink rfl) (hts _ (aq_wd hini rfl)) hy hFr), hts _ (aq_wd hstat rfl), trivial⟩ ⟨aq_blind, aq_pre hV hR hS⟩ rfl (by rw [List.length_map]; exact hlen) hls rfl (lv_room (by rw [aq_cV_sum]; exact hsum)) hd hf⟩
theorem so_callI {y nA na ci idx maxL : Nat} {yN : MethodName} {bytes : ByteArray} {rt : Option FieldType} (hhh : hh = []) (hd : decode cc pc = .ok (.invokespecial idx, 3)) (hM : Ms y = (yN, bytes, maxL, rt, [])) (hcode : Jvm.Cond.code yN bytes maxL rt ∈ lw_tbl) (hini : Jvm.Cond.initialized yN.cls ∈ lw_tbl) (hy : yN.cls ≠ "java/lang/invoke/MethodHandle" ∧ yN.cls ≠ "java/lang/invoke/VarHandle" ∧ (parseMethodDescriptor yN.desc).map (fun d => d.parameters.length) = some na) (hmL : maxL ≤ 45) (hlink : Jvm.Cond.methodLink own idx yN ∈ lw_tbl) (hinst : Jvm.Cond.instanceMethod yN ∈ lw_tbl) (hnm : yN.name = "<init>") (hrt : rt = none) (hnA : nA = na + 1) : aq_SOp T Nl Ms nc strs cc nL own mn ret hh pc (aq_call y nA (some ci) (pc + 3)) := by
  subst hrt
  refine so_call hhh fun p l e R s m args below meth c D cA b β d S0 S' S S1 o1 As r H locs cells slots ls C0 hR hS hrc hlen hsum hls hf hMet => ?_
  obtain ⟨hx, hb, hr, hml, hown, hlk, hts, hV, hbβ, hβs, hst0, het, hmn, hRf, hRl, hRc, hRs⟩ := C0
  rw [hM] at hMet
  have hG : GoodIn aq_WA (Jvm.Cond.code yN bytes maxL none :: aq_WA) := aq_good hcode rfl
  have hFr : (aq_rm d ((S1.1 + S1.2.1) - (S.1 + S.2.1)) (S1.2.2.1 - S.2.2.1)).frames + 1 ≤ R.frames ∧ 8 + (maxL + 11) + (aq_rm d ((S1.1 + S1.2.1) - (S.1 + S.2.1)) (S1.2.2.1 - S.2.2.1)).locals ≤ R.locals := ⟨by show d + 10 + 1 ≤ _; omega, by show 8 + (maxL + 11) + (64 * d + 200) ≤ _; omega⟩
  obtain ⟨a0, As', fs, rfl, ha⟩ := hrc
  have hst : ((Value.ref a0 :: As').reverse ++ r).map (aq_cV b β) = (As'.map (aq_cV b β)).reverse ++ Value.ref (aq_rho b β a0) :: r.map (aq_cV b β) := by simp [aq_cV]
  rw [hst]
  exact ⟨_, vx_runI (b := aq_rho b β a0) (As := As'.map (aq_cV b β)) ⟨hx, hb, hml, hown, hts⟩ hMet ⟨(callB_of (bytes := bytes) (maxL := maxL) (ret := none) (mc := (S1.1 + S1.2.1) - (S.1 + S.2.1)) (ms := S1.2.2.1 - S.2.2.1) na hts hG rfl rfl rfl (hts _ (aq_wd hini rfl)) (hts _ (aq_wd hlink rfl)) hy hFr), hnm, hts _ (aq_wd hinst rfl)⟩ ⟨aq_blind, aq_pre hV hR hS⟩ rfl (by rw [List.length_map]; simp only [List.length_cons] at hlen; omega) hls rfl (lv_room (by rw [aq_cV_sum]; exact hsum)) hd hf⟩
theorem so_callIN {y nA na ci idx maxL : Nat} {yN : MethodName} {bytes : ByteArray} {rt : Option FieldType} {host : String} (hhh : hh = []) (hd : decode cc pc = .ok (.invokespecial idx, 3)) (hM : Ms y = (yN, bytes, maxL, rt, [])) (hcode : Jvm.Cond.code yN bytes maxL rt ∈ lw_tbl) (hini : Jvm.Cond.initialized yN.cls ∈ lw_tbl) (hy : yN.cls ≠ "java/lang/invoke/MethodHandle" ∧ yN.cls ≠ "java/lang/invoke/VarHandle" ∧ (parseMethodDescriptor yN.desc).map (fun d => d.parameters.length) = some na) (hmL : maxL ≤ 45) (hlink : Jvm.Cond.methodLinkNest own idx yN host ∈ lw_tbl) (hinst : Jvm.Cond.instanceMethod yN ∈ lw_tbl) (hnm : yN.name = "<init>") (hrt : rt = none) (hnA : nA = na + 1) : aq_SOp T Nl Ms nc strs cc nL own mn ret hh pc (aq_call y nA (some ci) (pc + 3)) := by
  subst hrt
  refine so_call hhh fun p l e R s m args below meth c D cA b β d S0 S' S S1 o1 As r H locs cells slots ls C0 hR hS hrc hlen hsum hls hf hMet => ?_
  obtain ⟨hx, hb, hr, hml, hown, hlk, hts, hV, hbβ, hβs, hst0, het, hmn, hRf, hRl, hRc, hRs⟩ := C0
  rw [hM] at hMet
  have hG : GoodIn aq_WA (Jvm.Cond.code yN bytes maxL none :: aq_WA) := aq_good hcode rfl
  have hFr : (aq_rm d ((S1.1 + S1.2.1) - (S.1 + S.2.1)) (S1.2.2.1 - S.2.2.1)).frames + 1 ≤ R.frames ∧ 8 + (maxL + 11) + (aq_rm d ((S1.1 + S1.2.1) - (S.1 + S.2.1)) (S1.2.2.1 - S.2.2.1)).locals ≤ R.locals := ⟨by show d + 10 + 1 ≤ _; omega, by show 8 + (maxL + 11) + (64 * d + 200) ≤ _; omega⟩
  obtain ⟨a0, As', fs, rfl, ha⟩ := hrc
  have hst : ((Value.ref a0 :: As').reverse ++ r).map (aq_cV b β) = (As'.map (aq_cV b β)).reverse ++ Value.ref (aq_rho b β a0) :: r.map (aq_cV b β) := by simp [aq_cV]
  rw [hst]
  exact ⟨_, vx_runIN (b := aq_rho b β a0) (As := As'.map (aq_cV b β)) ⟨hx, hb, hml, hown, hts⟩ hMet ⟨(va_cnB (bytes := bytes) (maxL := maxL) (ret := none) (mc := (S1.1 + S1.2.1) - (S.1 + S.2.1)) (ms := S1.2.2.1 - S.2.2.1) na hts hG rfl rfl rfl (hV.2.1 _ hlink rfl) (hts _ (aq_wd hini rfl)) hy hFr), hnm, hts _ (aq_wd hinst rfl)⟩ ⟨aq_blind, aq_pre hV hR hS⟩ rfl (by rw [List.length_map]; simp only [List.length_cons] at hlen; omega) hls rfl (lv_room (by rw [aq_cV_sum]; exact hsum)) hd hf⟩
theorem so_callSX {y nA idx maxL : Nat} {yN : MethodName} {bytes : ByteArray} {rt : Option FieldType} {h1 : Nat × Nat × Nat × Nat} {hr1 : List (Nat × Nat × Nat × Nat)} (hhh : hh = []) (hd : decode cc pc = .ok (.invokestatic idx, 3)) (hM : Ms y = (yN, bytes, maxL, rt, h1 :: hr1)) (hcode : Jvm.Cond.codeWith yN bytes maxL rt (h1 :: hr1) ∈ lw_tbl) (hini : Jvm.Cond.initialized yN.cls ∈ lw_tbl) (hy : yN.cls ≠ "java/lang/invoke/MethodHandle" ∧ yN.cls ≠ "java/lang/invoke/VarHandle" ∧ (parseMethodDescriptor yN.desc).map (fun d => d.parameters.length) = some nA) (hmL : maxL ≤ 45) (hlink : Jvm.Cond.methodLink own idx yN ∈ lw_tbl) (hstat : Jvm.Cond.static yN ∈ lw_tbl) : aq_SOp T Nl Ms nc strs cc nL own mn ret hh pc (aq_call y nA none (pc + 3)) := by
  refine so_call hhh fun p l e R s m args below meth c D cA b β d S0 S' S S1 o1 As r H locs cells slots ls C0 hR hS hrc hlen hsum hls hf hMet => ?_
  obtain ⟨hx, hb, hr, hml, hown, hlk, hts, hV, hbβ, hβs, hst0, het, hmn, hRf, hRl, hRc, hRs⟩ := C0
  rw [hM] at hMet
  have hG : GoodIn aq_WA (Jvm.Cond.codeWith yN bytes maxL rt (h1 :: hr1) :: aq_WA) := aq_good hcode rfl
  have hFr : (aq_rm d ((S1.1 + S1.2.1) - (S.1 + S.2.1)) (S1.2.2.1 - S.2.2.1)).frames + 1 ≤ R.frames ∧ 8 + (maxL + 11) + (aq_rm d ((S1.1 + S1.2.1) - (S.1 + S.2.1)) (S1.2.2.1 - S.2.2.1)).locals ≤ R.locals := ⟨by show d + 10 + 1 ≤ _; omega, by show 8 + (maxL + 11) + (64 * d + 200) ≤ _; omega⟩
  have hst : (As.reverse ++ r).map (aq_cV b β) = (As.map (aq_cV b β)).reverse ++ r.map (aq_cV b β) := by simp
  rw [hst]
  have hcw : vx_CSW R s args own idx yN bytes maxL rt (h1 :: hr1) (Jvm.Cond.codeWith yN bytes maxL rt (h1 :: hr1) :: aq_WA) (aq_rm d ((S1.1 + S1.2.1) - (S.1 + S.2.1)) (S1.2.2.1 - S.2.2.1)) ((S1.1 + S1.2.1) - (S.1 + S.2.1)) (S1.2.2.1 - S.2.2.1) nA := by
    refine ⟨⟨rfl, rfl, hFr.1, hFr.2, pay_in hts hG, List.mem_cons_self⟩, hts _ (aq_wd hcode rfl), hts _ (aq_wd hini rfl), ⟨hy.1, hy.2.1⟩, fun sig h => ?_, hts _ (aq_wd hlink rfl), hts _ (aq_wd hstat rfl)⟩
    have h2 := hy.2.2
    rw [h] at h2
    exact (Option.some.inj h2).symm
  exact ⟨_, vx_runSX (As := As.map (aq_cV b β)) ⟨hx, hb, hml, hown, hts⟩ hMet hcw ⟨aq_blind, aq_pre hV hR hS⟩ rfl (by rw [List.length_map]; exact hlen) hls rfl (lv_room (by rw [aq_cV_sum]; exact hsum)) hd hf⟩
/-- a handler's code: the exception is put by, a number answered -/
def aq_hnd (cc : ByteArray) (nL : Nat) (pc : Nat) (v : Int32) : Prop :=
  (∃ (k : Fin 4) (n0 : Int), decode cc pc = .ok (.astore_n k, 1) ∧ (k : Nat) < nL ∧ decode cc (pc + 1) = .ok (.iconst n0, 1) ∧ Int32.ofInt n0 = v ∧ decode cc (pc + 2) = .ok (.ireturn, 1)) ∨
  ∃ (i : Nat) (n0 : Int), decode cc pc = .ok (.astore i, 2) ∧ i < nL ∧ decode cc (pc + 2) = .ok (.iconst n0, 1) ∧ Int32.ofInt n0 = v ∧ decode cc (pc + 3) = .ok (.ireturn, 1)
theorem so_callhV {y nA na ci idx maxL N : Nat} {yN : MethodName} {bytes : ByteArray} {rt : Option FieldType} {C : String} {TT : u_T} {hs : List (String × Int32)} (hd : decode cc pc = .ok (.invokevirtual idx, 3)) (hM : Ms y = (yN, bytes, maxL, rt, [])) (hcode : Jvm.Cond.code yN bytes maxL rt ∈ lw_tbl) (hini : Jvm.Cond.initialized yN.cls ∈ lw_tbl) (hy : yN.cls ≠ "java/lang/invoke/MethodHandle" ∧ yN.cls ≠ "java/lang/invoke/VarHandle" ∧ (parseMethodDescriptor yN.desc).map (fun d => d.parameters.length) = some na) (hmL : maxL ≤ 45) (hlink : Jvm.Cond.methodLink own idx yN ∈ lw_tbl) (hinst : Jvm.Cond.instanceMethod yN ∈ lw_tbl) (hsel : Jvm.Cond.selects C yN yN ∈ lw_tbl) (hc : aq_cl[ci]? = some (C, TT, N)) (hnA : nA = na + 1) (hret : ret = some .int)
    (hH : ∀ (E : String) (v : Int32), hs.lookup E = some v → ∃ (pre : List ExceptionTableEntry) (x : ExceptionTableEntry) (suf : List ExceptionTableEntry), tableOf hh = pre ++ x :: suf ∧ (∀ z ∈ pre, z.catchType ≠ 0 ∧ ∃ nm : String, Jvm.Cond.classLink own z.catchType nm ∈ lw_tbl ∧ (E, nm) ∈ nc) ∧ covers x pc = true ∧ x.catchType ≠ 0 ∧ Jvm.Cond.classLink own x.catchType E ∈ lw_tbl ∧ Jvm.Cond.castable E E ∈ lw_tbl ∧ aq_hnd cc nL x.handlerPc v) : aq_SOp T Nl Ms nc strs cc nL own mn ret hh pc (aq_callh y nA (some ci) hs (pc + 3)) := by
  intro p l e R s m args below meth c D cA b β d S0 S' o C0 IH K L st S hK h
  obtain ⟨hx, hb, hr, hml, hown, hlk, hts, hV, hbβ, hβs, hst0, het, hmn, hRf, hRl, hRc, hRs⟩ := id C0
  obtain ⟨As, r, hp, hrc, hsum, o1, S1, hEx, kn, kx⟩ := h
  obtain ⟨hst, hlen⟩ := aq_pop_spec hp
  subst hst
  obtain ⟨hle, hMet⟩ := IH _ _ _ _ _ hEx
  obtain ⟨hle1, hle2, hle3⟩ := hle
  have hle' : S1.1 ≤ S'.1 ∧ S1.2.1 ≤ S'.2.1 ∧ S1.2.2.1 ≤ S'.2.2.1 := by
    rcases o1 with v | E
    · obtain ⟨g1, g2, g3, -⟩ := hK _ _ _ _ (kn v rfl)
      exact ⟨g1, g2, g3⟩
    · obtain ⟨v, -, -, g⟩ := kx E rfl
      subst g
      exact ⟨Nat.le_refl _, Nat.le_refl _, Nat.le_refl _⟩
  obtain ⟨i1, i2, i3⟩ := hle'
  refine ⟨by omega, by omega, by omega, fun H locs cells slots ls hR hS hl e1 e2 => ?_⟩
  rw [hM] at hMet
  have hG : GoodIn aq_WA (Jvm.Cond.code yN bytes maxL rt :: aq_WA) := aq_good hcode rfl
  have hFr : (aq_rm d ((S1.1 + S1.2.1) - (S.1 + S.2.1)) (S1.2.2.1 - S.2.2.1)).frames + 1 ≤ R.frames ∧ 8 + (maxL + 11) + (aq_rm d ((S1.1 + S1.2.1) - (S.1 + S.2.1)) (S1.2.2.1 - S.2.2.1)).locals ≤ R.locals := ⟨by show d + 10 + 1 ≤ _; omega, by show 8 + (maxL + 11) + (64 * d + 200) ≤ _; omega⟩
  obtain ⟨a0, As', fs, rfl, ha⟩ := hrc
  obtain ⟨g1, g2, g3, g4⟩ := aq_R_obj hR ha
  have hst : ((Value.ref a0 :: As').reverse ++ r).map (aq_cV b β) = (As'.map (aq_cV b β)).reverse ++ Value.ref (aq_rho b β a0) :: r.map (aq_cV b β) := by simp [aq_cV]
  rw [hst]
  have hrun := vx_runV (e := e) (below := below) (meth := meth) (locs := locs) (g := F0 m pc ls ((As'.map (aq_cV b β)).reverse ++ Value.ref (aq_rho b β a0) :: r.map (aq_cV b β))) (cells := cells) (slots := slots) (C := C) (b := aq_rho b β a0) (As := As'.map (aq_cV b β)) ⟨hx, hb, hml, hown, hts⟩ hMet ⟨(callB_of (bytes := bytes) (maxL := maxL) (ret := rt) (mc := (S1.1 + S1.2.1) - (S.1 + S.2.1)) (ms := S1.2.2.1 - S.2.2.1) na hts hG rfl rfl rfl (hts _ (aq_wd hini rfl)) (hts _ (aq_wd hlink rfl)) hy hFr), hts _ (aq_wd hinst rfl), hts _ (aq_wd hsel rfl)⟩ ⟨aq_blind, (by rw [g1]; exact va_recv hV.1 (aq_P1 g4) (ci := ci) (q0 := 0) hc rfl), aq_pre hV hR hS⟩ rfl (by rw [List.length_map]; simp only [List.length_cons] at hlen; omega) hl.1 rfl (lv_room (by rw [aq_cV_sum]; exact hsum)) hd ⟨by omega, by omega⟩
  refine aq_run hrun hS (fun E ce q9 H1 locs1 ho hR1 hS1 hce hcv hcl => ?_) (fun v H1 locs1 ho hR1 hS1 => ?_)
  · obtain ⟨v, hv, ho', hS'⟩ := kx E ho
    subst hS'
    obtain ⟨pre, x, suf, hsp, hpass, hcov, hx0, hlk1, hcast, hnd⟩ := hH E v hv
    refine vx_catch hown pre x suf (het.trans hsp) (fun z hz => ?_) hcov hx0 (hts _ (aq_wd hlk1 rfl)) (va_Nw.use rfl (hV.2.1 _ hcast rfl)) hce hcv hcl ?_
    · obtain ⟨h1, nm, h2, h3⟩ := hpass z hz
      exact Or.inr ⟨h1, nm, hts _ (aq_wd h2 rfl), hV.2.2.1 _ h3⟩
    · have fin : ∀ (pc9 : Nat) (ls9 : Array Slot), decode cc pc9 = .ok (.ireturn, 1) → W p l e R s m args below meth c H1 locs1 (cells + ((S1.1 + S1.2.1) - (S.1 + S.2.1))) (slots + (S1.2.2.1 - S.2.2.1)) (vx_MQ below (aq_Qc D cA b β o S1) (aq_XC D cA b β o S1) args s R.cells R.slots (fun q => β < q)) (F0 m pc9 ls9 [.int v]) := by
        intro pc9 ls9 hd9
        refine vx_ret (W.widen (k := R.cells) (n := R.slots) (by omega) (by omega) ?_)
        exact (W.iret hx hb (hr.trans hret) (fun t ht hW => aq_end (args := args) hR1 hS1 ho'.symm t ht hW) hS1.2.2 hd9 hlk)
      rcases hnd with ⟨k, n0, d1, d2, d3, d4, d5⟩ | ⟨i, n0, d1, d2, d3, d4, d5⟩
      · exact lv_astore_n hx hb d1 rfl hl d2 rfl (fun ls' _ => lv_iconst hx hb d3 d4 (fin _ _ d5))
      · exact lv_astore hx hb d1 hl d2 rfl (fun ls' _ => lv_iconst hx hb d3 d4 (fin _ _ d5))
  · rw [aq_tol]
    exact (hK _ _ _ _ (kn v ho)).2.2.2 H1 locs1 _ _ ls hR1 hS1 hl (by omega) (by omega)
end
