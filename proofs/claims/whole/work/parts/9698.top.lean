/-! ===== the claim out of a run of the abstract machine ===== -/
section
theorem wd_1214 : Jvm.Cond.arrayOver (.object RX1) ∈ lw_tbl := aq_t1 (List.mem_of_getElem? (i := 164) rfl)
theorem wd_1215 : Jvm.Cond.arrayOver (.object RX5) ∈ lw_tbl := aq_t1 (List.mem_of_getElem? (i := 38) rfl)
theorem wd_1216 : Jvm.Cond.laysStatic Bundle.tN "UNASSIGNED_STACK" Bundle.steD ∈ lw_tbl := aq_t2 (List.mem_of_getElem? (i := 94) rfl)
theorem wd_1217 : Jvm.Cond.laysStatic Bundle.tN "SUPPRESSED_SENTINEL" Bundle.listD ∈ lw_tbl := aq_t2 (List.mem_of_getElem? (i := 96) rfl)
theorem wd_1218 : Jvm.Cond.initialized Bundle.tN ∈ lw_tbl := aq_t1 (List.mem_of_getElem? (i := 9) rfl)
theorem wd_1219 : Jvm.Cond.stringRef RX6 56 "the number of letters is not from 1 to 3" ∈ lw_tbl := aq_t2 (List.mem_of_getElem? (i := 111) rfl)
theorem wd_1220 : Jvm.Cond.stringRef RX6 82 "the word has 40 symbols" ∈ lw_tbl := aq_t2 (List.mem_of_getElem? (i := 182) rfl)
theorem wd_1221 : Jvm.Cond.stringRef RX6 89 "the character is not from 33 to 126" ∈ lw_tbl := aq_t2 (List.mem_of_getElem? (i := 200) rfl)
theorem wd_1222 : Jvm.Cond.stringRef RX6 94 "the input has 30 characters" ∈ lw_tbl := aq_t2 (List.mem_of_getElem? (i := 205) rfl)
theorem wd_1223 : Jvm.Cond.stringRef RX6 102 "the text is not valid" ∈ lw_tbl := aq_t3 (List.mem_of_getElem? (i := 9) rfl)
theorem wd_1224 : Jvm.Cond.stringRef RX6 108 "the word would have more than 40 symbols" ∈ lw_tbl := aq_t3 (List.mem_of_getElem? (i := 14) rfl)
theorem wd_1225 : Jvm.Cond.stringRef RX6 123 "no text was invalid" ∈ lw_tbl := aq_t3 (List.mem_of_getElem? (i := 41) rfl)
theorem wd_1226 : Jvm.Cond.stringRef RX6 147 "so many symbols cannot be moved" ∈ lw_tbl := aq_t3 (List.mem_of_getElem? (i := 144) rfl)
theorem wd_1227 : Jvm.Cond.stringRef RX6 156 "the words have different lengths" ∈ lw_tbl := aq_t3 (List.mem_of_getElem? (i := 188) rfl)
theorem wd_1228 : Jvm.Cond.stringRef RX6 162 "the words are not compatible" ∈ lw_tbl := aq_t3 (List.mem_of_getElem? (i := 197) rfl)
theorem wd_1229 : Jvm.Cond.stringRef RX6 164 "the number is not from 1 to the length of the word" ∈ lw_tbl := aq_t3 (List.mem_of_getElem? (i := 205) rfl)
theorem wd_1230 : Jvm.Cond.stringRef RX6 170 "the word is empty" ∈ lw_tbl := aq_t3 (List.mem_of_getElem? (i := 221) rfl)
theorem wd_1231 : Jvm.Cond.stringRef RX6 176 "an argument is out of range" ∈ lw_tbl := aq_t3 (List.mem_of_getElem? (i := 234) rfl)
theorem wd_1232 : Jvm.Cond.stringRef RX6 193 "the number of completions does not fit into a long" ∈ lw_tbl := aq_t4 (List.mem_of_getElem? (i := 53) rfl)
theorem wd_1233 : Jvm.Cond.stringRef RX6 196 "no such completion" ∈ lw_tbl := aq_t4 (List.mem_of_getElem? (i := 62) rfl)
theorem wd_1234 : Jvm.Cond.stringRef RX6 202 "the word has more than 7 holes" ∈ lw_tbl := aq_t4 (List.mem_of_getElem? (i := 73) rfl)
theorem wd_1235 : Jvm.Cond.stringRef RX6 211 "the length is not from 0 to 6" ∈ lw_tbl := aq_t4 (List.mem_of_getElem? (i := 91) rfl)
theorem wd_1236 : Jvm.Cond.stringRef RX6 234 "there are 12 patterns" ∈ lw_tbl := aq_t4 (List.mem_of_getElem? (i := 114) rfl)
theorem wd_1237 : Jvm.Cond.stringRef RX6 236 "the word does not have 1 to 5 symbols" ∈ lw_tbl := aq_t4 (List.mem_of_getElem? (i := 115) rfl)
theorem wd_1238 : Jvm.Cond.stringRef RX6 241 "no such pattern" ∈ lw_tbl := aq_t4 (List.mem_of_getElem? (i := 129) rfl)
theorem wd_1239 : Jvm.Cond.stringRef RX6 264 "the patterns are avoidable" ∈ lw_tbl := aq_t4 (List.mem_of_getElem? (i := 152) rfl)
theorem wd_1240 : Jvm.Cond.stringRef RX6 266 "the length is not from 0 to 30" ∈ lw_tbl := aq_t4 (List.mem_of_getElem? (i := 160) rfl)
theorem wd_1241 : Jvm.Cond.stringRef RX6 275 "no word of at most 40 letters" ∈ lw_tbl := aq_t4 (List.mem_of_getElem? (i := 197) rfl)
theorem wd_1242 : Jvm.Cond.stringRef RX6 281 "no such type" ∈ lw_tbl := aq_t4 (List.mem_of_getElem? (i := 210) rfl)
theorem wd_1243 : Jvm.Cond.stringRef RX6 283 "the size is not from 0 to 41" ∈ lw_tbl := aq_t4 (List.mem_of_getElem? (i := 211) rfl)
theorem wd_1244 : Jvm.Cond.stringRef RX6 294 "the row has fewer elements than the word has symbols" ∈ lw_tbl := aq_t4 (List.mem_of_getElem? (i := 235) rfl)
theorem wd_1245 : Jvm.Cond.stringRef RX6 307 "the divisor is 0" ∈ lw_tbl := aq_t5 (List.mem_of_getElem? (i := 19) rfl)
theorem wd_1246 : Jvm.Cond.stringRef RX6 332 "no snapshot was saved" ∈ lw_tbl := aq_t5 (List.mem_of_getElem? (i := 47) rfl)
theorem wd_1247 : Jvm.Cond.stringRef RX6 337 "no such register" ∈ lw_tbl := aq_t2 (List.mem_of_getElem? (i := 163) rfl)
theorem wd_1248 : Jvm.Cond.stringRef RX6 339 "no such row" ∈ lw_tbl := aq_t4 (List.mem_of_getElem? (i := 209) rfl)
theorem wd_1249 : Jvm.Cond.stringRef RX6 341 "no such symbol" ∈ lw_tbl := aq_t2 (List.mem_of_getElem? (i := 168) rfl)
theorem wd_1250 : Jvm.Cond.stringRef RX6 343 "no such position" ∈ lw_tbl := aq_t3 (List.mem_of_getElem? (i := 98) rfl)
theorem wd_1251 : Jvm.Cond.stringRef RX6 348 "the row is missing" ∈ lw_tbl := aq_t4 (List.mem_of_getElem? (i := 230) rfl)
theorem wd_1252 : Jvm.Cond.stringRef RX6 350 "no such element" ∈ lw_tbl := aq_t5 (List.mem_of_getElem? (i := 14) rfl)
/-! THE CLAIM OUT OF ONE WALK OF THE LAW'S BODY. Your part is whole_start (and what it stands on); all else here is the same for every law, but numbers. -/
def R_law : String := "HoleWordsLaw"
def lw_P (b : Addr) (xs : List Int32) (args : Array Value) (s : State) : Prop := args = #[.ref b] ∧ s.IntsAt b xs ∧ xs.length ≤ 2560 ∧ (Jvm.Cond.and given_1 narrow_1).before args s = true
/-- what a walk over the start with the record d0 says of its end, said of the start itself -/
theorem lw_closed {s t : State} {o : Outcome} {d0 : Drawn} {L : List Loc} {k n : Nat} (hd0 : s.drawn.sameBut d0 lw_cs) (hv : ∃ v, o = .returned v) (hW : (s.setDrawn d0).WarmedH t.vm) (hs : (s.setDrawn d0).sameButNew ({ t with vm := s.vm } : State) L k n) : State.butDraws s t lw_cs (fun t1 => Framed s o t1 L k n) := by
  have h2 : t.drawn = d0 := congrArg State.drawn hs.1
  refine ⟨⟨hv, hW, State.sameButNew.setDrawn hs s.drawn⟩, ?_, by decide⟩
  rw [h2]
  exact hd0
def lw_Q (_ : Array Value) (s : State) (o : Outcome) (t : State) : Prop := o = .returned (some (.int 1)) ∧ State.butDraws s t lw_cs (fun t1 => Framed s o t1 [] 603072 7207018)
def lw_Z (below : List Frame) (a : Array Value) (s : State) : State → Prop := fun t => ∃ o, t.status = .running ∧ Ended t below o ∧ lw_Q a s o t
/-- what holds at the law's entry: the machine, the code, the tables' words (any of lw_tbl by 'hts w (by decide +kernel)'), the script of L ints xs at the cell b, what the Statement gives of the start (any of its parts by flat_of_before) -/
def lw_At (p : Program) (s : State) (m : MethodId) (meth : Method) (c : Code) (b L : Nat) (xs : Nat → Int32) : Prop :=
  p.tables.exec = Jvm.exec ∧ c.code = code ∧ meth.sig.returnType = ret ∧ c.maxLocals = 8 ∧ s.vm.findClass R_law = some m.cls ∧ (∀ w ∈ lw_tbl, w.before #[Value.ref b] s = true) ∧ va_X b L xs s s.heap ∧ b < s.heap.size ∧ meth.locks = false ∧ (Jvm.Cond.and given_1 narrow_1).before #[Value.ref b] s = true
def aq_S0 (L : Nat) (xs : Nat → Int32) : aq_S := (1, 0, 0, fun k => bif Nat.beq k 0 then some (.inl (0, (L, .inl xs))) else none)
theorem aq_Wweak {p : Program} {l : Launch} {e : Env} {R : Room} {s : State} {m : MethodId} {args : Array Value} {below : List Frame} {meth : Method} {c : Code} {H : Heap} {locs : List Loc} {cells slots : Nat} {Q Q' : State → Prop} {g : JFrame} (h : ∀ t, Q t → Q' t) (w : W p l e R s m args below meth c H locs cells slots Q g) : W p l e R s m args below meth c H locs cells slots Q' g := fun T hT X => by
  obtain ⟨t, a, q⟩ := w T hT X
  exact ⟨t, a, h t q⟩
theorem aq_arrP {s : State} {args : Array Value} {ty : FieldType} (h : (Jvm.Cond.arrayClass ty).before args s = true) : ∃ cB, ArrOfT s cB ty ∧ s.vm.findClass ("[" ++ ty.toString) = some cB := by
  obtain ⟨cB, kA, comp, h1, h2, h3⟩ := Cond.arrayClass_spec h
  exact ⟨cB, fun n z => ⟨fun k h => (by cases h), kA, h2, comp, h3⟩, h1⟩
theorem aq_arrO {s : State} {args : Array Value} {C : String} (h : (Jvm.Cond.arrayOver (.object C)).before args s = true) : ∃ cB, ArrOfT s cB (.object C) ∧ va_RA s cB (.object C) := by
  obtain ⟨comp, cB, k, h1, h2, h3, h4, h5⟩ := Cond.arrayOver_spec h
  exact ⟨cB, fun n z => ⟨fun k h => (by cases h), k, h3, comp, h4⟩, k, comp, h3, h4, h1, h5⟩
set_option maxHeartbeats 4000000 in
set_option maxRecDepth 20000 in
/-- from the entry, out of a run of the abstract machine -/
theorem whole_start {p : Program} {e : Env} {s : State} {m : MethodId} {below : List Frame} {meth : Method} {c : Code} (l : Launch) (hflags : l.flags = flags0) {b L : Nat} {xs : Nat → Int32} (C0 : lw_At p s m meth c b L xs) (htab : c.exceptionTable.toList = []) (hname : meth.name = "law")
    (hrun : ∃ d S', 64 * d + 264 ≤ 94400 ∧ d + 11 ≤ 2048 ∧ aq_Ex aq_T aq_Nl (d + 1) 251 [.ref 0] (aq_S0 L xs) (.inl (some (.int 1))) S' ∧ S'.1 + S'.2.1 ≤ 603073 ∧ S'.2.2.1 ≤ 7207018) :
    W p l e room_1 s m #[Value.ref b] below meth c s.heap [] 0 0 (lw_Z below #[Value.ref b] s) (entryFrame m ([Value.ref b] : List Value).toArray 8) := by
  obtain ⟨hx, hb, hr, hml, hown, hts, hX, hbl, hlocks, hgv⟩ := C0
  obtain ⟨d, S', hd1, hd2, ⟨⟨hlen, hle⟩, hW⟩, hc1, hc2⟩ := hrun
  have hst : l.stackTraces = false := by unfold Launch.stackTraces; rw [hflags]; decide +kernel
  have hwa : ∀ w ∈ aq_WA, w.before #[Value.ref b] s = true := fun w hw => hts w (List.mem_filter.mp hw).1
  obtain ⟨c0, iS0, hKn0⟩ := u_known (C := RX0) (T := TX0) (N := 3) (n := 3) hwa uw_X0 (hts _ wd_38)
  obtain ⟨c1, iS1, hKn1⟩ := u_known (C := RX1) (T := TX1) (N := 4) (n := 4) hwa uw_X1 (hts _ wd_226)
  obtain ⟨c2, iS2, hKn2⟩ := u_known (C := RX2) (T := TX2) (N := 3) (n := 3) hwa uw_X2 (hts _ wd_201)
  obtain ⟨c3, iS3, hKn3⟩ := u_known (C := RX3) (T := TX3) (N := 10) (n := 10) hwa uw_X3 (hts _ wd_208)
  obtain ⟨c4, iS4, hKn4⟩ := u_known (C := RX4) (T := TX4) (N := 12) (n := 12) hwa uw_X4 (hts _ wd_214)
  obtain ⟨c5, iS5, hKn5⟩ := u_known (C := RX5) (T := TX5) (N := 2) (n := 2) hwa uw_X5 (hts _ wd_44)
  obtain ⟨c6, iS6, hKn6⟩ := u_known (C := RX6) (T := TX6) (N := 9) (n := 9) hwa uw_X6 (hts _ wd_786)
  obtain ⟨c7, iS7, hKn7⟩ := u_known (C := RX7) (T := TX7) (N := 29) (n := 29) hwa uw_X7 (hts _ wd_791)
  obtain ⟨a0, hA0, hN0⟩ := aq_arrP (hts _ wd_70)
  obtain ⟨a1, hA1, hN1⟩ := aq_arrP (hts _ wd_3)
  obtain ⟨a2, hA2, hN2⟩ := aq_arrP (hts _ wd_24)
  obtain ⟨a3, hA3, hN3⟩ := aq_arrP (hts _ wd_426)
  obtain ⟨a4, hA4, hN4⟩ := aq_arrO (hts _ wd_1214)
  obtain ⟨a5, hA5, hN5⟩ := aq_arrO (hts _ wd_1215)
  have hgf := flat_of_before _ hgv
  obtain ⟨D, hDe⟩ : ∃ D : va_G, D = ((fun k => match k with | 0 => c0 | 1 => c1 | 2 => c2 | 3 => c3 | 4 => c4 | 5 => c5 | 6 => c6 | _ => c7), (fun k => match k with | 0 => iS0 | 1 => iS1 | 2 => iS2 | 3 => iS3 | 4 => iS4 | 5 => iS5 | 6 => iS6 | _ => iS7)) := ⟨_, rfl⟩
  obtain ⟨cA, hcA⟩ : ∃ cA : Nat → ClassId, cA = (fun k => match k with | 0 => a0 | 1 => a1 | 2 => a2 | 3 => a3 | 4 => a4 | _ => a5) := ⟨_, rfl⟩
  obtain ⟨β, hβ⟩ : ∃ β, β + 1 = s.heap.size := ⟨s.heap.size - 1, by omega⟩
  have hbβ : b ≤ β := by omega
  have hA9 : ∀ a : Nat, a < s.heap.size → ¬ β < a := fun a h => by omega
  have hV : aq_V D cA aq_nc aq_strs β s s.heap := by
    refine ⟨⟨?_, ?_⟩, fun w hw hb9 => va_Nw.of (aq_bad_tab hb9) (hts w hw), ?_, ?_, ?_, ?_, ?_, ?_⟩
    · subst hDe
      intro k q hq
      match k, hq with
      | 0, hq => cases hq; exact hKn0
      | 1, hq => cases hq; exact hKn1
      | 2, hq => cases hq; exact hKn2
      | 3, hq => cases hq; exact hKn3
      | 4, hq => cases hq; exact hKn4
      | 5, hq => cases hq; exact hKn5
      | 6, hq => cases hq; exact hKn6
      | 7, hq => cases hq; exact hKn7
      | k + 8, hq => simp [aq_cl] at hq
    · subst hcA
      intro k q hq
      match k, hq with
      | 0, hq => cases hq; exact ⟨hA0, hN0⟩
      | 1, hq => cases hq; exact ⟨hA1, hN1⟩
      | 2, hq => cases hq; exact ⟨hA2, hN2⟩
      | 3, hq => cases hq; exact ⟨hA3, hN3⟩
      | 4, hq => cases hq; exact ⟨hA4, hN4⟩
      | 5, hq => cases hq; exact ⟨hA5, hN5⟩
      | k + 6, hq => simp [aq_tys] at hq
    · intro q hq
      refine va_Nc.of (args := #[Value.ref b]) (hgf _ ?_)
      revert q
      exact (by decide +kernel : ∀ q ∈ aq_nc, Jvm.Cond.not (.castable q.1 q.2) ∈ flatC (Jvm.Cond.and given_1 narrow_1))
    · have hcur : ∃ cur, s.vm.findClass RX6 = some cur := ⟨c6, hKn6.2.1⟩
      obtain ⟨cur, hcur⟩ := hcur
      have hs : ∀ q ∈ aq_strs, Jvm.Cond.stringRef RX6 q.1 q.2 ∈ lw_tbl := (List.forall_mem_cons.mpr ⟨wd_1219, (List.forall_mem_cons.mpr ⟨wd_1220, (List.forall_mem_cons.mpr ⟨wd_1221, (List.forall_mem_cons.mpr ⟨wd_1222, (List.forall_mem_cons.mpr ⟨wd_1223, (List.forall_mem_cons.mpr ⟨wd_1224, (List.forall_mem_cons.mpr ⟨wd_1225, (List.forall_mem_cons.mpr ⟨wd_1226, (List.forall_mem_cons.mpr ⟨wd_1227, (List.forall_mem_cons.mpr ⟨wd_1228, (List.forall_mem_cons.mpr ⟨wd_1229, (List.forall_mem_cons.mpr ⟨wd_1230, (List.forall_mem_cons.mpr ⟨wd_1231, (List.forall_mem_cons.mpr ⟨wd_1232, (List.forall_mem_cons.mpr ⟨wd_1233, (List.forall_mem_cons.mpr ⟨wd_1234, (List.forall_mem_cons.mpr ⟨wd_1235, (List.forall_mem_cons.mpr ⟨wd_1236, (List.forall_mem_cons.mpr ⟨wd_1237, (List.forall_mem_cons.mpr ⟨wd_1238, (List.forall_mem_cons.mpr ⟨wd_1239, (List.forall_mem_cons.mpr ⟨wd_1240, (List.forall_mem_cons.mpr ⟨wd_1241, (List.forall_mem_cons.mpr ⟨wd_1242, (List.forall_mem_cons.mpr ⟨wd_1243, (List.forall_mem_cons.mpr ⟨wd_1244, (List.forall_mem_cons.mpr ⟨wd_1245, (List.forall_mem_cons.mpr ⟨wd_1246, (List.forall_mem_cons.mpr ⟨wd_1247, (List.forall_mem_cons.mpr ⟨wd_1248, (List.forall_mem_cons.mpr ⟨wd_1249, (List.forall_mem_cons.mpr ⟨wd_1250, (List.forall_mem_cons.mpr ⟨wd_1251, (List.forall_mem_cons.mpr ⟨wd_1252, (fun _ h => nomatch h)⟩)⟩)⟩)⟩)⟩)⟩)⟩)⟩)⟩)⟩)⟩)⟩)⟩)⟩)⟩)⟩)⟩)⟩)⟩)⟩)⟩)⟩)⟩)⟩)⟩)⟩)⟩)⟩)⟩)⟩)⟩)⟩)⟩)⟩)
      intro q hq
      have h1 := hts _ (hs q hq)
      obtain ⟨k, cf, i, a, -, -, -, -, -, hev⟩ := Cond.stringRef_spec hcur h1
      exact ⟨a, vk_R.of h1 hev⟩
    · exact vx_Zqof (hts _ wd_1216) (hts _ wd_1218) (hgf _ (by decide +kernel)) hA9
    · exact vx_Zqof (hts _ wd_1217) (hts _ wd_1218) (hgf _ (by decide +kernel)) hA9
    · exact va_AO.of (hts _ wd_1214)
    · exact va_AO.of (hts _ wd_1215)
  have IH := aq_sound2 (l := l) hst (D := D) (cA := cA) (nc := aq_nc) (strs := aq_strs) hbβ aq_okT d
  have hall : ∀ (pc : Nat) (op : aq_Op), aq_T 251 pc = some op → aq_SOp aq_T aq_Nl aq_Ms aq_nc aq_strs cL_law 8 RL "law" (some .boolean) [] pc op := fun pc op h => (aq_okT 251 ⟨pc, op, h⟩).2.2 pc op h
  have e1 : (aq_S0 L xs).1 + (aq_S0 L xs).2.1 = 1 := rfl
  have e2 : room_1.cells = 603072 := rfl
  have e3 : (aq_S0 L xs).2.2.1 = 0 := rfl
  have e4 : room_1.slots = 7207018 := rfl
  have e5 : room_1.locals = 94400 := rfl
  have e6 : room_1.frames = 2048 := rfl
  have C : aq_CX p l room_1 s m #[Value.ref b] meth c D cA aq_nc aq_strs b β d (aq_S0 L xs) S' cL_law 8 RL "law" (some .boolean) [] :=
    ⟨hx, hb, hr, hml, hown, hlocks, hwa, hV, hbβ, by omega, hst, htab, hname, by rw [e6]; exact hd2, by rw [e5]; exact hd1, by rw [e1, e2]; omega, by rw [e3, e4]; omega⟩
  have w := hW (aq_WW p l e room_1 s m #[Value.ref b] below meth c D cA b β 8 (aq_S0 L xs) S' (vx_MQ below (aq_Qc D cA b β (.inl (some (.int 1))) S') (aq_XC D cA b β (.inl (some (.int 1))) S') #[Value.ref b] s room_1.cells room_1.slots (fun q => β < q)))
    (fun pc L st S1 op K hm hK ho => hall pc op hm p l e _ s m _ below meth c D cA b β d (aq_S0 _ _) S' _ C IH K L st S1 hK ho)
  have hR : aq_R D cA b β s (aq_S0 L xs) s.heap := by
    refine ⟨by show β + 1 ≤ _; omega, fun _ => by show _ = β + 1; omega, Nat.le_refl 1, fun e0 he => ?_, fun k e0 he => ?_⟩
    · have h1 : some (Sum.inl (0, (L, Sum.inl xs))) = some e0 := he
      cases h1
      exact ⟨L, xs, rfl, hX⟩
    · have h1 : (none : Option aq_E) = some e0 := he
      cases h1
  have hl := lv_entry ([.ref b]) (n := 8) (Nat.le_of_ble_eq_true rfl)
  rw [lg_entry_eq]
  refine aq_Wweak (fun t ht => ?_) (w.2.2.2 s.heap [] 0 0 _ hR va_S.rf hl rfl rfl)
  obtain ⟨o, h1, h2, h3⟩ := ht
  rcases h3 with ⟨⟨⟨v, ho, hoc⟩, -, -⟩, L9, ⟨hv, hWm, hsame⟩, hL9⟩ | ⟨q, ho, E, ce, L9, ⟨hxc, -⟩, -⟩
  · cases ho
    refine ⟨o, h1, h2, hoc, lw_closed (Drawn.sameBut.refl s.drawn lw_cs) hv hWm ?_⟩
    obtain ⟨g1, g2, g3, g4, g5, g6⟩ := hsame
    refine ⟨g1, g2, g3, g4, g5, fun a c9 hc9 => ?_⟩
    obtain ⟨c8, e1, e2, e3, e4⟩ := g6 a c9 hc9
    refine ⟨c8, e1, e2, e3, fun i _ => e4 i fun hm => ?_⟩
    have h5 := hL9 _ hm
    have h6 : a < s.heap.size := (Array.getElem?_eq_some_iff.mp hc9).1
    have h7 : β < a := h5
    exact hA9 a h6 h7
  · cases hxc
end
