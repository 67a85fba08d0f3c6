/-! ===== printed by wip/whole/gen2.py: the words of the exceptions ===== -/
section
set_option maxRecDepth 20000 in
theorem xa_ARI_195 : ∀ w ∈ ax_atS RX6 195 "java/lang/ArithmeticException" "java/lang/RuntimeException" ["java/lang/Exception"] 7 xb_ARI, w ∈ lw_tbl ∧ (goodWord w || aq_bad w) = true := by decide +kernel
set_option maxRecDepth 20000 in
theorem xa_IAE_58 : ∀ w ∈ ax_atS RX6 58 "java/lang/IllegalArgumentException" "java/lang/RuntimeException" ["java/lang/Exception"] 7 xb_IAE, w ∈ lw_tbl ∧ (goodWord w || aq_bad w) = true := by decide +kernel
set_option maxRecDepth 20000 in
theorem xa_ISE_84 : ∀ w ∈ ax_atS RX6 84 "java/lang/IllegalStateException" "java/lang/RuntimeException" ["java/lang/Exception"] 7 xb_ISE, w ∈ lw_tbl ∧ (goodWord w || aq_bad w) = true := by decide +kernel
set_option maxRecDepth 20000 in
theorem xa_IOB_149 : ∀ w ∈ ax_atS RX6 149 "java/lang/IndexOutOfBoundsException" "java/lang/RuntimeException" ["java/lang/Exception"] 7 xb_IOB, w ∈ lw_tbl ∧ (goodWord w || aq_bad w) = true := by decide +kernel
set_option maxRecDepth 20000 in
theorem xa_NSE_125 : ∀ w ∈ ax_atS RX6 125 "java/util/NoSuchElementException" "java/lang/RuntimeException" ["java/lang/Exception"] 13 xb_NSE, w ∈ lw_tbl ∧ (goodWord w || aq_bad w) = true := by decide +kernel
theorem xh_L_setLetters : ∀ (E : String) (v : Int32), ([("java/lang/IllegalArgumentException", 1)] : List (String × Int32)).lookup E = some v → ∃ (pre : List ExceptionTableEntry) (x : ExceptionTableEntry) (suf : List ExceptionTableEntry), tableOf [(0, 9, 12, 13)] = pre ++ x :: suf ∧ (∀ z ∈ pre, z.catchType ≠ 0 ∧ ∃ nm : String, Jvm.Cond.classLink RL z.catchType nm ∈ lw_tbl ∧ (E, nm) ∈ aq_nc) ∧ covers x 4 = true ∧ x.catchType ≠ 0 ∧ Jvm.Cond.classLink RL x.catchType E ∈ lw_tbl ∧ Jvm.Cond.castable E E ∈ lw_tbl ∧ aq_hnd cL_setLetters 4 x.handlerPc v := by
  intro E v h
  rcases aq_lk h with ⟨rfl, rfl⟩ | h
  · exact ⟨[], ⟨0, 9, 12, 13⟩, [], rfl, (fun _ hz => nomatch hz), by decide, by decide, wd_1132, wd_1133, Or.inl ⟨3, 1, by decide +kernel, by decide, by decide +kernel, by decide +kernel, by decide +kernel⟩⟩
  · cases h
theorem xh_L_append : ∀ (E : String) (v : Int32), ([("java/lang/IllegalArgumentException", 1), ("java/lang/IllegalStateException", 2)] : List (String × Int32)).lookup E = some v → ∃ (pre : List ExceptionTableEntry) (x : ExceptionTableEntry) (suf : List ExceptionTableEntry), tableOf [(0, 10, 13, 13), (0, 10, 17, 19)] = pre ++ x :: suf ∧ (∀ z ∈ pre, z.catchType ≠ 0 ∧ ∃ nm : String, Jvm.Cond.classLink RL z.catchType nm ∈ lw_tbl ∧ (E, nm) ∈ aq_nc) ∧ covers x 5 = true ∧ x.catchType ≠ 0 ∧ Jvm.Cond.classLink RL x.catchType E ∈ lw_tbl ∧ Jvm.Cond.castable E E ∈ lw_tbl ∧ aq_hnd cL_append 5 x.handlerPc v := by
  intro E v h
  rcases aq_lk h with ⟨rfl, rfl⟩ | h
  · exact ⟨[], ⟨0, 10, 13, 13⟩, [⟨0, 10, 17, 19⟩], rfl, (fun _ hz => nomatch hz), by decide, by decide, wd_1132, wd_1133, Or.inr ⟨4, 1, by decide +kernel, by decide, by decide +kernel, by decide +kernel, by decide +kernel⟩⟩
  rcases aq_lk h with ⟨rfl, rfl⟩ | h
  · exact ⟨[⟨0, 10, 13, 13⟩], ⟨0, 10, 17, 19⟩, [], rfl, (List.forall_mem_cons.mpr ⟨⟨by decide, "java/lang/IllegalArgumentException", wd_1132, (List.mem_of_getElem? (i := 3) rfl)⟩, (fun _ hz => nomatch hz)⟩), by decide, by decide, wd_1134, wd_1135, Or.inr ⟨4, 2, by decide +kernel, by decide, by decide +kernel, by decide +kernel, by decide +kernel⟩⟩
  · cases h
theorem xh_L_feed : ∀ (E : String) (v : Int32), ([("java/lang/IllegalArgumentException", 1), ("java/lang/IllegalStateException", 2)] : List (String × Int32)).lookup E = some v → ∃ (pre : List ExceptionTableEntry) (x : ExceptionTableEntry) (suf : List ExceptionTableEntry), tableOf [(0, 9, 12, 13), (0, 9, 15, 19)] = pre ++ x :: suf ∧ (∀ z ∈ pre, z.catchType ≠ 0 ∧ ∃ nm : String, Jvm.Cond.classLink RL z.catchType nm ∈ lw_tbl ∧ (E, nm) ∈ aq_nc) ∧ covers x 4 = true ∧ x.catchType ≠ 0 ∧ Jvm.Cond.classLink RL x.catchType E ∈ lw_tbl ∧ Jvm.Cond.castable E E ∈ lw_tbl ∧ aq_hnd cL_feed 4 x.handlerPc v := by
  intro E v h
  rcases aq_lk h with ⟨rfl, rfl⟩ | h
  · exact ⟨[], ⟨0, 9, 12, 13⟩, [⟨0, 9, 15, 19⟩], rfl, (fun _ hz => nomatch hz), by decide, by decide, wd_1132, wd_1133, Or.inl ⟨3, 1, by decide +kernel, by decide, by decide +kernel, by decide +kernel, by decide +kernel⟩⟩
  rcases aq_lk h with ⟨rfl, rfl⟩ | h
  · exact ⟨[⟨0, 9, 12, 13⟩], ⟨0, 9, 15, 19⟩, [], rfl, (List.forall_mem_cons.mpr ⟨⟨by decide, "java/lang/IllegalArgumentException", wd_1132, (List.mem_of_getElem? (i := 3) rfl)⟩, (fun _ hz => nomatch hz)⟩), by decide, by decide, wd_1134, wd_1135, Or.inl ⟨3, 2, by decide +kernel, by decide, by decide +kernel, by decide +kernel, by decide +kernel⟩⟩
  · cases h
theorem xh_L_parseWord : ∀ (E : String) (v : Int32), ([("java/lang/IllegalArgumentException", 1), ("java/lang/IllegalStateException", 2)] : List (String × Int32)).lookup E = some v → ∃ (pre : List ExceptionTableEntry) (x : ExceptionTableEntry) (suf : List ExceptionTableEntry), tableOf [(0, 9, 12, 13), (0, 9, 15, 19)] = pre ++ x :: suf ∧ (∀ z ∈ pre, z.catchType ≠ 0 ∧ ∃ nm : String, Jvm.Cond.classLink RL z.catchType nm ∈ lw_tbl ∧ (E, nm) ∈ aq_nc) ∧ covers x 4 = true ∧ x.catchType ≠ 0 ∧ Jvm.Cond.classLink RL x.catchType E ∈ lw_tbl ∧ Jvm.Cond.castable E E ∈ lw_tbl ∧ aq_hnd cL_parseWord 4 x.handlerPc v := by
  intro E v h
  rcases aq_lk h with ⟨rfl, rfl⟩ | h
  · exact ⟨[], ⟨0, 9, 12, 13⟩, [⟨0, 9, 15, 19⟩], rfl, (fun _ hz => nomatch hz), by decide, by decide, wd_1132, wd_1133, Or.inl ⟨3, 1, by decide +kernel, by decide, by decide +kernel, by decide +kernel, by decide +kernel⟩⟩
  rcases aq_lk h with ⟨rfl, rfl⟩ | h
  · exact ⟨[⟨0, 9, 12, 13⟩], ⟨0, 9, 15, 19⟩, [], rfl, (List.forall_mem_cons.mpr ⟨⟨by decide, "java/lang/IllegalArgumentException", wd_1132, (List.mem_of_getElem? (i := 3) rfl)⟩, (fun _ hz => nomatch hz)⟩), by decide, by decide, wd_1134, wd_1135, Or.inl ⟨3, 2, by decide +kernel, by decide, by decide +kernel, by decide +kernel, by decide +kernel⟩⟩
  · cases h
theorem xh_L_errorPosition : ∀ (E : String) (v : Int32), ([("java/util/NoSuchElementException", 1)] : List (String × Int32)).lookup E = some v → ∃ (pre : List ExceptionTableEntry) (x : ExceptionTableEntry) (suf : List ExceptionTableEntry), tableOf [(0, 8, 11, 31)] = pre ++ x :: suf ∧ (∀ z ∈ pre, z.catchType ≠ 0 ∧ ∃ nm : String, Jvm.Cond.classLink RL z.catchType nm ∈ lw_tbl ∧ (E, nm) ∈ aq_nc) ∧ covers x 3 = true ∧ x.catchType ≠ 0 ∧ Jvm.Cond.classLink RL x.catchType E ∈ lw_tbl ∧ Jvm.Cond.castable E E ∈ lw_tbl ∧ aq_hnd cL_errorPosition 3 x.handlerPc v := by
  intro E v h
  rcases aq_lk h with ⟨rfl, rfl⟩ | h
  · exact ⟨[], ⟨0, 8, 11, 31⟩, [], rfl, (fun _ hz => nomatch hz), by decide, by decide, wd_1136, wd_1137, Or.inl ⟨2, 1, by decide +kernel, by decide, by decide +kernel, by decide +kernel, by decide +kernel⟩⟩
  · cases h
theorem xh_L_length : ∀ (E : String) (v : Int32), ([("java/lang/IllegalArgumentException", 1)] : List (String × Int32)).lookup E = some v → ∃ (pre : List ExceptionTableEntry) (x : ExceptionTableEntry) (suf : List ExceptionTableEntry), tableOf [(0, 9, 12, 13)] = pre ++ x :: suf ∧ (∀ z ∈ pre, z.catchType ≠ 0 ∧ ∃ nm : String, Jvm.Cond.classLink RL z.catchType nm ∈ lw_tbl ∧ (E, nm) ∈ aq_nc) ∧ covers x 4 = true ∧ x.catchType ≠ 0 ∧ Jvm.Cond.classLink RL x.catchType E ∈ lw_tbl ∧ Jvm.Cond.castable E E ∈ lw_tbl ∧ aq_hnd cL_length 4 x.handlerPc v := by
  intro E v h
  rcases aq_lk h with ⟨rfl, rfl⟩ | h
  · exact ⟨[], ⟨0, 9, 12, 13⟩, [], rfl, (fun _ hz => nomatch hz), by decide, by decide, wd_1132, wd_1133, Or.inl ⟨3, 1, by decide +kernel, by decide, by decide +kernel, by decide +kernel, by decide +kernel⟩⟩
  · cases h
theorem xh_L_symbol : ∀ (E : String) (v : Int32), ([("java/lang/IllegalArgumentException", 1), ("java/lang/IndexOutOfBoundsException", 2)] : List (String × Int32)).lookup E = some v → ∃ (pre : List ExceptionTableEntry) (x : ExceptionTableEntry) (suf : List ExceptionTableEntry), tableOf [(0, 10, 13, 13), (0, 10, 17, 39)] = pre ++ x :: suf ∧ (∀ z ∈ pre, z.catchType ≠ 0 ∧ ∃ nm : String, Jvm.Cond.classLink RL z.catchType nm ∈ lw_tbl ∧ (E, nm) ∈ aq_nc) ∧ covers x 5 = true ∧ x.catchType ≠ 0 ∧ Jvm.Cond.classLink RL x.catchType E ∈ lw_tbl ∧ Jvm.Cond.castable E E ∈ lw_tbl ∧ aq_hnd cL_symbol 5 x.handlerPc v := by
  intro E v h
  rcases aq_lk h with ⟨rfl, rfl⟩ | h
  · exact ⟨[], ⟨0, 10, 13, 13⟩, [⟨0, 10, 17, 39⟩], rfl, (fun _ hz => nomatch hz), by decide, by decide, wd_1132, wd_1133, Or.inr ⟨4, 1, by decide +kernel, by decide, by decide +kernel, by decide +kernel, by decide +kernel⟩⟩
  rcases aq_lk h with ⟨rfl, rfl⟩ | h
  · exact ⟨[⟨0, 10, 13, 13⟩], ⟨0, 10, 17, 39⟩, [], rfl, (List.forall_mem_cons.mpr ⟨⟨by decide, "java/lang/IllegalArgumentException", wd_1132, (List.mem_of_getElem? (i := 4) rfl)⟩, (fun _ hz => nomatch hz)⟩), by decide, by decide, wd_1138, wd_1139, Or.inr ⟨4, 2, by decide +kernel, by decide, by decide +kernel, by decide +kernel, by decide +kernel⟩⟩
  · cases h
theorem xh_L_setSymbol : ∀ (E : String) (v : Int32), ([("java/lang/IllegalArgumentException", 1), ("java/lang/IndexOutOfBoundsException", 2)] : List (String × Int32)).lookup E = some v → ∃ (pre : List ExceptionTableEntry) (x : ExceptionTableEntry) (suf : List ExceptionTableEntry), tableOf [(0, 12, 15, 13), (0, 12, 19, 39)] = pre ++ x :: suf ∧ (∀ z ∈ pre, z.catchType ≠ 0 ∧ ∃ nm : String, Jvm.Cond.classLink RL z.catchType nm ∈ lw_tbl ∧ (E, nm) ∈ aq_nc) ∧ covers x 7 = true ∧ x.catchType ≠ 0 ∧ Jvm.Cond.classLink RL x.catchType E ∈ lw_tbl ∧ Jvm.Cond.castable E E ∈ lw_tbl ∧ aq_hnd cL_setSymbol 6 x.handlerPc v := by
  intro E v h
  rcases aq_lk h with ⟨rfl, rfl⟩ | h
  · exact ⟨[], ⟨0, 12, 15, 13⟩, [⟨0, 12, 19, 39⟩], rfl, (fun _ hz => nomatch hz), by decide, by decide, wd_1132, wd_1133, Or.inr ⟨5, 1, by decide +kernel, by decide, by decide +kernel, by decide +kernel, by decide +kernel⟩⟩
  rcases aq_lk h with ⟨rfl, rfl⟩ | h
  · exact ⟨[⟨0, 12, 15, 13⟩], ⟨0, 12, 19, 39⟩, [], rfl, (List.forall_mem_cons.mpr ⟨⟨by decide, "java/lang/IllegalArgumentException", wd_1132, (List.mem_of_getElem? (i := 4) rfl)⟩, (fun _ hz => nomatch hz)⟩), by decide, by decide, wd_1138, wd_1139, Or.inr ⟨5, 2, by decide +kernel, by decide, by decide +kernel, by decide +kernel, by decide +kernel⟩⟩
  · cases h
theorem xh_L_clear : ∀ (E : String) (v : Int32), ([("java/lang/IllegalArgumentException", 1)] : List (String × Int32)).lookup E = some v → ∃ (pre : List ExceptionTableEntry) (x : ExceptionTableEntry) (suf : List ExceptionTableEntry), tableOf [(0, 9, 12, 13)] = pre ++ x :: suf ∧ (∀ z ∈ pre, z.catchType ≠ 0 ∧ ∃ nm : String, Jvm.Cond.classLink RL z.catchType nm ∈ lw_tbl ∧ (E, nm) ∈ aq_nc) ∧ covers x 4 = true ∧ x.catchType ≠ 0 ∧ Jvm.Cond.classLink RL x.catchType E ∈ lw_tbl ∧ Jvm.Cond.castable E E ∈ lw_tbl ∧ aq_hnd cL_clear 4 x.handlerPc v := by
  intro E v h
  rcases aq_lk h with ⟨rfl, rfl⟩ | h
  · exact ⟨[], ⟨0, 9, 12, 13⟩, [], rfl, (fun _ hz => nomatch hz), by decide, by decide, wd_1132, wd_1133, Or.inl ⟨3, 1, by decide +kernel, by decide, by decide +kernel, by decide +kernel, by decide +kernel⟩⟩
  · cases h
theorem xh_L_concatenate : ∀ (E : String) (v : Int32), ([("java/lang/IllegalArgumentException", 1), ("java/lang/IllegalStateException", 2)] : List (String × Int32)).lookup E = some v → ∃ (pre : List ExceptionTableEntry) (x : ExceptionTableEntry) (suf : List ExceptionTableEntry), tableOf [(0, 10, 13, 13), (0, 10, 17, 19)] = pre ++ x :: suf ∧ (∀ z ∈ pre, z.catchType ≠ 0 ∧ ∃ nm : String, Jvm.Cond.classLink RL z.catchType nm ∈ lw_tbl ∧ (E, nm) ∈ aq_nc) ∧ covers x 5 = true ∧ x.catchType ≠ 0 ∧ Jvm.Cond.classLink RL x.catchType E ∈ lw_tbl ∧ Jvm.Cond.castable E E ∈ lw_tbl ∧ aq_hnd cL_concatenate 5 x.handlerPc v := by
  intro E v h
  rcases aq_lk h with ⟨rfl, rfl⟩ | h
  · exact ⟨[], ⟨0, 10, 13, 13⟩, [⟨0, 10, 17, 19⟩], rfl, (fun _ hz => nomatch hz), by decide, by decide, wd_1132, wd_1133, Or.inr ⟨4, 1, by decide +kernel, by decide, by decide +kernel, by decide +kernel, by decide +kernel⟩⟩
  rcases aq_lk h with ⟨rfl, rfl⟩ | h
  · exact ⟨[⟨0, 10, 13, 13⟩], ⟨0, 10, 17, 19⟩, [], rfl, (List.forall_mem_cons.mpr ⟨⟨by decide, "java/lang/IllegalArgumentException", wd_1132, (List.mem_of_getElem? (i := 3) rfl)⟩, (fun _ hz => nomatch hz)⟩), by decide, by decide, wd_1134, wd_1135, Or.inr ⟨4, 2, by decide +kernel, by decide, by decide +kernel, by decide +kernel, by decide +kernel⟩⟩
  · cases h
theorem xh_L_reverse : ∀ (E : String) (v : Int32), ([("java/lang/IllegalArgumentException", 1)] : List (String × Int32)).lookup E = some v → ∃ (pre : List ExceptionTableEntry) (x : ExceptionTableEntry) (suf : List ExceptionTableEntry), tableOf [(0, 16, 19, 13)] = pre ++ x :: suf ∧ (∀ z ∈ pre, z.catchType ≠ 0 ∧ ∃ nm : String, Jvm.Cond.classLink RL z.catchType nm ∈ lw_tbl ∧ (E, nm) ∈ aq_nc) ∧ covers x 4 = true ∧ x.catchType ≠ 0 ∧ Jvm.Cond.classLink RL x.catchType E ∈ lw_tbl ∧ Jvm.Cond.castable E E ∈ lw_tbl ∧ aq_hnd cL_reverse 4 x.handlerPc v := by
  intro E v h
  rcases aq_lk h with ⟨rfl, rfl⟩ | h
  · exact ⟨[], ⟨0, 16, 19, 13⟩, [], rfl, (fun _ hz => nomatch hz), by decide, by decide, wd_1132, wd_1133, Or.inl ⟨3, 1, by decide +kernel, by decide, by decide +kernel, by decide +kernel, by decide +kernel⟩⟩
  · cases h
theorem xh_L_rotate : ∀ (E : String) (v : Int32), ([("java/lang/IllegalArgumentException", 1), ("java/lang/IndexOutOfBoundsException", 2)] : List (String × Int32)).lookup E = some v → ∃ (pre : List ExceptionTableEntry) (x : ExceptionTableEntry) (suf : List ExceptionTableEntry), tableOf [(0, 17, 20, 13), (0, 17, 24, 39)] = pre ++ x :: suf ∧ (∀ z ∈ pre, z.catchType ≠ 0 ∧ ∃ nm : String, Jvm.Cond.classLink RL z.catchType nm ∈ lw_tbl ∧ (E, nm) ∈ aq_nc) ∧ covers x 5 = true ∧ x.catchType ≠ 0 ∧ Jvm.Cond.classLink RL x.catchType E ∈ lw_tbl ∧ Jvm.Cond.castable E E ∈ lw_tbl ∧ aq_hnd cL_rotate 5 x.handlerPc v := by
  intro E v h
  rcases aq_lk h with ⟨rfl, rfl⟩ | h
  · exact ⟨[], ⟨0, 17, 20, 13⟩, [⟨0, 17, 24, 39⟩], rfl, (fun _ hz => nomatch hz), by decide, by decide, wd_1132, wd_1133, Or.inr ⟨4, 1, by decide +kernel, by decide, by decide +kernel, by decide +kernel, by decide +kernel⟩⟩
  rcases aq_lk h with ⟨rfl, rfl⟩ | h
  · exact ⟨[⟨0, 17, 20, 13⟩], ⟨0, 17, 24, 39⟩, [], rfl, (List.forall_mem_cons.mpr ⟨⟨by decide, "java/lang/IllegalArgumentException", wd_1132, (List.mem_of_getElem? (i := 4) rfl)⟩, (fun _ hz => nomatch hz)⟩), by decide, by decide, wd_1138, wd_1139, Or.inr ⟨4, 2, by decide +kernel, by decide, by decide +kernel, by decide +kernel, by decide +kernel⟩⟩
  · cases h
theorem xh_L_holes : ∀ (E : String) (v : Int32), ([("java/lang/IllegalArgumentException", 1)] : List (String × Int32)).lookup E = some v → ∃ (pre : List ExceptionTableEntry) (x : ExceptionTableEntry) (suf : List ExceptionTableEntry), tableOf [(0, 9, 12, 13)] = pre ++ x :: suf ∧ (∀ z ∈ pre, z.catchType ≠ 0 ∧ ∃ nm : String, Jvm.Cond.classLink RL z.catchType nm ∈ lw_tbl ∧ (E, nm) ∈ aq_nc) ∧ covers x 4 = true ∧ x.catchType ≠ 0 ∧ Jvm.Cond.classLink RL x.catchType E ∈ lw_tbl ∧ Jvm.Cond.castable E E ∈ lw_tbl ∧ aq_hnd cL_holes 4 x.handlerPc v := by
  intro E v h
  rcases aq_lk h with ⟨rfl, rfl⟩ | h
  · exact ⟨[], ⟨0, 9, 12, 13⟩, [], rfl, (fun _ hz => nomatch hz), by decide, by decide, wd_1132, wd_1133, Or.inl ⟨3, 1, by decide +kernel, by decide, by decide +kernel, by decide +kernel, by decide +kernel⟩⟩
  · cases h
theorem xh_L_isCompatible : ∀ (E : String) (v : Int32), ([("java/lang/IllegalArgumentException", 1)] : List (String × Int32)).lookup E = some v → ∃ (pre : List ExceptionTableEntry) (x : ExceptionTableEntry) (suf : List ExceptionTableEntry), tableOf [(0, 17, 20, 13)] = pre ++ x :: suf ∧ (∀ z ∈ pre, z.catchType ≠ 0 ∧ ∃ nm : String, Jvm.Cond.classLink RL z.catchType nm ∈ lw_tbl ∧ (E, nm) ∈ aq_nc) ∧ covers x 5 = true ∧ x.catchType ≠ 0 ∧ Jvm.Cond.classLink RL x.catchType E ∈ lw_tbl ∧ Jvm.Cond.castable E E ∈ lw_tbl ∧ aq_hnd cL_isCompatible 5 x.handlerPc v := by
  intro E v h
  rcases aq_lk h with ⟨rfl, rfl⟩ | h
  · exact ⟨[], ⟨0, 17, 20, 13⟩, [], rfl, (fun _ hz => nomatch hz), by decide, by decide, wd_1132, wd_1133, Or.inr ⟨4, 1, by decide +kernel, by decide, by decide +kernel, by decide +kernel, by decide +kernel⟩⟩
  · cases h
theorem xh_L_isContained : ∀ (E : String) (v : Int32), ([("java/lang/IllegalArgumentException", 1)] : List (String × Int32)).lookup E = some v → ∃ (pre : List ExceptionTableEntry) (x : ExceptionTableEntry) (suf : List ExceptionTableEntry), tableOf [(0, 17, 20, 13)] = pre ++ x :: suf ∧ (∀ z ∈ pre, z.catchType ≠ 0 ∧ ∃ nm : String, Jvm.Cond.classLink RL z.catchType nm ∈ lw_tbl ∧ (E, nm) ∈ aq_nc) ∧ covers x 5 = true ∧ x.catchType ≠ 0 ∧ Jvm.Cond.classLink RL x.catchType E ∈ lw_tbl ∧ Jvm.Cond.castable E E ∈ lw_tbl ∧ aq_hnd cL_isContained 5 x.handlerPc v := by
  intro E v h
  rcases aq_lk h with ⟨rfl, rfl⟩ | h
  · exact ⟨[], ⟨0, 17, 20, 13⟩, [], rfl, (fun _ hz => nomatch hz), by decide, by decide, wd_1132, wd_1133, Or.inr ⟨4, 1, by decide +kernel, by decide, by decide +kernel, by decide +kernel, by decide +kernel⟩⟩
  · cases h
theorem xh_L_conflict : ∀ (E : String) (v : Int32), ([("java/lang/IllegalArgumentException", 1), ("java/lang/IllegalStateException", 2)] : List (String × Int32)).lookup E = some v → ∃ (pre : List ExceptionTableEntry) (x : ExceptionTableEntry) (suf : List ExceptionTableEntry), tableOf [(0, 10, 13, 13), (0, 10, 17, 19)] = pre ++ x :: suf ∧ (∀ z ∈ pre, z.catchType ≠ 0 ∧ ∃ nm : String, Jvm.Cond.classLink RL z.catchType nm ∈ lw_tbl ∧ (E, nm) ∈ aq_nc) ∧ covers x 5 = true ∧ x.catchType ≠ 0 ∧ Jvm.Cond.classLink RL x.catchType E ∈ lw_tbl ∧ Jvm.Cond.castable E E ∈ lw_tbl ∧ aq_hnd cL_conflict 5 x.handlerPc v := by
  intro E v h
  rcases aq_lk h with ⟨rfl, rfl⟩ | h
  · exact ⟨[], ⟨0, 10, 13, 13⟩, [⟨0, 10, 17, 19⟩], rfl, (fun _ hz => nomatch hz), by decide, by decide, wd_1132, wd_1133, Or.inr ⟨4, 1, by decide +kernel, by decide, by decide +kernel, by decide +kernel, by decide +kernel⟩⟩
  rcases aq_lk h with ⟨rfl, rfl⟩ | h
  · exact ⟨[⟨0, 10, 13, 13⟩], ⟨0, 10, 17, 19⟩, [], rfl, (List.forall_mem_cons.mpr ⟨⟨by decide, "java/lang/IllegalArgumentException", wd_1132, (List.mem_of_getElem? (i := 3) rfl)⟩, (fun _ hz => nomatch hz)⟩), by decide, by decide, wd_1134, wd_1135, Or.inr ⟨4, 2, by decide +kernel, by decide, by decide +kernel, by decide +kernel, by decide +kernel⟩⟩
  · cases h
theorem xh_L_join : ∀ (E : String) (v : Int32), ([("java/lang/IllegalArgumentException", 1), ("java/lang/IllegalStateException", 2)] : List (String × Int32)).lookup E = some v → ∃ (pre : List ExceptionTableEntry) (x : ExceptionTableEntry) (suf : List ExceptionTableEntry), tableOf [(0, 12, 15, 13), (0, 12, 19, 19)] = pre ++ x :: suf ∧ (∀ z ∈ pre, z.catchType ≠ 0 ∧ ∃ nm : String, Jvm.Cond.classLink RL z.catchType nm ∈ lw_tbl ∧ (E, nm) ∈ aq_nc) ∧ covers x 7 = true ∧ x.catchType ≠ 0 ∧ Jvm.Cond.classLink RL x.catchType E ∈ lw_tbl ∧ Jvm.Cond.castable E E ∈ lw_tbl ∧ aq_hnd cL_join 6 x.handlerPc v := by
  intro E v h
  rcases aq_lk h with ⟨rfl, rfl⟩ | h
  · exact ⟨[], ⟨0, 12, 15, 13⟩, [⟨0, 12, 19, 19⟩], rfl, (fun _ hz => nomatch hz), by decide, by decide, wd_1132, wd_1133, Or.inr ⟨5, 1, by decide +kernel, by decide, by decide +kernel, by decide +kernel, by decide +kernel⟩⟩
  rcases aq_lk h with ⟨rfl, rfl⟩ | h
  · exact ⟨[⟨0, 12, 15, 13⟩], ⟨0, 12, 19, 19⟩, [], rfl, (List.forall_mem_cons.mpr ⟨⟨by decide, "java/lang/IllegalArgumentException", wd_1132, (List.mem_of_getElem? (i := 3) rfl)⟩, (fun _ hz => nomatch hz)⟩), by decide, by decide, wd_1134, wd_1135, Or.inr ⟨5, 2, by decide +kernel, by decide, by decide +kernel, by decide +kernel, by decide +kernel⟩⟩
  · cases h
theorem xh_L_isPeriod : ∀ (E : String) (v : Int32), ([("java/lang/IllegalArgumentException", 1)] : List (String × Int32)).lookup E = some v → ∃ (pre : List ExceptionTableEntry) (x : ExceptionTableEntry) (suf : List ExceptionTableEntry), tableOf [(0, 19, 22, 13)] = pre ++ x :: suf ∧ (∀ z ∈ pre, z.catchType ≠ 0 ∧ ∃ nm : String, Jvm.Cond.classLink RL z.catchType nm ∈ lw_tbl ∧ (E, nm) ∈ aq_nc) ∧ covers x 7 = true ∧ x.catchType ≠ 0 ∧ Jvm.Cond.classLink RL x.catchType E ∈ lw_tbl ∧ Jvm.Cond.castable E E ∈ lw_tbl ∧ aq_hnd cL_isPeriod 6 x.handlerPc v := by
  intro E v h
  rcases aq_lk h with ⟨rfl, rfl⟩ | h
  · exact ⟨[], ⟨0, 19, 22, 13⟩, [], rfl, (fun _ hz => nomatch hz), by decide, by decide, wd_1132, wd_1133, Or.inr ⟨5, 1, by decide +kernel, by decide, by decide +kernel, by decide +kernel, by decide +kernel⟩⟩
  · cases h
theorem xh_L_smallestPeriod : ∀ (E : String) (v : Int32), ([("java/lang/IllegalArgumentException", 1), ("java/util/NoSuchElementException", 2)] : List (String × Int32)).lookup E = some v → ∃ (pre : List ExceptionTableEntry) (x : ExceptionTableEntry) (suf : List ExceptionTableEntry), tableOf [(0, 10, 13, 13), (0, 10, 17, 31)] = pre ++ x :: suf ∧ (∀ z ∈ pre, z.catchType ≠ 0 ∧ ∃ nm : String, Jvm.Cond.classLink RL z.catchType nm ∈ lw_tbl ∧ (E, nm) ∈ aq_nc) ∧ covers x 5 = true ∧ x.catchType ≠ 0 ∧ Jvm.Cond.classLink RL x.catchType E ∈ lw_tbl ∧ Jvm.Cond.castable E E ∈ lw_tbl ∧ aq_hnd cL_smallestPeriod 5 x.handlerPc v := by
  intro E v h
  rcases aq_lk h with ⟨rfl, rfl⟩ | h
  · exact ⟨[], ⟨0, 10, 13, 13⟩, [⟨0, 10, 17, 31⟩], rfl, (fun _ hz => nomatch hz), by decide, by decide, wd_1132, wd_1133, Or.inr ⟨4, 1, by decide +kernel, by decide, by decide +kernel, by decide +kernel, by decide +kernel⟩⟩
  rcases aq_lk h with ⟨rfl, rfl⟩ | h
  · exact ⟨[⟨0, 10, 13, 13⟩], ⟨0, 10, 17, 31⟩, [], rfl, (List.forall_mem_cons.mpr ⟨⟨by decide, "java/lang/IllegalArgumentException", wd_1132, (List.mem_of_getElem? (i := 7) rfl)⟩, (fun _ hz => nomatch hz)⟩), by decide, by decide, wd_1136, wd_1137, Or.inr ⟨4, 2, by decide +kernel, by decide, by decide +kernel, by decide +kernel, by decide +kernel⟩⟩
  · cases h
theorem xh_L_periodBound : ∀ (E : String) (v : Int32), ([("java/lang/IllegalArgumentException", 1)] : List (String × Int32)).lookup E = some v → ∃ (pre : List ExceptionTableEntry) (x : ExceptionTableEntry) (suf : List ExceptionTableEntry), tableOf [(0, 12, 15, 13)] = pre ++ x :: suf ∧ (∀ z ∈ pre, z.catchType ≠ 0 ∧ ∃ nm : String, Jvm.Cond.classLink RL z.catchType nm ∈ lw_tbl ∧ (E, nm) ∈ aq_nc) ∧ covers x 7 = true ∧ x.catchType ≠ 0 ∧ Jvm.Cond.classLink RL x.catchType E ∈ lw_tbl ∧ Jvm.Cond.castable E E ∈ lw_tbl ∧ aq_hnd cL_periodBound 6 x.handlerPc v := by
  intro E v h
  rcases aq_lk h with ⟨rfl, rfl⟩ | h
  · exact ⟨[], ⟨0, 12, 15, 13⟩, [], rfl, (fun _ hz => nomatch hz), by decide, by decide, wd_1132, wd_1133, Or.inr ⟨5, 1, by decide +kernel, by decide, by decide +kernel, by decide +kernel, by decide +kernel⟩⟩
  · cases h
theorem xh_L_longestBorder : ∀ (E : String) (v : Int32), ([("java/lang/IllegalArgumentException", 1)] : List (String × Int32)).lookup E = some v → ∃ (pre : List ExceptionTableEntry) (x : ExceptionTableEntry) (suf : List ExceptionTableEntry), tableOf [(0, 9, 12, 13)] = pre ++ x :: suf ∧ (∀ z ∈ pre, z.catchType ≠ 0 ∧ ∃ nm : String, Jvm.Cond.classLink RL z.catchType nm ∈ lw_tbl ∧ (E, nm) ∈ aq_nc) ∧ covers x 4 = true ∧ x.catchType ≠ 0 ∧ Jvm.Cond.classLink RL x.catchType E ∈ lw_tbl ∧ Jvm.Cond.castable E E ∈ lw_tbl ∧ aq_hnd cL_longestBorder 4 x.handlerPc v := by
  intro E v h
  rcases aq_lk h with ⟨rfl, rfl⟩ | h
  · exact ⟨[], ⟨0, 9, 12, 13⟩, [], rfl, (fun _ hz => nomatch hz), by decide, by decide, wd_1132, wd_1133, Or.inl ⟨3, 1, by decide +kernel, by decide, by decide +kernel, by decide +kernel, by decide +kernel⟩⟩
  · cases h
theorem xh_L_isPrimitive : ∀ (E : String) (v : Int32), ([("java/lang/IllegalArgumentException", 1)] : List (String × Int32)).lookup E = some v → ∃ (pre : List ExceptionTableEntry) (x : ExceptionTableEntry) (suf : List ExceptionTableEntry), tableOf [(0, 16, 19, 13)] = pre ++ x :: suf ∧ (∀ z ∈ pre, z.catchType ≠ 0 ∧ ∃ nm : String, Jvm.Cond.classLink RL z.catchType nm ∈ lw_tbl ∧ (E, nm) ∈ aq_nc) ∧ covers x 4 = true ∧ x.catchType ≠ 0 ∧ Jvm.Cond.classLink RL x.catchType E ∈ lw_tbl ∧ Jvm.Cond.castable E E ∈ lw_tbl ∧ aq_hnd cL_isPrimitive 4 x.handlerPc v := by
  intro E v h
  rcases aq_lk h with ⟨rfl, rfl⟩ | h
  · exact ⟨[], ⟨0, 16, 19, 13⟩, [], rfl, (fun _ hz => nomatch hz), by decide, by decide, wd_1132, wd_1133, Or.inl ⟨3, 1, by decide +kernel, by decide, by decide +kernel, by decide +kernel, by decide +kernel⟩⟩
  · cases h
theorem xh_L_exponent : ∀ (E : String) (v : Int32), ([("java/lang/IllegalArgumentException", 1), ("java/util/NoSuchElementException", 2)] : List (String × Int32)).lookup E = some v → ∃ (pre : List ExceptionTableEntry) (x : ExceptionTableEntry) (suf : List ExceptionTableEntry), tableOf [(0, 9, 12, 13), (0, 9, 15, 31)] = pre ++ x :: suf ∧ (∀ z ∈ pre, z.catchType ≠ 0 ∧ ∃ nm : String, Jvm.Cond.classLink RL z.catchType nm ∈ lw_tbl ∧ (E, nm) ∈ aq_nc) ∧ covers x 4 = true ∧ x.catchType ≠ 0 ∧ Jvm.Cond.classLink RL x.catchType E ∈ lw_tbl ∧ Jvm.Cond.castable E E ∈ lw_tbl ∧ aq_hnd cL_exponent 4 x.handlerPc v := by
  intro E v h
  rcases aq_lk h with ⟨rfl, rfl⟩ | h
  · exact ⟨[], ⟨0, 9, 12, 13⟩, [⟨0, 9, 15, 31⟩], rfl, (fun _ hz => nomatch hz), by decide, by decide, wd_1132, wd_1133, Or.inl ⟨3, 1, by decide +kernel, by decide, by decide +kernel, by decide +kernel, by decide +kernel⟩⟩
  rcases aq_lk h with ⟨rfl, rfl⟩ | h
  · exact ⟨[⟨0, 9, 12, 13⟩], ⟨0, 9, 15, 31⟩, [], rfl, (List.forall_mem_cons.mpr ⟨⟨by decide, "java/lang/IllegalArgumentException", wd_1132, (List.mem_of_getElem? (i := 7) rfl)⟩, (fun _ hz => nomatch hz)⟩), by decide, by decide, wd_1136, wd_1137, Or.inl ⟨3, 2, by decide +kernel, by decide, by decide +kernel, by decide +kernel, by decide +kernel⟩⟩
  · cases h
theorem xh_L_completionCount : ∀ (E : String) (v : Int32), ([("java/lang/IllegalArgumentException", 1), ("java/lang/ArithmeticException", 2)] : List (String × Int32)).lookup E = some v → ∃ (pre : List ExceptionTableEntry) (x : ExceptionTableEntry) (suf : List ExceptionTableEntry), tableOf [(0, 8, 11, 13), (0, 8, 14, 98)] = pre ++ x :: suf ∧ (∀ z ∈ pre, z.catchType ≠ 0 ∧ ∃ nm : String, Jvm.Cond.classLink RL z.catchType nm ∈ lw_tbl ∧ (E, nm) ∈ aq_nc) ∧ covers x 4 = true ∧ x.catchType ≠ 0 ∧ Jvm.Cond.classLink RL x.catchType E ∈ lw_tbl ∧ Jvm.Cond.castable E E ∈ lw_tbl ∧ aq_hnd cL_completionCount 4 x.handlerPc v := by
  intro E v h
  rcases aq_lk h with ⟨rfl, rfl⟩ | h
  · exact ⟨[], ⟨0, 8, 11, 13⟩, [⟨0, 8, 14, 98⟩], rfl, (fun _ hz => nomatch hz), by decide, by decide, wd_1132, wd_1133, Or.inl ⟨3, 1, by decide +kernel, by decide, by decide +kernel, by decide +kernel, by decide +kernel⟩⟩
  rcases aq_lk h with ⟨rfl, rfl⟩ | h
  · exact ⟨[⟨0, 8, 11, 13⟩], ⟨0, 8, 14, 98⟩, [], rfl, (List.forall_mem_cons.mpr ⟨⟨by decide, "java/lang/IllegalArgumentException", wd_1132, (List.mem_of_getElem? (i := 0) rfl)⟩, (fun _ hz => nomatch hz)⟩), by decide, by decide, wd_1140, wd_1141, Or.inl ⟨3, 2, by decide +kernel, by decide, by decide +kernel, by decide +kernel, by decide +kernel⟩⟩
  · cases h
theorem xh_L_complete : ∀ (E : String) (v : Int32), ([("java/lang/IllegalArgumentException", 1), ("java/lang/ArithmeticException", 2), ("java/util/NoSuchElementException", 3)] : List (String × Int32)).lookup E = some v → ∃ (pre : List ExceptionTableEntry) (x : ExceptionTableEntry) (suf : List ExceptionTableEntry), tableOf [(0, 13, 16, 13), (0, 13, 20, 98), (0, 13, 24, 31)] = pre ++ x :: suf ∧ (∀ z ∈ pre, z.catchType ≠ 0 ∧ ∃ nm : String, Jvm.Cond.classLink RL z.catchType nm ∈ lw_tbl ∧ (E, nm) ∈ aq_nc) ∧ covers x 8 = true ∧ x.catchType ≠ 0 ∧ Jvm.Cond.classLink RL x.catchType E ∈ lw_tbl ∧ Jvm.Cond.castable E E ∈ lw_tbl ∧ aq_hnd cL_complete 7 x.handlerPc v := by
  intro E v h
  rcases aq_lk h with ⟨rfl, rfl⟩ | h
  · exact ⟨[], ⟨0, 13, 16, 13⟩, [⟨0, 13, 20, 98⟩, ⟨0, 13, 24, 31⟩], rfl, (fun _ hz => nomatch hz), by decide, by decide, wd_1132, wd_1133, Or.inr ⟨6, 1, by decide +kernel, by decide, by decide +kernel, by decide +kernel, by decide +kernel⟩⟩
  rcases aq_lk h with ⟨rfl, rfl⟩ | h
  · exact ⟨[⟨0, 13, 16, 13⟩], ⟨0, 13, 20, 98⟩, [⟨0, 13, 24, 31⟩], rfl, (List.forall_mem_cons.mpr ⟨⟨by decide, "java/lang/IllegalArgumentException", wd_1132, (List.mem_of_getElem? (i := 0) rfl)⟩, (fun _ hz => nomatch hz)⟩), by decide, by decide, wd_1140, wd_1141, Or.inr ⟨6, 2, by decide +kernel, by decide, by decide +kernel, by decide +kernel, by decide +kernel⟩⟩
  rcases aq_lk h with ⟨rfl, rfl⟩ | h
  · exact ⟨[⟨0, 13, 16, 13⟩, ⟨0, 13, 20, 98⟩], ⟨0, 13, 24, 31⟩, [], rfl, (List.forall_mem_cons.mpr ⟨⟨by decide, "java/lang/IllegalArgumentException", wd_1132, (List.mem_of_getElem? (i := 7) rfl)⟩, (List.forall_mem_cons.mpr ⟨⟨by decide, "java/lang/ArithmeticException", wd_1140, (List.mem_of_getElem? (i := 6) rfl)⟩, (fun _ hz => nomatch hz)⟩)⟩), by decide, by decide, wd_1136, wd_1137, Or.inr ⟨6, 3, by decide +kernel, by decide, by decide +kernel, by decide +kernel, by decide +kernel⟩⟩
  · cases h
theorem xh_L_primitiveCompletions : ∀ (E : String) (v : Int32), ([("java/lang/IllegalArgumentException", 1), ("java/lang/IllegalStateException", 2)] : List (String × Int32)).lookup E = some v → ∃ (pre : List ExceptionTableEntry) (x : ExceptionTableEntry) (suf : List ExceptionTableEntry), tableOf [(0, 9, 12, 13), (0, 9, 15, 19)] = pre ++ x :: suf ∧ (∀ z ∈ pre, z.catchType ≠ 0 ∧ ∃ nm : String, Jvm.Cond.classLink RL z.catchType nm ∈ lw_tbl ∧ (E, nm) ∈ aq_nc) ∧ covers x 4 = true ∧ x.catchType ≠ 0 ∧ Jvm.Cond.classLink RL x.catchType E ∈ lw_tbl ∧ Jvm.Cond.castable E E ∈ lw_tbl ∧ aq_hnd cL_primitiveCompletions 4 x.handlerPc v := by
  intro E v h
  rcases aq_lk h with ⟨rfl, rfl⟩ | h
  · exact ⟨[], ⟨0, 9, 12, 13⟩, [⟨0, 9, 15, 19⟩], rfl, (fun _ hz => nomatch hz), by decide, by decide, wd_1132, wd_1133, Or.inl ⟨3, 1, by decide +kernel, by decide, by decide +kernel, by decide +kernel, by decide +kernel⟩⟩
  rcases aq_lk h with ⟨rfl, rfl⟩ | h
  · exact ⟨[⟨0, 9, 12, 13⟩], ⟨0, 9, 15, 19⟩, [], rfl, (List.forall_mem_cons.mpr ⟨⟨by decide, "java/lang/IllegalArgumentException", wd_1132, (List.mem_of_getElem? (i := 3) rfl)⟩, (fun _ hz => nomatch hz)⟩), by decide, by decide, wd_1134, wd_1135, Or.inl ⟨3, 2, by decide +kernel, by decide, by decide +kernel, by decide +kernel, by decide +kernel⟩⟩
  · cases h
theorem xh_L_complexity : ∀ (E : String) (v : Int32), ([("java/lang/IllegalArgumentException", 1)] : List (String × Int32)).lookup E = some v → ∃ (pre : List ExceptionTableEntry) (x : ExceptionTableEntry) (suf : List ExceptionTableEntry), tableOf [(0, 10, 13, 13)] = pre ++ x :: suf ∧ (∀ z ∈ pre, z.catchType ≠ 0 ∧ ∃ nm : String, Jvm.Cond.classLink RL z.catchType nm ∈ lw_tbl ∧ (E, nm) ∈ aq_nc) ∧ covers x 5 = true ∧ x.catchType ≠ 0 ∧ Jvm.Cond.classLink RL x.catchType E ∈ lw_tbl ∧ Jvm.Cond.castable E E ∈ lw_tbl ∧ aq_hnd cL_complexity 5 x.handlerPc v := by
  intro E v h
  rcases aq_lk h with ⟨rfl, rfl⟩ | h
  · exact ⟨[], ⟨0, 10, 13, 13⟩, [], rfl, (fun _ hz => nomatch hz), by decide, by decide, wd_1132, wd_1133, Or.inr ⟨4, 1, by decide +kernel, by decide, by decide +kernel, by decide +kernel, by decide +kernel⟩⟩
  · cases h
theorem xh_L_occurrences : ∀ (E : String) (v : Int32), ([("java/lang/IllegalArgumentException", 1)] : List (String × Int32)).lookup E = some v → ∃ (pre : List ExceptionTableEntry) (x : ExceptionTableEntry) (suf : List ExceptionTableEntry), tableOf [(0, 10, 13, 13)] = pre ++ x :: suf ∧ (∀ z ∈ pre, z.catchType ≠ 0 ∧ ∃ nm : String, Jvm.Cond.classLink RL z.catchType nm ∈ lw_tbl ∧ (E, nm) ∈ aq_nc) ∧ covers x 5 = true ∧ x.catchType ≠ 0 ∧ Jvm.Cond.classLink RL x.catchType E ∈ lw_tbl ∧ Jvm.Cond.castable E E ∈ lw_tbl ∧ aq_hnd cL_occurrences 5 x.handlerPc v := by
  intro E v h
  rcases aq_lk h with ⟨rfl, rfl⟩ | h
  · exact ⟨[], ⟨0, 10, 13, 13⟩, [], rfl, (fun _ hz => nomatch hz), by decide, by decide, wd_1132, wd_1133, Or.inr ⟨4, 1, by decide +kernel, by decide, by decide +kernel, by decide +kernel, by decide +kernel⟩⟩
  · cases h
theorem xh_L_addPattern : ∀ (E : String) (v : Int32), ([("java/lang/IllegalArgumentException", 1), ("java/lang/IllegalStateException", 2)] : List (String × Int32)).lookup E = some v → ∃ (pre : List ExceptionTableEntry) (x : ExceptionTableEntry) (suf : List ExceptionTableEntry), tableOf [(0, 9, 12, 13), (0, 9, 15, 19)] = pre ++ x :: suf ∧ (∀ z ∈ pre, z.catchType ≠ 0 ∧ ∃ nm : String, Jvm.Cond.classLink RL z.catchType nm ∈ lw_tbl ∧ (E, nm) ∈ aq_nc) ∧ covers x 4 = true ∧ x.catchType ≠ 0 ∧ Jvm.Cond.classLink RL x.catchType E ∈ lw_tbl ∧ Jvm.Cond.castable E E ∈ lw_tbl ∧ aq_hnd cL_addPattern 4 x.handlerPc v := by
  intro E v h
  rcases aq_lk h with ⟨rfl, rfl⟩ | h
  · exact ⟨[], ⟨0, 9, 12, 13⟩, [⟨0, 9, 15, 19⟩], rfl, (fun _ hz => nomatch hz), by decide, by decide, wd_1132, wd_1133, Or.inl ⟨3, 1, by decide +kernel, by decide, by decide +kernel, by decide +kernel, by decide +kernel⟩⟩
  rcases aq_lk h with ⟨rfl, rfl⟩ | h
  · exact ⟨[⟨0, 9, 12, 13⟩], ⟨0, 9, 15, 19⟩, [], rfl, (List.forall_mem_cons.mpr ⟨⟨by decide, "java/lang/IllegalArgumentException", wd_1132, (List.mem_of_getElem? (i := 3) rfl)⟩, (fun _ hz => nomatch hz)⟩), by decide, by decide, wd_1134, wd_1135, Or.inl ⟨3, 2, by decide +kernel, by decide, by decide +kernel, by decide +kernel, by decide +kernel⟩⟩
  · cases h
theorem xh_L_removePattern : ∀ (E : String) (v : Int32), ([("java/lang/IndexOutOfBoundsException", 1)] : List (String × Int32)).lookup E = some v → ∃ (pre : List ExceptionTableEntry) (x : ExceptionTableEntry) (suf : List ExceptionTableEntry), tableOf [(0, 9, 12, 39)] = pre ++ x :: suf ∧ (∀ z ∈ pre, z.catchType ≠ 0 ∧ ∃ nm : String, Jvm.Cond.classLink RL z.catchType nm ∈ lw_tbl ∧ (E, nm) ∈ aq_nc) ∧ covers x 4 = true ∧ x.catchType ≠ 0 ∧ Jvm.Cond.classLink RL x.catchType E ∈ lw_tbl ∧ Jvm.Cond.castable E E ∈ lw_tbl ∧ aq_hnd cL_removePattern 4 x.handlerPc v := by
  intro E v h
  rcases aq_lk h with ⟨rfl, rfl⟩ | h
  · exact ⟨[], ⟨0, 9, 12, 39⟩, [], rfl, (fun _ hz => nomatch hz), by decide, by decide, wd_1138, wd_1139, Or.inl ⟨3, 1, by decide +kernel, by decide, by decide +kernel, by decide +kernel, by decide +kernel⟩⟩
  · cases h
theorem xh_L_avoids : ∀ (E : String) (v : Int32), ([("java/lang/IllegalArgumentException", 1)] : List (String × Int32)).lookup E = some v → ∃ (pre : List ExceptionTableEntry) (x : ExceptionTableEntry) (suf : List ExceptionTableEntry), tableOf [(0, 16, 19, 13)] = pre ++ x :: suf ∧ (∀ z ∈ pre, z.catchType ≠ 0 ∧ ∃ nm : String, Jvm.Cond.classLink RL z.catchType nm ∈ lw_tbl ∧ (E, nm) ∈ aq_nc) ∧ covers x 4 = true ∧ x.catchType ≠ 0 ∧ Jvm.Cond.classLink RL x.catchType E ∈ lw_tbl ∧ Jvm.Cond.castable E E ∈ lw_tbl ∧ aq_hnd cL_avoids 4 x.handlerPc v := by
  intro E v h
  rcases aq_lk h with ⟨rfl, rfl⟩ | h
  · exact ⟨[], ⟨0, 16, 19, 13⟩, [], rfl, (fun _ hz => nomatch hz), by decide, by decide, wd_1132, wd_1133, Or.inl ⟨3, 1, by decide +kernel, by decide, by decide +kernel, by decide +kernel, by decide +kernel⟩⟩
  · cases h
theorem xh_L_longestAvoiding : ∀ (E : String) (v : Int32), ([("java/util/NoSuchElementException", 1)] : List (String × Int32)).lookup E = some v → ∃ (pre : List ExceptionTableEntry) (x : ExceptionTableEntry) (suf : List ExceptionTableEntry), tableOf [(0, 8, 11, 31)] = pre ++ x :: suf ∧ (∀ z ∈ pre, z.catchType ≠ 0 ∧ ∃ nm : String, Jvm.Cond.classLink RL z.catchType nm ∈ lw_tbl ∧ (E, nm) ∈ aq_nc) ∧ covers x 3 = true ∧ x.catchType ≠ 0 ∧ Jvm.Cond.classLink RL x.catchType E ∈ lw_tbl ∧ Jvm.Cond.castable E E ∈ lw_tbl ∧ aq_hnd cL_longestAvoiding 3 x.handlerPc v := by
  intro E v h
  rcases aq_lk h with ⟨rfl, rfl⟩ | h
  · exact ⟨[], ⟨0, 8, 11, 31⟩, [], rfl, (fun _ hz => nomatch hz), by decide, by decide, wd_1136, wd_1137, Or.inl ⟨2, 1, by decide +kernel, by decide, by decide +kernel, by decide +kernel, by decide +kernel⟩⟩
  · cases h
theorem xh_L_countAvoiding : ∀ (E : String) (v : Int32), ([("java/lang/IllegalArgumentException", 1)] : List (String × Int32)).lookup E = some v → ∃ (pre : List ExceptionTableEntry) (x : ExceptionTableEntry) (suf : List ExceptionTableEntry), tableOf [(0, 8, 11, 13)] = pre ++ x :: suf ∧ (∀ z ∈ pre, z.catchType ≠ 0 ∧ ∃ nm : String, Jvm.Cond.classLink RL z.catchType nm ∈ lw_tbl ∧ (E, nm) ∈ aq_nc) ∧ covers x 4 = true ∧ x.catchType ≠ 0 ∧ Jvm.Cond.classLink RL x.catchType E ∈ lw_tbl ∧ Jvm.Cond.castable E E ∈ lw_tbl ∧ aq_hnd cL_countAvoiding 4 x.handlerPc v := by
  intro E v h
  rcases aq_lk h with ⟨rfl, rfl⟩ | h
  · exact ⟨[], ⟨0, 8, 11, 13⟩, [], rfl, (fun _ hz => nomatch hz), by decide, by decide, wd_1132, wd_1133, Or.inl ⟨3, 1, by decide +kernel, by decide, by decide +kernel, by decide +kernel, by decide +kernel⟩⟩
  · cases h
theorem xh_L_avoidingCycle : ∀ (E : String) (v : Int32), ([("java/lang/IllegalArgumentException", 1), ("java/util/NoSuchElementException", 2)] : List (String × Int32)).lookup E = some v → ∃ (pre : List ExceptionTableEntry) (x : ExceptionTableEntry) (suf : List ExceptionTableEntry), tableOf [(0, 9, 12, 13), (0, 9, 15, 31)] = pre ++ x :: suf ∧ (∀ z ∈ pre, z.catchType ≠ 0 ∧ ∃ nm : String, Jvm.Cond.classLink RL z.catchType nm ∈ lw_tbl ∧ (E, nm) ∈ aq_nc) ∧ covers x 4 = true ∧ x.catchType ≠ 0 ∧ Jvm.Cond.classLink RL x.catchType E ∈ lw_tbl ∧ Jvm.Cond.castable E E ∈ lw_tbl ∧ aq_hnd cL_avoidingCycle 4 x.handlerPc v := by
  intro E v h
  rcases aq_lk h with ⟨rfl, rfl⟩ | h
  · exact ⟨[], ⟨0, 9, 12, 13⟩, [⟨0, 9, 15, 31⟩], rfl, (fun _ hz => nomatch hz), by decide, by decide, wd_1132, wd_1133, Or.inl ⟨3, 1, by decide +kernel, by decide, by decide +kernel, by decide +kernel, by decide +kernel⟩⟩
  rcases aq_lk h with ⟨rfl, rfl⟩ | h
  · exact ⟨[⟨0, 9, 12, 13⟩], ⟨0, 9, 15, 31⟩, [], rfl, (List.forall_mem_cons.mpr ⟨⟨by decide, "java/lang/IllegalArgumentException", wd_1132, (List.mem_of_getElem? (i := 7) rfl)⟩, (fun _ hz => nomatch hz)⟩), by decide, by decide, wd_1136, wd_1137, Or.inl ⟨3, 2, by decide +kernel, by decide, by decide +kernel, by decide +kernel, by decide +kernel⟩⟩
  · cases h
theorem xh_L_newRow : ∀ (E : String) (v : Int32), ([("java/lang/IllegalArgumentException", 1)] : List (String × Int32)).lookup E = some v → ∃ (pre : List ExceptionTableEntry) (x : ExceptionTableEntry) (suf : List ExceptionTableEntry), tableOf [(0, 12, 15, 13)] = pre ++ x :: suf ∧ (∀ z ∈ pre, z.catchType ≠ 0 ∧ ∃ nm : String, Jvm.Cond.classLink RL z.catchType nm ∈ lw_tbl ∧ (E, nm) ∈ aq_nc) ∧ covers x 7 = true ∧ x.catchType ≠ 0 ∧ Jvm.Cond.classLink RL x.catchType E ∈ lw_tbl ∧ Jvm.Cond.castable E E ∈ lw_tbl ∧ aq_hnd cL_newRow 6 x.handlerPc v := by
  intro E v h
  rcases aq_lk h with ⟨rfl, rfl⟩ | h
  · exact ⟨[], ⟨0, 12, 15, 13⟩, [], rfl, (fun _ hz => nomatch hz), by decide, by decide, wd_1132, wd_1133, Or.inr ⟨5, 1, by decide +kernel, by decide, by decide +kernel, by decide +kernel, by decide +kernel⟩⟩
  · cases h
theorem xh_L_fillDensities : ∀ (E : String) (v : Int32), ([("java/lang/IllegalArgumentException", 1), ("java/lang/IllegalStateException", 2)] : List (String × Int32)).lookup E = some v → ∃ (pre : List ExceptionTableEntry) (x : ExceptionTableEntry) (suf : List ExceptionTableEntry), tableOf [(0, 10, 13, 13), (0, 10, 17, 19)] = pre ++ x :: suf ∧ (∀ z ∈ pre, z.catchType ≠ 0 ∧ ∃ nm : String, Jvm.Cond.classLink RL z.catchType nm ∈ lw_tbl ∧ (E, nm) ∈ aq_nc) ∧ covers x 5 = true ∧ x.catchType ≠ 0 ∧ Jvm.Cond.classLink RL x.catchType E ∈ lw_tbl ∧ Jvm.Cond.castable E E ∈ lw_tbl ∧ aq_hnd cL_fillDensities 5 x.handlerPc v := by
  intro E v h
  rcases aq_lk h with ⟨rfl, rfl⟩ | h
  · exact ⟨[], ⟨0, 10, 13, 13⟩, [⟨0, 10, 17, 19⟩], rfl, (fun _ hz => nomatch hz), by decide, by decide, wd_1132, wd_1133, Or.inr ⟨4, 1, by decide +kernel, by decide, by decide +kernel, by decide +kernel, by decide +kernel⟩⟩
  rcases aq_lk h with ⟨rfl, rfl⟩ | h
  · exact ⟨[⟨0, 10, 13, 13⟩], ⟨0, 10, 17, 19⟩, [], rfl, (List.forall_mem_cons.mpr ⟨⟨by decide, "java/lang/IllegalArgumentException", wd_1132, (List.mem_of_getElem? (i := 3) rfl)⟩, (fun _ hz => nomatch hz)⟩), by decide, by decide, wd_1134, wd_1135, Or.inr ⟨4, 2, by decide +kernel, by decide, by decide +kernel, by decide +kernel, by decide +kernel⟩⟩
  · cases h
theorem xh_L_takeRemainder : ∀ (E : String) (v : Int32), ([("java/lang/IllegalArgumentException", 1), ("java/lang/IllegalStateException", 2), ("java/lang/IndexOutOfBoundsException", 3), ("java/lang/ArithmeticException", 4)] : List (String × Int32)).lookup E = some v → ∃ (pre : List ExceptionTableEntry) (x : ExceptionTableEntry) (suf : List ExceptionTableEntry), tableOf [(0, 12, 15, 13), (0, 12, 19, 19), (0, 12, 23, 39), (0, 12, 27, 98)] = pre ++ x :: suf ∧ (∀ z ∈ pre, z.catchType ≠ 0 ∧ ∃ nm : String, Jvm.Cond.classLink RL z.catchType nm ∈ lw_tbl ∧ (E, nm) ∈ aq_nc) ∧ covers x 7 = true ∧ x.catchType ≠ 0 ∧ Jvm.Cond.classLink RL x.catchType E ∈ lw_tbl ∧ Jvm.Cond.castable E E ∈ lw_tbl ∧ aq_hnd cL_takeRemainder 6 x.handlerPc v := by
  intro E v h
  rcases aq_lk h with ⟨rfl, rfl⟩ | h
  · exact ⟨[], ⟨0, 12, 15, 13⟩, [⟨0, 12, 19, 19⟩, ⟨0, 12, 23, 39⟩, ⟨0, 12, 27, 98⟩], rfl, (fun _ hz => nomatch hz), by decide, by decide, wd_1132, wd_1133, Or.inr ⟨5, 1, by decide +kernel, by decide, by decide +kernel, by decide +kernel, by decide +kernel⟩⟩
  rcases aq_lk h with ⟨rfl, rfl⟩ | h
  · exact ⟨[⟨0, 12, 15, 13⟩], ⟨0, 12, 19, 19⟩, [⟨0, 12, 23, 39⟩, ⟨0, 12, 27, 98⟩], rfl, (List.forall_mem_cons.mpr ⟨⟨by decide, "java/lang/IllegalArgumentException", wd_1132, (List.mem_of_getElem? (i := 3) rfl)⟩, (fun _ hz => nomatch hz)⟩), by decide, by decide, wd_1134, wd_1135, Or.inr ⟨5, 2, by decide +kernel, by decide, by decide +kernel, by decide +kernel, by decide +kernel⟩⟩
  rcases aq_lk h with ⟨rfl, rfl⟩ | h
  · exact ⟨[⟨0, 12, 15, 13⟩, ⟨0, 12, 19, 19⟩], ⟨0, 12, 23, 39⟩, [⟨0, 12, 27, 98⟩], rfl, (List.forall_mem_cons.mpr ⟨⟨by decide, "java/lang/IllegalArgumentException", wd_1132, (List.mem_of_getElem? (i := 4) rfl)⟩, (List.forall_mem_cons.mpr ⟨⟨by decide, "java/lang/IllegalStateException", wd_1134, (List.mem_of_getElem? (i := 5) rfl)⟩, (fun _ hz => nomatch hz)⟩)⟩), by decide, by decide, wd_1138, wd_1139, Or.inr ⟨5, 3, by decide +kernel, by decide, by decide +kernel, by decide +kernel, by decide +kernel⟩⟩
  rcases aq_lk h with ⟨rfl, rfl⟩ | h
  · exact ⟨[⟨0, 12, 15, 13⟩, ⟨0, 12, 19, 19⟩, ⟨0, 12, 23, 39⟩], ⟨0, 12, 27, 98⟩, [], rfl, (List.forall_mem_cons.mpr ⟨⟨by decide, "java/lang/IllegalArgumentException", wd_1132, (List.mem_of_getElem? (i := 0) rfl)⟩, (List.forall_mem_cons.mpr ⟨⟨by decide, "java/lang/IllegalStateException", wd_1134, (List.mem_of_getElem? (i := 1) rfl)⟩, (List.forall_mem_cons.mpr ⟨⟨by decide, "java/lang/IndexOutOfBoundsException", wd_1138, (List.mem_of_getElem? (i := 2) rfl)⟩, (fun _ hz => nomatch hz)⟩)⟩)⟩), by decide, by decide, wd_1140, wd_1141, Or.inr ⟨5, 4, by decide +kernel, by decide, by decide +kernel, by decide +kernel, by decide +kernel⟩⟩
  · cases h
theorem xh_L_elementBits : ∀ (E : String) (v : Int32), ([("java/lang/IllegalArgumentException", 1), ("java/lang/IllegalStateException", 2), ("java/lang/IndexOutOfBoundsException", 3)] : List (String × Int32)).lookup E = some v → ∃ (pre : List ExceptionTableEntry) (x : ExceptionTableEntry) (suf : List ExceptionTableEntry), tableOf [(0, 9, 12, 13), (0, 9, 16, 19), (0, 9, 20, 39)] = pre ++ x :: suf ∧ (∀ z ∈ pre, z.catchType ≠ 0 ∧ ∃ nm : String, Jvm.Cond.classLink RL z.catchType nm ∈ lw_tbl ∧ (E, nm) ∈ aq_nc) ∧ covers x 5 = true ∧ x.catchType ≠ 0 ∧ Jvm.Cond.classLink RL x.catchType E ∈ lw_tbl ∧ Jvm.Cond.castable E E ∈ lw_tbl ∧ aq_hnd cL_elementBits 5 x.handlerPc v := by
  intro E v h
  rcases aq_lk h with ⟨rfl, rfl⟩ | h
  · exact ⟨[], ⟨0, 9, 12, 13⟩, [⟨0, 9, 16, 19⟩, ⟨0, 9, 20, 39⟩], rfl, (fun _ hz => nomatch hz), by decide, by decide, wd_1132, wd_1133, Or.inr ⟨4, 1, by decide +kernel, by decide, by decide +kernel, by decide +kernel, by decide +kernel⟩⟩
  rcases aq_lk h with ⟨rfl, rfl⟩ | h
  · exact ⟨[⟨0, 9, 12, 13⟩], ⟨0, 9, 16, 19⟩, [⟨0, 9, 20, 39⟩], rfl, (List.forall_mem_cons.mpr ⟨⟨by decide, "java/lang/IllegalArgumentException", wd_1132, (List.mem_of_getElem? (i := 3) rfl)⟩, (fun _ hz => nomatch hz)⟩), by decide, by decide, wd_1134, wd_1135, Or.inr ⟨4, 2, by decide +kernel, by decide, by decide +kernel, by decide +kernel, by decide +kernel⟩⟩
  rcases aq_lk h with ⟨rfl, rfl⟩ | h
  · exact ⟨[⟨0, 9, 12, 13⟩, ⟨0, 9, 16, 19⟩], ⟨0, 9, 20, 39⟩, [], rfl, (List.forall_mem_cons.mpr ⟨⟨by decide, "java/lang/IllegalArgumentException", wd_1132, (List.mem_of_getElem? (i := 4) rfl)⟩, (List.forall_mem_cons.mpr ⟨⟨by decide, "java/lang/IllegalStateException", wd_1134, (List.mem_of_getElem? (i := 5) rfl)⟩, (fun _ hz => nomatch hz)⟩)⟩), by decide, by decide, wd_1138, wd_1139, Or.inr ⟨4, 3, by decide +kernel, by decide, by decide +kernel, by decide +kernel, by decide +kernel⟩⟩
  · cases h
theorem xh_L_restoreSnapshot : ∀ (E : String) (v : Int32), ([("java/lang/IllegalStateException", 1)] : List (String × Int32)).lookup E = some v → ∃ (pre : List ExceptionTableEntry) (x : ExceptionTableEntry) (suf : List ExceptionTableEntry), tableOf [(0, 8, 11, 19)] = pre ++ x :: suf ∧ (∀ z ∈ pre, z.catchType ≠ 0 ∧ ∃ nm : String, Jvm.Cond.classLink RL z.catchType nm ∈ lw_tbl ∧ (E, nm) ∈ aq_nc) ∧ covers x 3 = true ∧ x.catchType ≠ 0 ∧ Jvm.Cond.classLink RL x.catchType E ∈ lw_tbl ∧ Jvm.Cond.castable E E ∈ lw_tbl ∧ aq_hnd cL_restoreSnapshot 3 x.handlerPc v := by
  intro E v h
  rcases aq_lk h with ⟨rfl, rfl⟩ | h
  · exact ⟨[], ⟨0, 8, 11, 19⟩, [], rfl, (fun _ hz => nomatch hz), by decide, by decide, wd_1134, wd_1135, Or.inl ⟨2, 1, by decide +kernel, by decide, by decide +kernel, by decide +kernel, by decide +kernel⟩⟩
  · cases h
end
