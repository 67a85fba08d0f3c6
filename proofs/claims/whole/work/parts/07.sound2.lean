/-! ===== instruction by instruction: the stack, constants, branches ===== -/
section
variable {T : Nat → Nat → Option aq_Op} {Nl : Nat → Nat} {Ms : Nat → aq_M} {nc : List (String × String)} {strs : List (Nat × String)} {cc : ByteArray} {nL : Nat} {own mn : String} {ret : Option FieldType} {hh : List (Nat × Nat × Nat × Nat)} {pc n : Nat}
theorem so_iconst {k : Int} {v : Int32} (hd : decode cc pc = .ok (.iconst k, 1)) (hv : Int32.ofInt k = v) : aq_SOp T Nl Ms nc strs cc nL own mn ret hh pc (aq_push (.int v) (pc + 1)) :=
  so_push (fun {p l e R s m args below meth c H locs cells slots Q ls rest} hx hb hown hts kk => lv_iconst hx hb hd hv kk) (fun _ _ => rfl)
theorem so_bipush {k : Int} {v : Int32} (hd : decode cc pc = .ok (.bipush k, 2)) (hv : (Int8.ofInt k).toInt32 = v) : aq_SOp T Nl Ms nc strs cc nL own mn ret hh pc (aq_push (.int v) (pc + 2)) :=
  so_push (fun {p l e R s m args below meth c H locs cells slots Q ls rest} hx hb hown hts kk => lv_bipush hx hb hd hv kk) (fun _ _ => rfl)
theorem so_sipush {k : Int} {v : Int32} (hd : decode cc pc = .ok (.sipush k, 3)) (hv : (Int16.ofInt k).toInt32 = v) : aq_SOp T Nl Ms nc strs cc nL own mn ret hh pc (aq_push (.int v) (pc + 3)) :=
  so_push (fun {p l e R s m args below meth c H locs cells slots Q ls rest} hx hb hown hts kk => lv_sipush hx hb hd hv kk) (fun _ _ => rfl)
theorem so_lconst {k : Fin 2} {v : Int64} (hd : decode cc pc = .ok (.lconst k, 1)) (hv : Int64.ofNat (k : Nat) = v) : aq_SOp T Nl Ms nc strs cc nL own mn ret hh pc (aq_push (.long v) (pc + 1)) :=
  so_push (fun {p l e R s m args below meth c H locs cells slots Q ls rest} hx hb hown hts kk => lv_lconst hx hb hd hv kk) (fun _ _ => rfl)
theorem so_dconst0  (hd : decode cc pc = .ok (.dconst 0, 1)) : aq_SOp T Nl Ms nc strs cc nL own mn ret hh pc (aq_push (.double FP.dconst0) (pc + 1)) :=
  so_push (fun {p l e R s m args below meth c H locs cells slots Q ls rest} hx hb hown hts kk => lv_dconst0 hx hb hd kk) (fun _ _ => rfl)
theorem so_dconst1  (hd : decode cc pc = .ok (.dconst 1, 1)) : aq_SOp T Nl Ms nc strs cc nL own mn ret hh pc (aq_push (.double FP.dconst1) (pc + 1)) :=
  so_push (fun {p l e R s m args below meth c H locs cells slots Q ls rest} hx hb hown hts kk => lv_dconst1 hx hb hd kk) (fun _ _ => rfl)
theorem so_null  (hd : decode cc pc = .ok (.aconst_null, 1)) : aq_SOp T Nl Ms nc strs cc nL own mn ret hh pc (aq_push .null (pc + 1)) :=
  so_push (fun {p l e R s m args below meth c H locs cells slots Q ls rest} hx hb hown hts kk => lv_null hx hb hd kk) (fun _ _ => rfl)
theorem so_ldc {k : Nat} {v : Int32} (hd : decode cc pc = .ok (.ldc k, 2)) (hw : Jvm.Cond.constant own k v ∈ lw_tbl) : aq_SOp T Nl Ms nc strs cc nL own mn ret hh pc (aq_push (.int v) (pc + 2)) :=
  so_push (fun {p l e R s m args below meth c H locs cells slots Q ls rest} hx hb hown hts kk => lv_ldc hx hb hown (hts _ (List.mem_filter.mpr ⟨hw, rfl⟩)) hd kk) (fun _ _ => rfl)
theorem so_ldc2 {k : Nat} {v : Int64} (hd : decode cc pc = .ok (.ldc2_w k, 3)) (hw : Jvm.Cond.constantLong own k v ∈ lw_tbl) : aq_SOp T Nl Ms nc strs cc nL own mn ret hh pc (aq_push (.long v) (pc + 3)) :=
  so_push (fun {p l e R s m args below meth c H locs cells slots Q ls rest} hx hb hown hts kk => lv_ldc2 hx hb hown (hts _ (List.mem_filter.mpr ⟨hw, rfl⟩)) hd kk) (fun _ _ => rfl)
theorem so_ldc2d {k : Nat} {v : UInt64} (hd : decode cc pc = .ok (.ldc2_w k, 3)) (hw : Jvm.Cond.constantDouble own k v ∈ lw_tbl) : aq_SOp T Nl Ms nc strs cc nL own mn ret hh pc (aq_push (.double v) (pc + 3)) :=
  so_push (fun {p l e R s m args below meth c H locs cells slots Q ls rest} hx hb hown hts kk => lv_ldc2d hx hb hown (hts _ (List.mem_filter.mpr ⟨hw, rfl⟩)) hd kk) (fun _ _ => rfl)
theorem so_iadd  (hd : decode cc pc = .ok (.iadd, 1)) : aq_SOp T Nl Ms nc strs cc nL own mn ret hh pc (aq_ar af_iadd (pc + 1)) :=
  so_ar fun {p l e R s m args below meth c H locs cells slots Q ls st r b β} hx hb hf kk => by
    unfold af_iadd at hf
    split at hf <;> first | cases hf; done | (cases hf; exact lv_iadd hx hb hd kk)
theorem so_isub  (hd : decode cc pc = .ok (.isub, 1)) : aq_SOp T Nl Ms nc strs cc nL own mn ret hh pc (aq_ar af_isub (pc + 1)) :=
  so_ar fun {p l e R s m args below meth c H locs cells slots Q ls st r b β} hx hb hf kk => by
    unfold af_isub at hf
    split at hf <;> first | cases hf; done | (cases hf; exact lv_isub hx hb hd kk)
theorem so_imul  (hd : decode cc pc = .ok (.imul, 1)) : aq_SOp T Nl Ms nc strs cc nL own mn ret hh pc (aq_ar af_imul (pc + 1)) :=
  so_ar fun {p l e R s m args below meth c H locs cells slots Q ls st r b β} hx hb hf kk => by
    unfold af_imul at hf
    split at hf <;> first | cases hf; done | (cases hf; exact lv_imul hx hb hd kk)
theorem so_iand  (hd : decode cc pc = .ok (.iand, 1)) : aq_SOp T Nl Ms nc strs cc nL own mn ret hh pc (aq_ar af_iand (pc + 1)) :=
  so_ar fun {p l e R s m args below meth c H locs cells slots Q ls st r b β} hx hb hf kk => by
    unfold af_iand at hf
    split at hf <;> first | cases hf; done | (cases hf; exact lv_iand hx hb hd kk)
theorem so_ior  (hd : decode cc pc = .ok (.ior, 1)) : aq_SOp T Nl Ms nc strs cc nL own mn ret hh pc (aq_ar af_ior (pc + 1)) :=
  so_ar fun {p l e R s m args below meth c H locs cells slots Q ls st r b β} hx hb hf kk => by
    unfold af_ior at hf
    split at hf <;> first | cases hf; done | (cases hf; exact lv_ior hx hb hd kk)
theorem so_ixor  (hd : decode cc pc = .ok (.ixor, 1)) : aq_SOp T Nl Ms nc strs cc nL own mn ret hh pc (aq_ar af_ixor (pc + 1)) :=
  so_ar fun {p l e R s m args below meth c H locs cells slots Q ls st r b β} hx hb hf kk => by
    unfold af_ixor at hf
    split at hf <;> first | cases hf; done | (cases hf; exact lv_ixor hx hb hd kk)
theorem so_ladd  (hd : decode cc pc = .ok (.ladd, 1)) : aq_SOp T Nl Ms nc strs cc nL own mn ret hh pc (aq_ar af_ladd (pc + 1)) :=
  so_ar fun {p l e R s m args below meth c H locs cells slots Q ls st r b β} hx hb hf kk => by
    unfold af_ladd at hf
    split at hf <;> first | cases hf; done | (cases hf; exact lv_ladd hx hb hd kk)
theorem so_lsub  (hd : decode cc pc = .ok (.lsub, 1)) : aq_SOp T Nl Ms nc strs cc nL own mn ret hh pc (aq_ar af_lsub (pc + 1)) :=
  so_ar fun {p l e R s m args below meth c H locs cells slots Q ls st r b β} hx hb hf kk => by
    unfold af_lsub at hf
    split at hf <;> first | cases hf; done | (cases hf; exact lv_lsub hx hb hd kk)
theorem so_lmul  (hd : decode cc pc = .ok (.lmul, 1)) : aq_SOp T Nl Ms nc strs cc nL own mn ret hh pc (aq_ar af_lmul (pc + 1)) :=
  so_ar fun {p l e R s m args below meth c H locs cells slots Q ls st r b β} hx hb hf kk => by
    unfold af_lmul at hf
    split at hf <;> first | cases hf; done | (cases hf; exact lv_lmul hx hb hd kk)
theorem so_land  (hd : decode cc pc = .ok (.land, 1)) : aq_SOp T Nl Ms nc strs cc nL own mn ret hh pc (aq_ar af_land (pc + 1)) :=
  so_ar fun {p l e R s m args below meth c H locs cells slots Q ls st r b β} hx hb hf kk => by
    unfold af_land at hf
    split at hf <;> first | cases hf; done | (cases hf; exact lv_land hx hb hd kk)
theorem so_lor  (hd : decode cc pc = .ok (.lor, 1)) : aq_SOp T Nl Ms nc strs cc nL own mn ret hh pc (aq_ar af_lor (pc + 1)) :=
  so_ar fun {p l e R s m args below meth c H locs cells slots Q ls st r b β} hx hb hf kk => by
    unfold af_lor at hf
    split at hf <;> first | cases hf; done | (cases hf; exact lv_lor hx hb hd kk)
theorem so_lxor  (hd : decode cc pc = .ok (.lxor, 1)) : aq_SOp T Nl Ms nc strs cc nL own mn ret hh pc (aq_ar af_lxor (pc + 1)) :=
  so_ar fun {p l e R s m args below meth c H locs cells slots Q ls st r b β} hx hb hf kk => by
    unfold af_lxor at hf
    split at hf <;> first | cases hf; done | (cases hf; exact lv_lxor hx hb hd kk)
theorem so_ineg  (hd : decode cc pc = .ok (.ineg, 1)) : aq_SOp T Nl Ms nc strs cc nL own mn ret hh pc (aq_ar af_ineg (pc + 1)) :=
  so_ar fun {p l e R s m args below meth c H locs cells slots Q ls st r b β} hx hb hf kk => by
    unfold af_ineg at hf
    split at hf <;> first | cases hf; done | (cases hf; exact lv_ineg hx hb hd kk)
theorem so_i2d  (hd : decode cc pc = .ok (.i2d, 1)) : aq_SOp T Nl Ms nc strs cc nL own mn ret hh pc (aq_ar af_i2d (pc + 1)) :=
  so_ar fun {p l e R s m args below meth c H locs cells slots Q ls st r b β} hx hb hf kk => by
    unfold af_i2d at hf
    split at hf <;> first | cases hf; done | (cases hf; exact lv_i2d hx hb hd kk)
theorem so_i2f  (hd : decode cc pc = .ok (.i2f, 1)) : aq_SOp T Nl Ms nc strs cc nL own mn ret hh pc (aq_ar af_i2f (pc + 1)) :=
  so_ar fun {p l e R s m args below meth c H locs cells slots Q ls st r b β} hx hb hf kk => by
    unfold af_i2f at hf
    split at hf <;> first | cases hf; done | (cases hf; exact lv_i2f hx hb hd kk)
theorem so_l2d  (hd : decode cc pc = .ok (.l2d, 1)) : aq_SOp T Nl Ms nc strs cc nL own mn ret hh pc (aq_ar af_l2d (pc + 1)) :=
  so_ar fun {p l e R s m args below meth c H locs cells slots Q ls st r b β} hx hb hf kk => by
    unfold af_l2d at hf
    split at hf <;> first | cases hf; done | (cases hf; exact lv_l2d hx hb hd kk)
theorem so_d2i  (hd : decode cc pc = .ok (.d2i, 1)) : aq_SOp T Nl Ms nc strs cc nL own mn ret hh pc (aq_ar af_d2i (pc + 1)) :=
  so_ar fun {p l e R s m args below meth c H locs cells slots Q ls st r b β} hx hb hf kk => by
    unfold af_d2i at hf
    split at hf <;> first | cases hf; done | (cases hf; exact lv_d2i hx hb hd kk)
theorem so_d2l  (hd : decode cc pc = .ok (.d2l, 1)) : aq_SOp T Nl Ms nc strs cc nL own mn ret hh pc (aq_ar af_d2l (pc + 1)) :=
  so_ar fun {p l e R s m args below meth c H locs cells slots Q ls st r b β} hx hb hf kk => by
    unfold af_d2l at hf
    split at hf <;> first | cases hf; done | (cases hf; exact lv_d2l hx hb hd kk)
theorem so_i2l  (hd : decode cc pc = .ok (.i2l, 1)) : aq_SOp T Nl Ms nc strs cc nL own mn ret hh pc (aq_ar af_i2l (pc + 1)) :=
  so_ar fun {p l e R s m args below meth c H locs cells slots Q ls st r b β} hx hb hf kk => by
    unfold af_i2l at hf
    split at hf <;> first | cases hf; done | (cases hf; exact lv_i2l hx hb hd rfl kk)
theorem so_l2i  (hd : decode cc pc = .ok (.l2i, 1)) : aq_SOp T Nl Ms nc strs cc nL own mn ret hh pc (aq_ar af_l2i (pc + 1)) :=
  so_ar fun {p l e R s m args below meth c H locs cells slots Q ls st r b β} hx hb hf kk => by
    unfold af_l2i at hf
    split at hf <;> first | cases hf; done | (cases hf; exact lv_l2i hx hb hd rfl kk)
theorem so_lshl  (hd : decode cc pc = .ok (.lshl, 1)) : aq_SOp T Nl Ms nc strs cc nL own mn ret hh pc (aq_ar af_lshl (pc + 1)) :=
  so_ar fun {p l e R s m args below meth c H locs cells slots Q ls st r b β} hx hb hf kk => by
    unfold af_lshl at hf
    split at hf <;> first | cases hf; done | (cases hf; exact lv_lshl hx hb hd rfl kk)
theorem so_lushr  (hd : decode cc pc = .ok (.lushr, 1)) : aq_SOp T Nl Ms nc strs cc nL own mn ret hh pc (aq_ar af_lushr (pc + 1)) :=
  so_ar fun {p l e R s m args below meth c H locs cells slots Q ls st r b β} hx hb hf kk => by
    unfold af_lushr at hf
    split at hf <;> first | cases hf; done | (cases hf; exact lv_lushr hx hb hd rfl kk)
theorem so_lcmp  (hd : decode cc pc = .ok (.lcmp, 1)) : aq_SOp T Nl Ms nc strs cc nL own mn ret hh pc (aq_ar af_lcmp (pc + 1)) :=
  so_ar fun {p l e R s m args below meth c H locs cells slots Q ls st r b β} hx hb hf kk => by
    unfold af_lcmp at hf
    split at hf <;> first | cases hf; done | (cases hf; exact W.lcmp hx hb hd kk)
theorem so_fcmp {op : CmpOp} (hd : decode cc pc = .ok (.fcmp op, 1)) : aq_SOp T Nl Ms nc strs cc nL own mn ret hh pc (aq_ar (af_fcmp op) (pc + 1)) :=
  so_ar fun {p l e R s m args below meth c H locs cells slots Q ls st r b β} hx hb hf kk => by
    unfold af_fcmp at hf
    split at hf <;> first | cases hf; done | (cases hf; exact lv_fcmp hx hb hd kk)
theorem so_dcmp {op : CmpOp} (hd : decode cc pc = .ok (.dcmp op, 1)) : aq_SOp T Nl Ms nc strs cc nL own mn ret hh pc (aq_ar (af_dcmp op) (pc + 1)) :=
  so_ar fun {p l e R s m args below meth c H locs cells slots Q ls st r b β} hx hb hf kk => by
    unfold af_dcmp at hf
    split at hf <;> first | cases hf; done | (cases hf; exact lv_dcmp hx hb hd kk)
theorem so_dup (hd : decode cc pc = .ok (.dup, 1)) : aq_SOp T Nl Ms nc strs cc nL own mn ret hh pc (aq_ar af_dup (pc + 1)) :=
  so_ar fun {p l e R s m args below meth c H locs cells slots Q ls st r b β} hx hb hf kk => by
    unfold af_dup at hf
    split at hf
    · rename_i v r0
      cases hc : Nat.beq v.category 1 with
      | true =>
        rw [hc] at hf
        cases hf
        exact lv_dup hx hb hd ((aq_cV_cat b β v).trans (Nat.eq_of_beq_eq_true hc)) kk
      | false => rw [hc] at hf; cases hf
    · cases hf
theorem so_dup2 (hd : decode cc pc = .ok (.dup2, 1)) : aq_SOp T Nl Ms nc strs cc nL own mn ret hh pc (aq_ar af_dup2 (pc + 1)) :=
  so_ar fun {p l e R s m args below meth c H locs cells slots Q ls st r b β} hx hb hf kk => by
    unfold af_dup2 at hf
    split at hf
    · rename_i v r0
      cases hc : Nat.beq v.category 2 with
      | true =>
        rw [hc] at hf
        cases hf
        exact lv_dup2_2 hx hb hd ((aq_cV_cat b β v).trans (Nat.eq_of_beq_eq_true hc)) kk
      | false => rw [hc] at hf; cases hf
    · cases hf
theorem so_pop (hd : decode cc pc = .ok (.pop, 1)) : aq_SOp T Nl Ms nc strs cc nL own mn ret hh pc (aq_ar af_pop (pc + 1)) :=
  so_ar fun {p l e R s m args below meth c H locs cells slots Q ls st r b β} hx hb hf kk => by
    unfold af_pop at hf
    split at hf
    · rename_i v r0
      cases hc : Nat.beq v.category 1 with
      | true =>
        rw [hc] at hf
        cases hf
        exact lv_pop hx hb hd ((aq_cV_cat b β v).trans (Nat.eq_of_beq_eq_true hc)) kk
      | false => rw [hc] at hf; cases hf
    · cases hf
theorem so_dup11 (hd : decode cc pc = .ok (.dup2, 1)) : aq_SOp T Nl Ms nc strs cc nL own mn ret hh pc (aq_ar af_dup11 (pc + 1)) :=
  so_ar fun {p l e R s m args below meth c H locs cells slots Q ls st r b β} hx hb hf kk => by
    unfold af_dup11 at hf
    split at hf
    · rename_i v w r0
      cases hc : Nat.beq v.category 1 with
      | true =>
        cases hc2 : Nat.beq w.category 1 with
        | true =>
          rw [hc, hc2] at hf
          cases hf
          exact lv_dup2_11 hx hb hd ((aq_cV_cat b β v).trans (Nat.eq_of_beq_eq_true hc)) ((aq_cV_cat b β w).trans (Nat.eq_of_beq_eq_true hc2)) kk
        | false => rw [hc, hc2] at hf; cases hf
      | false => rw [hc] at hf; cases hf
    · cases hf
theorem so_idiv (hd : decode cc pc = .ok (.idiv, 1)) : aq_SOp T Nl Ms nc strs cc nL own mn ret hh pc (aq_arc ac_idiv (pc + 1)) :=
  so_arc fun {p l e R s m args below meth c H locs cells slots Q ls st r b β a} hx hb hf ha kk => by
    unfold ac_idiv at hf
    split at hf <;> first | cases hf; done | (cases hf; exact lv_idiv hx hb hd ha kk)
theorem so_irem (hd : decode cc pc = .ok (.irem, 1)) : aq_SOp T Nl Ms nc strs cc nL own mn ret hh pc (aq_arc ac_irem (pc + 1)) :=
  so_arc fun {p l e R s m args below meth c H locs cells slots Q ls st r b β a} hx hb hf ha kk => by
    unfold ac_irem at hf
    split at hf <;> first | cases hf; done | (cases hf; exact lv_irem hx hb hd ha kk)
theorem so_ldiv (hd : decode cc pc = .ok (.ldiv, 1)) : aq_SOp T Nl Ms nc strs cc nL own mn ret hh pc (aq_arc ac_ldiv (pc + 1)) :=
  so_arc fun {p l e R s m args below meth c H locs cells slots Q ls st r b β a} hx hb hf ha kk => by
    unfold ac_ldiv at hf
    split at hf <;> first | cases hf; done | (cases hf; exact lv_ldiv hx hb hd ha kk)
theorem so_lrem (hd : decode cc pc = .ok (.lrem, 1)) : aq_SOp T Nl Ms nc strs cc nL own mn ret hh pc (aq_arc ac_lrem (pc + 1)) :=
  so_arc fun {p l e R s m args below meth c H locs cells slots Q ls st r b β a} hx hb hf ha kk => by
    unfold ac_lrem at hf
    split at hf <;> first | cases hf; done | (cases hf; exact lv_lrem hx hb hd ha kk)
theorem so_dadd (hd : decode cc pc = .ok (.dadd, 1)) : aq_SOp T Nl Ms nc strs cc nL own mn ret hh pc (aq_arc ac_dadd (pc + 1)) :=
  so_arc fun {p l e R s m args below meth c H locs cells slots Q ls st r b β a} hx hb hf ha kk => by
    unfold ac_dadd at hf
    split at hf <;> first | cases hf; done | (cases hf; exact lv_dadd hx hb hd ha kk)
theorem so_dsub (hd : decode cc pc = .ok (.dsub, 1)) : aq_SOp T Nl Ms nc strs cc nL own mn ret hh pc (aq_arc ac_dsub (pc + 1)) :=
  so_arc fun {p l e R s m args below meth c H locs cells slots Q ls st r b β a} hx hb hf ha kk => by
    unfold ac_dsub at hf
    split at hf <;> first | cases hf; done | (cases hf; exact lv_dsub hx hb hd ha kk)
theorem so_dmul (hd : decode cc pc = .ok (.dmul, 1)) : aq_SOp T Nl Ms nc strs cc nL own mn ret hh pc (aq_arc ac_dmul (pc + 1)) :=
  so_arc fun {p l e R s m args below meth c H locs cells slots Q ls st r b β a} hx hb hf ha kk => by
    unfold ac_dmul at hf
    split at hf <;> first | cases hf; done | (cases hf; exact lv_dmul hx hb hd ha kk)
theorem so_ddiv (hd : decode cc pc = .ok (.ddiv, 1)) : aq_SOp T Nl Ms nc strs cc nL own mn ret hh pc (aq_arc ac_ddiv (pc + 1)) :=
  so_arc fun {p l e R s m args below meth c H locs cells slots Q ls st r b β a} hx hb hf ha kk => by
    unfold ac_ddiv at hf
    split at hf <;> first | cases hf; done | (cases hf; exact lv_ddiv hx hb hd ha kk)
theorem so_drem (hd : decode cc pc = .ok (.drem, 1)) : aq_SOp T Nl Ms nc strs cc nL own mn ret hh pc (aq_arc ac_drem (pc + 1)) :=
  so_arc fun {p l e R s m args below meth c H locs cells slots Q ls st r b β a} hx hb hf ha kk => by
    unfold ac_drem at hf
    split at hf <;> first | cases hf; done | (cases hf; exact lv_drem hx hb hd ha kk)
theorem so_fdiv (hd : decode cc pc = .ok (.fdiv, 1)) : aq_SOp T Nl Ms nc strs cc nL own mn ret hh pc (aq_arc ac_fdiv (pc + 1)) :=
  so_arc fun {p l e R s m args below meth c H locs cells slots Q ls st r b β a} hx hb hf ha kk => by
    unfold ac_fdiv at hf
    split at hf <;> first | cases hf; done | (cases hf; exact lv_fdiv hx hb hd ha kk)
theorem so_f2d (hd : decode cc pc = .ok (.f2d, 1)) : aq_SOp T Nl Ms nc strs cc nL own mn ret hh pc (aq_arc ac_f2d (pc + 1)) :=
  so_arc fun {p l e R s m args below meth c H locs cells slots Q ls st r b β a} hx hb hf ha kk => by
    unfold ac_f2d at hf
    split at hf <;> first | cases hf; done | (cases hf; exact lv_f2d hx hb hd ha kk)
theorem so_d2f (hd : decode cc pc = .ok (.d2f, 1)) : aq_SOp T Nl Ms nc strs cc nL own mn ret hh pc (aq_arc ac_d2f (pc + 1)) :=
  so_arc fun {p l e R s m args below meth c H locs cells slots Q ls st r b β a} hx hb hf ha kk => by
    unfold ac_d2f at hf
    split at hf <;> first | cases hf; done | (cases hf; exact lv_d2f hx hb hd ha kk)
theorem so_ifCond_eq {off : Int} {tgt : Nat} (hd : decode cc pc = .ok (.ifCond .eq off, 3)) (ht : (pc : Int) + off = (tgt : Int)) : aq_SOp T Nl Ms nc strs cc nL own mn ret hh pc (aq_if ai_eq0 tgt (pc + 3)) :=
  so_if fun {p l e R s m args below meth c H locs cells slots Q ls st r b β a} hx hb hf kt kf => by
    unfold ai_eq0 at hf
    split at hf
    · cases hf
      first | exact lv_if_eq hx hb hd ht kt kf | exact lv_if_eq hx hb hd ht kt (fun q => kf (fun z => z q)) | exact lv_if_eq hx hb hd ht kt (fun q => kf (fun z => absurd z q))
    · cases hf
theorem so_if_icmp_eq {off : Int} {tgt : Nat} (hd : decode cc pc = .ok (.if_icmp .eq off, 3)) (ht : (pc : Int) + off = (tgt : Int)) : aq_SOp T Nl Ms nc strs cc nL own mn ret hh pc (aq_if ai_eq tgt (pc + 3)) :=
  so_if fun {p l e R s m args below meth c H locs cells slots Q ls st r b β a} hx hb hf kt kf => by
    unfold ai_eq at hf
    split at hf
    · cases hf
      first | exact lv_icmp_eq hx hb hd ht kt kf | exact lv_icmp_eq hx hb hd ht kt (fun q => kf (fun z => z q)) | exact lv_icmp_eq hx hb hd ht kt (fun q => kf (fun z => absurd z q))
    · cases hf
theorem so_ifCond_ne {off : Int} {tgt : Nat} (hd : decode cc pc = .ok (.ifCond .ne off, 3)) (ht : (pc : Int) + off = (tgt : Int)) : aq_SOp T Nl Ms nc strs cc nL own mn ret hh pc (aq_if ai_ne0 tgt (pc + 3)) :=
  so_if fun {p l e R s m args below meth c H locs cells slots Q ls st r b β a} hx hb hf kt kf => by
    unfold ai_ne0 at hf
    split at hf
    · cases hf
      first | exact lv_if_ne hx hb hd ht kt kf | exact lv_if_ne hx hb hd ht kt (fun q => kf (fun z => z q)) | exact lv_if_ne hx hb hd ht kt (fun q => kf (fun z => absurd z q))
    · cases hf
theorem so_if_icmp_ne {off : Int} {tgt : Nat} (hd : decode cc pc = .ok (.if_icmp .ne off, 3)) (ht : (pc : Int) + off = (tgt : Int)) : aq_SOp T Nl Ms nc strs cc nL own mn ret hh pc (aq_if ai_ne tgt (pc + 3)) :=
  so_if fun {p l e R s m args below meth c H locs cells slots Q ls st r b β a} hx hb hf kt kf => by
    unfold ai_ne at hf
    split at hf
    · cases hf
      first | exact lv_icmp_ne hx hb hd ht kt kf | exact lv_icmp_ne hx hb hd ht kt (fun q => kf (fun z => z q)) | exact lv_icmp_ne hx hb hd ht kt (fun q => kf (fun z => absurd z q))
    · cases hf
theorem so_ifCond_lt {off : Int} {tgt : Nat} (hd : decode cc pc = .ok (.ifCond .lt off, 3)) (ht : (pc : Int) + off = (tgt : Int)) : aq_SOp T Nl Ms nc strs cc nL own mn ret hh pc (aq_if ai_lt0 tgt (pc + 3)) :=
  so_if fun {p l e R s m args below meth c H locs cells slots Q ls st r b β a} hx hb hf kt kf => by
    unfold ai_lt0 at hf
    split at hf
    · cases hf
      first | exact lv_if_lt hx hb hd ht kt kf | exact lv_if_lt hx hb hd ht kt (fun q => kf (fun z => z q)) | exact lv_if_lt hx hb hd ht kt (fun q => kf (fun z => absurd z q))
    · cases hf
theorem so_if_icmp_lt {off : Int} {tgt : Nat} (hd : decode cc pc = .ok (.if_icmp .lt off, 3)) (ht : (pc : Int) + off = (tgt : Int)) : aq_SOp T Nl Ms nc strs cc nL own mn ret hh pc (aq_if ai_lt tgt (pc + 3)) :=
  so_if fun {p l e R s m args below meth c H locs cells slots Q ls st r b β a} hx hb hf kt kf => by
    unfold ai_lt at hf
    split at hf
    · cases hf
      first | exact lv_icmp_lt hx hb hd ht kt kf | exact lv_icmp_lt hx hb hd ht kt (fun q => kf (fun z => z q)) | exact lv_icmp_lt hx hb hd ht kt (fun q => kf (fun z => absurd z q))
    · cases hf
theorem so_ifCond_ge {off : Int} {tgt : Nat} (hd : decode cc pc = .ok (.ifCond .ge off, 3)) (ht : (pc : Int) + off = (tgt : Int)) : aq_SOp T Nl Ms nc strs cc nL own mn ret hh pc (aq_if ai_ge0 tgt (pc + 3)) :=
  so_if fun {p l e R s m args below meth c H locs cells slots Q ls st r b β a} hx hb hf kt kf => by
    unfold ai_ge0 at hf
    split at hf
    · cases hf
      first | exact lv_if_ge hx hb hd ht kt kf | exact lv_if_ge hx hb hd ht kt (fun q => kf (fun z => z q)) | exact lv_if_ge hx hb hd ht kt (fun q => kf (fun z => absurd z q))
    · cases hf
theorem so_if_icmp_ge {off : Int} {tgt : Nat} (hd : decode cc pc = .ok (.if_icmp .ge off, 3)) (ht : (pc : Int) + off = (tgt : Int)) : aq_SOp T Nl Ms nc strs cc nL own mn ret hh pc (aq_if ai_ge tgt (pc + 3)) :=
  so_if fun {p l e R s m args below meth c H locs cells slots Q ls st r b β a} hx hb hf kt kf => by
    unfold ai_ge at hf
    split at hf
    · cases hf
      first | exact lv_icmp_ge hx hb hd ht kt kf | exact lv_icmp_ge hx hb hd ht kt (fun q => kf (fun z => z q)) | exact lv_icmp_ge hx hb hd ht kt (fun q => kf (fun z => absurd z q))
    · cases hf
theorem so_ifCond_gt {off : Int} {tgt : Nat} (hd : decode cc pc = .ok (.ifCond .gt off, 3)) (ht : (pc : Int) + off = (tgt : Int)) : aq_SOp T Nl Ms nc strs cc nL own mn ret hh pc (aq_if ai_gt0 tgt (pc + 3)) :=
  so_if fun {p l e R s m args below meth c H locs cells slots Q ls st r b β a} hx hb hf kt kf => by
    unfold ai_gt0 at hf
    split at hf
    · cases hf
      first | exact lv_if_gt hx hb hd ht kt kf | exact lv_if_gt hx hb hd ht kt (fun q => kf (fun z => z q)) | exact lv_if_gt hx hb hd ht kt (fun q => kf (fun z => absurd z q))
    · cases hf
theorem so_if_icmp_gt {off : Int} {tgt : Nat} (hd : decode cc pc = .ok (.if_icmp .gt off, 3)) (ht : (pc : Int) + off = (tgt : Int)) : aq_SOp T Nl Ms nc strs cc nL own mn ret hh pc (aq_if ai_gt tgt (pc + 3)) :=
  so_if fun {p l e R s m args below meth c H locs cells slots Q ls st r b β a} hx hb hf kt kf => by
    unfold ai_gt at hf
    split at hf
    · cases hf
      first | exact lv_icmp_gt hx hb hd ht kt kf | exact lv_icmp_gt hx hb hd ht kt (fun q => kf (fun z => z q)) | exact lv_icmp_gt hx hb hd ht kt (fun q => kf (fun z => absurd z q))
    · cases hf
theorem so_ifCond_le {off : Int} {tgt : Nat} (hd : decode cc pc = .ok (.ifCond .le off, 3)) (ht : (pc : Int) + off = (tgt : Int)) : aq_SOp T Nl Ms nc strs cc nL own mn ret hh pc (aq_if ai_le0 tgt (pc + 3)) :=
  so_if fun {p l e R s m args below meth c H locs cells slots Q ls st r b β a} hx hb hf kt kf => by
    unfold ai_le0 at hf
    split at hf
    · cases hf
      first | exact lv_if_le hx hb hd ht kt kf | exact lv_if_le hx hb hd ht kt (fun q => kf (fun z => z q)) | exact lv_if_le hx hb hd ht kt (fun q => kf (fun z => absurd z q))
    · cases hf
theorem so_if_icmp_le {off : Int} {tgt : Nat} (hd : decode cc pc = .ok (.if_icmp .le off, 3)) (ht : (pc : Int) + off = (tgt : Int)) : aq_SOp T Nl Ms nc strs cc nL own mn ret hh pc (aq_if ai_le tgt (pc + 3)) :=
  so_if fun {p l e R s m args below meth c H locs cells slots Q ls st r b β a} hx hb hf kt kf => by
    unfold ai_le at hf
    split at hf
    · cases hf
      first | exact lv_icmp_le hx hb hd ht kt kf | exact lv_icmp_le hx hb hd ht kt (fun q => kf (fun z => z q)) | exact lv_icmp_le hx hb hd ht kt (fun q => kf (fun z => absurd z q))
    · cases hf
theorem so_ifnull {off : Int} {tgt : Nat} (hd : decode cc pc = .ok (.ifnull off, 3)) (ht : (pc : Int) + off = (tgt : Int)) : aq_SOp T Nl Ms nc strs cc nL own mn ret hh pc (aq_if ai_null tgt (pc + 3)) :=
  so_if fun {p l e R s m args below meth c H locs cells slots Q ls st r b β a} hx hb hf kt kf => by
    unfold ai_null at hf
    split at hf
    · cases hf
      exact lv_ifnullN hx hb hd ht (kt trivial)
    · cases hf
      exact lv_ifnull hx hb hd (kf id)
    · cases hf
theorem so_ifnonnull {off : Int} {tgt : Nat} (hd : decode cc pc = .ok (.ifnonnull off, 3)) (ht : (pc : Int) + off = (tgt : Int)) : aq_SOp T Nl Ms nc strs cc nL own mn ret hh pc (aq_if ai_nonnull tgt (pc + 3)) :=
  so_if fun {p l e R s m args below meth c H locs cells slots Q ls st r b β a} hx hb hf kt kf => by
    unfold ai_nonnull at hf
    split at hf
    · cases hf
      exact lv_ifnonnullN hx hb hd (kf id)
    · cases hf
      exact lv_ifnonnull hx hb hd ht (kt trivial)
    · cases hf
end
