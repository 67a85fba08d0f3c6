/-! ===== reading a text ===== -/
section
/-- what was read, open parentheses, where they began, where the last item began (if it may be repeated), whether ')' may follow -/
abbrev pS : Type := (Nat × (Nat → Int32) × Int32) × Nat × (Nat → Nat) × Option Nat × Bool
def updN (f : Nat → Nat) (j x : Nat) (i : Nat) : Nat := if i = j then x else f i
def psStep (k ch : Nat) (p : pS) : Option pS :=
  if ch = 40 then (if p.2.1 < 4 then some (p.1, p.2.1 + 1, updN p.2.2.1 p.2.1 p.1.1, none, false) else none)
  else if ch = 41 then (if 0 < p.2.1 ∧ p.2.2.2.2 = true then some (p.1, p.2.1 - 1, p.2.2.1, some (p.2.2.1 (p.2.1 - 1)), true) else none)
  else if 50 ≤ ch ∧ ch ≤ 57 then p.2.2.2.1.elim none (fun s => some (aSeq (rSrc p.1.2.1 s p.1.1) ((ch - 48 - 1) * (p.1.1 - s)) p.1, p.2.1, p.2.2.1, none, p.2.2.2.2))
  else if ch = 95 then some (aOne (-1) p.1, p.2.1, p.2.2.1, some p.1.1, true)
  else if 97 ≤ ch ∧ ch < 97 + k then some (aOne (nI (ch - 97)) p.1, p.2.1, p.2.2.1, some p.1.1, true)
  else none
def b2i (b : Bool) : Int32 := if b then 1 else 0
def rK (S : aq_S) (n : Nat) (err : Int32) (F : Nat → Int32) (p : pS) : Prop := ∃ is mr mc O, rJ S n err p.1.1 p.1.2.1 p.1.2.2 (nI p.2.1) is mr mc F O ∧ p.2.1 ≤ 4 ∧ (∀ j, j < p.2.1 → O j = nI (p.2.2.1 j) ∧ p.2.2.1 j ≤ p.1.1) ∧ (p.2.2.2.1 = none → mr = 0) ∧ (∀ s, p.2.2.2.1 = some s → mr = 1 ∧ is = nI s ∧ s ≤ p.1.1) ∧ (0 < p.2.1 → mc = b2i p.2.2.2.2)
theorem r_take (d : Nat) {S : aq_S} {n k ch : Nat} {err : Int32} {F : Nat → Int32} {p : pS} (h : rK S n err F p) (hc : ch < 128) (hk : k ≤ 3) : aX (d + 4) 29 [.ref 26, .int (nI ch), .int (nI k)] S (fun o S' => (∀ p', psStep k ch p = some p' → o = .inl (some (.int 1)) ∧ rK S' n err F p') ∧ (psStep k ch p = none → o = .inl (some (.int 0)) ∧ S' = S) ∧ aq_fr S S' (fun q => 26 ≤ q ∧ q ≤ 30)) := by
  obtain ⟨st, oc, op, la, mcb⟩ := p
  obtain ⟨is, mr, mc, O, h1, h2, h3, h4, h5, h6⟩ := h
  have hm := h1.2.2.1.le
  refine ar_run (Nat.le_of_ble_eq_true rfl) (fun o S1 h => h.2.2.le) ?_
  refine ar_ld i_X3_take_0 rfl rfl ?_
  refine ar_push i_X3_take_1 ?_
  by_cases e40 : ch = 40
  · subst e40
    refine ar_iff i_X3_take_3 rfl (fun z => z rfl) ?_
    refine ar_ld i_X3_take_6 rfl rfl ?_
    by_cases ho : oc < 4
    · have e : psStep k 40 (st, oc, op, la, mcb) = some (st, oc + 1, updN op oc st.1, none, false) := (if_pos rfl).trans (if_pos ho)
      rw [e]
      refine av_cr i_X3_take_7 rfl ⟨_, _, _, rfl, h1.1⟩ (Nat.le_of_ble_eq_true rfl) (r_open (d + 1) h1 ho) (fun S2 q2 => ?_)
      refine ar_ret i_X3_take_10 (Or.inr rfl) ⟨fun p' hp' => ⟨rfl, ?_⟩, fun z => (by cases z), q2.2.mono (fun q z => by omega)⟩
      cases hp'
      refine ⟨is, 0, 0, upd O oc (nI st.1), q2.1, ho, fun j hj => ?_, fun _ => rfl, fun s z => (by cases z), fun _ => rfl⟩
      by_cases ej : j = oc
      · rw [ej, upd_eq]
        show _ = nI (updN op oc st.1 oc) ∧ updN op oc st.1 oc ≤ st.1
        unfold updN
        rw [if_pos rfl]
        exact ⟨rfl, Nat.le_refl _⟩
      · rw [upd_ne ej]
        show _ = nI (updN op oc st.1 j) ∧ updN op oc st.1 j ≤ st.1
        unfold updN
        rw [if_neg ej]
        exact h3 j (Nat.lt_of_le_of_ne (Nat.le_of_lt_succ hj) ej)
    · have e : psStep k 40 (st, oc, op, la, mcb) = none := (if_pos rfl).trans (if_neg ho)
      rw [e]
      refine ar_cr i_X3_take_7 rfl ⟨_, _, _, rfl, h1.1⟩ (Nat.le_of_ble_eq_true rfl) (r_open_no (d + 1) h1 (Nat.le_antisymm h2 (Nat.le_of_not_lt ho))) ?_
      exact ar_ret i_X3_take_10 ((Or.inl rfl)) ⟨fun p' z => (by cases z), fun _ => ⟨rfl, rfl⟩, aq_fr.rf⟩
  · refine ar_ift i_X3_take_3 rfl (fun z => e40 (nI_inj (b := 40) (by omega) (by omega) z)) ?_
    refine ar_ld i_X3_take_11 rfl rfl ?_
    refine ar_push i_X3_take_12 ?_
    by_cases e41 : ch = 41
    · subst e41
      refine ar_iff i_X3_take_14 rfl (fun z => z rfl) ?_
      refine ar_ld i_X3_take_17 rfl rfl ?_
      by_cases ho : 0 < oc ∧ mcb = true
      · have e : psStep k 41 (st, oc, op, la, mcb) = some (st, oc - 1, op, some (op (oc - 1)), true) := (if_neg e40).trans ((if_pos rfl).trans (if_pos ho))
        rw [e]
        have hmc : mc = 1 := (h6 ho.1).trans (by show b2i mcb = 1; rw [ho.2]; rfl)
        subst hmc
        refine av_cr i_X3_take_18 rfl ⟨_, _, _, rfl, h1.1⟩ (Nat.le_of_ble_eq_true rfl) (r_close (d + 1) h1 h2 ho.1) (fun S2 q2 => ?_)
        refine ar_ret i_X3_take_21 (Or.inr rfl) ⟨fun p' hp' => ⟨rfl, ?_⟩, fun z => (by cases z), q2.2.mono (fun q z => by omega)⟩
        cases hp'
        have h2' : oc ≤ 4 := h2
        have hlt : oc - 1 < oc := by omega
        refine ⟨O (oc - 1), 1, 1, O, q2.1, Nat.le_trans (Nat.sub_le oc 1) h2, fun j hj => h3 j (Nat.lt_trans hj hlt), fun z => (by cases z), fun s z => ?_, fun _ => rfl⟩
        cases z
        exact ⟨rfl, (h3 (oc - 1) hlt).1, (h3 (oc - 1) hlt).2⟩
      · have e : psStep k 41 (st, oc, op, la, mcb) = none := (if_neg e40).trans ((if_pos rfl).trans (if_neg ho))
        rw [e]
        have hn : oc = 0 ∨ mc = 0 := by
          by_cases h0 : oc = 0
          · exact Or.inl h0
          · right
            refine (h6 (Nat.pos_of_ne_zero h0)).trans ?_
            show b2i mcb = 0
            cases mcb with
            | false => rfl
            | true => exact absurd ⟨Nat.pos_of_ne_zero h0, rfl⟩ ho
        refine ar_cr i_X3_take_18 rfl ⟨_, _, _, rfl, h1.1⟩ (Nat.le_of_ble_eq_true rfl) (r_close_no (d + 1) h1 h2 hn) ?_
        exact ar_ret i_X3_take_21 ((Or.inl rfl)) ⟨fun p' z => (by cases z), fun _ => ⟨rfl, rfl⟩, aq_fr.rf⟩
    · refine ar_ift i_X3_take_14 rfl (fun z => e41 (nI_inj (b := 41) (by omega) (by omega) z)) ?_
      refine ar_ld i_X3_take_22 rfl rfl ?_
      refine ar_push i_X3_take_23 ?_
      have rest : ¬ (50 ≤ ch ∧ ch ≤ 57) → aG (d + 3) 29 (fun o S' => (∀ p', psStep k ch (st, oc, op, la, mcb) = some p' → o = .inl (some (.int 1)) ∧ rK S' n err F p') ∧ (psStep k ch (st, oc, op, la, mcb) = none → o = .inl (some (.int 0)) ∧ S' = S) ∧ aq_fr S S' (fun q => 26 ≤ q ∧ q ≤ 30)) 43 [(0, .ref 26), (1, .int (nI ch)), (2, .int (nI k))] [] S := by
        intro hd
        refine ar_ld i_X3_take_43 rfl rfl ?_
        refine ar_push i_X3_take_44 ?_
        by_cases e95 : ch = 95
        · have e : psStep k ch (st, oc, op, la, mcb) = some (aOne (-1) st, oc, op, some st.1, true) := (if_neg e40).trans ((if_neg e41).trans ((if_neg hd).trans (if_pos e95)))
          rw [e]
          subst e95
          refine ar_iff i_X3_take_46 rfl (fun z => z rfl) ?_
          refine ar_ld i_X3_take_49 rfl rfl ?_
          refine ar_push i_X3_take_50 ?_
          refine av_cr i_X3_take_51 rfl ⟨_, _, _, rfl, h1.1⟩ (Nat.le_of_ble_eq_true rfl) (r_addItem d h1 (-1)) (fun S2 q2 => ?_)
          refine ar_ret i_X3_take_54 (Or.inr rfl) ⟨fun p' hp' => ⟨rfl, ?_⟩, fun z => (by cases z), q2.2.mono (fun q z => by omega)⟩
          cases hp'
          have hle := (aOne_le (x := -1) hm).1
          refine ⟨nI st.1, 1, 1, O, q2.1, h2, fun j hj => ⟨(h3 j hj).1, Nat.le_trans (h3 j hj).2 hle⟩, fun z => (by cases z), fun s z => ?_, fun _ => rfl⟩
          cases z
          exact ⟨rfl, rfl, hle⟩
        · refine ar_ift i_X3_take_46 rfl (fun z => e95 (nI_inj (b := 95) (by omega) (by omega) z)) ?_
          refine ar_ld i_X3_take_55 rfl rfl ?_
          refine ar_push i_X3_take_56 ?_
          by_cases hl : 97 ≤ ch ∧ ch < 97 + k
          · have e : psStep k ch (st, oc, op, la, mcb) = some (aOne (nI (ch - 97)) st, oc, op, some st.1, true) := (if_neg e40).trans ((if_neg e41).trans ((if_neg hd).trans ((if_neg e95).trans (if_pos hl))))
            rw [e]
            refine ar_ar i_X3_take_58 rfl ?_
            rw [show (97 : Int32) = nI 97 from rfl, pk_sub hl.1]
            refine ar_st i_X3_take_59 rfl rfl ?_
            refine ar_ld i_X3_take_60 rfl rfl ?_
            refine ar_iff i_X3_take_61 rfl (nI_pos (by omega)) ?_
            refine ar_ld i_X3_take_64 rfl rfl ?_
            refine ar_ld i_X3_take_65 rfl rfl ?_
            refine ar_iff i_X3_take_66 rfl (nI_ge (by omega) (by omega)) ?_
            refine ar_ld i_X3_take_69 rfl rfl ?_
            refine ar_ld i_X3_take_70 rfl rfl ?_
            refine av_cr i_X3_take_71 rfl ⟨_, _, _, rfl, h1.1⟩ (Nat.le_of_ble_eq_true rfl) (r_addItem d h1 (nI (ch - 97))) (fun S2 q2 => ?_)
            refine ar_iff i_X3_take_74 rfl (by decide) ?_
            refine ar_push i_X3_take_77 ?_
            refine ar_go i_X3_take_78 ?_
            refine ar_ret i_X3_take_82 (Or.inr rfl) ⟨fun p' hp' => ⟨rfl, ?_⟩, fun z => (by cases z), q2.2.mono (fun q z => by omega)⟩
            cases hp'
            have hle := (aOne_le (x := nI (ch - 97)) hm).1
            refine ⟨nI st.1, 1, 1, O, q2.1, h2, fun j hj => ⟨(h3 j hj).1, Nat.le_trans (h3 j hj).2 hle⟩, fun z => (by cases z), fun s z => ?_, fun _ => rfl⟩
            cases z
            exact ⟨rfl, rfl, hle⟩
          · have e : psStep k ch (st, oc, op, la, mcb) = none := (if_neg e40).trans ((if_neg e41).trans ((if_neg hd).trans ((if_neg e95).trans (if_neg hl))))
            rw [e]
            refine ar_ar i_X3_take_58 rfl ?_
            refine ar_st i_X3_take_59 rfl rfl ?_
            refine ar_ld i_X3_take_60 rfl rfl ?_
            refine ar_if i_X3_take_61 rfl (fun c61 => ?_) (fun c61 => ?_)
            · refine ar_push i_X3_take_81 ?_
              exact ar_ret i_X3_take_82 ((Or.inl rfl)) ⟨fun p' z => (by cases z), fun _ => ⟨rfl, rfl⟩, aq_fr.rf⟩
            · refine ar_ld i_X3_take_64 rfl rfl ?_
              refine ar_ld i_X3_take_65 rfl rfl ?_
              have hch : 97 ≤ ch := by
                refine Classical.byContradiction fun u => c61 ?_
                rw [Int32.lt_iff_toInt_lt, show (97 : Int32) = nI 97 from rfl, pk_sub_toInt (by omega) (by omega)]
                show _ < (0 : Int)
                omega
              rw [show (97 : Int32) = nI 97 from rfl, pk_sub hch]
              refine ar_ift i_X3_take_66 rfl (nI_le (by omega) (by omega)) ?_
              refine ar_push i_X3_take_81 ?_
              exact ar_ret i_X3_take_82 ((Or.inl rfl)) ⟨fun p' z => (by cases z), fun _ => ⟨rfl, rfl⟩, aq_fr.rf⟩
      by_cases h50 : ch < 50
      · refine ar_ift i_X3_take_25 rfl (nI_lt (b := 50) h50 (by omega)) ?_
        exact rest (by omega)
      · refine ar_iff i_X3_take_25 rfl (nI_nlt (b := 50) (by omega) (by omega)) ?_
        refine ar_ld i_X3_take_28 rfl rfl ?_
        refine ar_push i_X3_take_29 ?_
        by_cases h57 : 57 < ch
        · refine ar_ift i_X3_take_31 rfl (nI_lt (a := 57) h57 (by omega)) ?_
          exact rest (by omega)
        · refine ar_iff i_X3_take_31 rfl (nI_nlt (a := 57) (by omega) (by omega)) ?_
          refine ar_ld i_X3_take_34 rfl rfl ?_
          refine ar_ld i_X3_take_35 rfl rfl ?_
          refine ar_push i_X3_take_36 ?_
          rw [show (48 : Int32) = nI 48 from rfl]
          refine ar_ar i_X3_take_38 rfl ?_
          rw [pk_sub (by omega)]
          have e0 : psStep k ch (st, oc, op, la, mcb) = la.elim none (fun s => some (aSeq (rSrc st.2.1 s st.1) ((ch - 48 - 1) * (st.1 - s)) st, oc, op, none, mcb)) := (if_neg e40).trans ((if_neg e41).trans (if_pos ⟨by omega, by omega⟩))
          cases la with
          | none =>
            have e : psStep k ch (st, oc, op, none, mcb) = none := e0
            rw [e]
            have hmr : mr = 0 := h4 rfl
            subst hmr
            refine ar_cr i_X3_take_39 rfl ⟨_, _, _, rfl, h1.1⟩ (Nat.le_of_ble_eq_true rfl) (r_repeat_no d h1) ?_
            exact ar_ret i_X3_take_42 ((Or.inl rfl)) ⟨fun p' z => (by cases z), fun _ => ⟨rfl, rfl⟩, aq_fr.rf⟩
          | some s =>
            have e : psStep k ch (st, oc, op, some s, mcb) = some (aSeq (rSrc st.2.1 s st.1) ((ch - 48 - 1) * (st.1 - s)) st, oc, op, none, mcb) := e0
            rw [e]
            obtain ⟨hmr, his, hs⟩ := h5 s rfl
            have hmr' : mr = 1 := hmr
            have his' : is = nI s := his
            subst hmr' his'
            refine av_cr i_X3_take_39 rfl ⟨_, _, _, rfl, h1.1⟩ (Nat.le_of_ble_eq_true rfl) (r_repeat d h1 hs (x := ch - 48) (by omega) (by omega)) (fun S2 q2 => ?_)
            refine ar_ret i_X3_take_42 (Or.inr rfl) ⟨fun p' hp' => ⟨rfl, ?_⟩, fun z => (by cases z), q2.2.mono (fun q z => by omega)⟩
            cases hp'
            have hle := (aSeq_le (src := rSrc st.2.1 s st.1) hm ((ch - 48 - 1) * (st.1 - s))).1
            exact ⟨nI s, 0, mc, O, q2.1 _ rfl, h2, fun j hj => ⟨(h3 j hj).1, Nat.le_trans (h3 j hj).2 hle⟩, fun _ => rfl, fun s z => (by cases z), h6⟩
/-- reads so many characters from the i-th on: the place where it fails, or what was read -/
def psRun (k : Nat) (inp : Nat → Nat) : Nat → Nat → pS → Nat × Option pS
  | 0, i, p => (i, some p)
  | j + 1, i, p => (psStep k (inp i) p).elim (i, none) (fun p' => psRun k inp j (i + 1) p')
theorem psRun_n {k j i : Nat} {inp : Nat → Nat} {p : pS} (h : psStep k (inp i) p = none) : psRun k inp (j + 1) i p = (i, none) := by
  show (psStep k (inp i) p).elim _ _ = _
  rw [h]
  rfl
theorem psRun_s {k j i : Nat} {inp : Nat → Nat} {p p' : pS} (h : psStep k (inp i) p = some p') : psRun k inp (j + 1) i p = psRun k inp j (i + 1) p' := by
  show (psStep k (inp i) p).elim _ _ = _
  rw [h]
  rfl
def ps0 : pS := ((0, (fun _ => 0), 0), 0, (fun _ => 0), none, false)
/-- the reader: its input, the place of the latest error -/
def hI (S : aq_S) (n : Nat) (inp : Nat → Nat) (err : Int32) : Prop := ∃ m g tl oc is mr mc F O, rJ S n err m g tl oc is mr mc F O ∧ (∀ j, j < n → F j = nI (inp j)) ∧ n ≤ 30 ∧ ∀ j, j < n → inp j < 128
theorem hI.fr {S S' : aq_S} {n : Nat} {inp : Nat → Nat} {err : Int32} {P : Nat → Prop} (h : hI S n inp err) (k : aq_fr S S' P) (hP : ∀ x, 26 ≤ x → x ≤ 30 → ¬ P x) : hI S' n inp err := by
  obtain ⟨m, g, tl, oc, is, mr, mc, F, O, h1, h2⟩ := h
  exact ⟨m, g, tl, oc, is, mr, mc, F, O, h1.fr k hP, h2⟩
/-- where the reading fails -/
def psErr (n : Nat) (q : Nat × Option pS) : Option Nat := q.2.elim (some q.1) (fun p => if 0 < p.2.1 then some n else none)
theorem r_read (d : Nat) {S : aq_S} {n k : Nat} {inp : Nat → Nat} {err : Int32} (h : hI S n inp err) (hk : k ≤ 3) : aX (d + 5) 28 [.ref 26, .int (nI k)] S (fun o S' => (∀ e, psErr n (psRun k inp n 0 ps0) = some e → o = .inl (some (.int 0)) ∧ hI S' 0 inp (nI e)) ∧ (∀ p, psRun k inp n 0 ps0 = (n, some p) → ¬ 0 < p.2.1 → o = .inl (some (.int 1)) ∧ ∃ is mr mc F O, rJ S' 0 err p.1.1 p.1.2.1 p.1.2.2 0 is mr mc F O) ∧ aq_fr S S' (fun q => 26 ≤ q ∧ q ≤ 30)) := by
  obtain ⟨m, g, tl, oc, is, mr, mc, F, O, h1, h2, h3, h4⟩ := h
  refine ar_run (Nat.le_of_ble_eq_true rfl) (fun o S1 h => h.2.2.le) ?_
  refine ar_ld i_X3_read_0 rfl rfl ?_
  refine ar_gf i_X3_read_1 (h1.1) rfl ?_
  refine ar_st i_X3_read_4 rfl rfl ?_
  refine ar_ld i_X3_read_5 rfl rfl ?_
  refine ar_push i_X3_read_6 ?_
  refine av_pf i_X3_read_7 (h1.1) (Nat.le_of_ble_eq_true rfl) (rfl) rfl (fun S1 g1 k1 => ?_)
  have j1 : rJ S1 0 err m g tl oc is mr mc F O := h1.ob g1 k1
  refine ar_ld i_X3_read_10 rfl rfl ?_
  refine ar_gf i_X3_read_11 (j1.1) rfl ?_
  refine av_cv i_X3_read_14 rfl ⟨_, _, _, rfl, j1.2.2.1.obj⟩ (Nat.le_of_ble_eq_true rfl) (w_makeEmpty (g' := fun _ => 0) (d + 3) j1.2.2.1) (fun S2 q2 => ?_)
  have j2 : rJ S2 0 err 0 (fun _ => 0) tl oc is mr mc F O := ⟨(q2.2.2.2.2 26 (by omega)).trans j1.1, (q2.2.2.2.2 27 (by omega)).trans j1.2.1, q2.1, (q2.2.2.2.2 30 (by omega)).trans j1.2.2.2⟩
  refine ar_ld i_X3_read_17 rfl rfl ?_
  refine ar_push i_X3_read_18 ?_
  refine av_pf i_X3_read_19 (j2.1) (Nat.le_of_ble_eq_true rfl) (Or.inl rfl) rfl (fun S3 g3 k3 => ?_)
  have j3 : rJ S3 0 err 0 (fun _ => 0) 0 oc is mr mc F O := j2.ob g3 k3
  refine ar_ld i_X3_read_22 rfl rfl ?_
  refine ar_push i_X3_read_23 ?_
  refine av_pf i_X3_read_24 (j3.1) (Nat.le_of_ble_eq_true rfl) (rfl) rfl (fun S4 g4 k4 => ?_)
  have j4 : rJ S4 0 err 0 (fun _ => 0) 0 0 is mr mc F O := j3.ob g4 k4
  refine ar_ld i_X3_read_27 rfl rfl ?_
  refine ar_push i_X3_read_28 ?_
  refine av_pf i_X3_read_29 (j4.1) (Nat.le_of_ble_eq_true rfl) (Or.inl rfl) rfl (fun S5 g5 k5 => ?_)
  have j5 : rJ S5 0 err 0 (fun _ => 0) 0 0 is 0 mc F O := j4.ob g5 k5
  refine ar_push i_X3_read_32 ?_
  refine ar_st i_X3_read_33 rfl rfl ?_
  have hfr : aq_fr S S5 (fun q => 26 ≤ q ∧ q ≤ 30) := ((k1.mono (fun q z => by omega)).tr (q2.2.mono (fun q z => by omega))).tr (((k3.tr k4).tr k5).mono (fun q z => by omega))
  suffices key : ∀ j i (S5 : aq_S) (p : pS), i + j = n → rK S5 0 err F p → psRun k inp n 0 ps0 = psRun k inp j i p → aq_fr S S5 (fun q => 26 ≤ q ∧ q ≤ 30) → aG (d + 4) 28 (fun o S' => (∀ e, psErr n (psRun k inp n 0 ps0) = some e → o = .inl (some (.int 0)) ∧ hI S' 0 inp (nI e)) ∧ (∀ p, psRun k inp n 0 ps0 = (n, some p) → ¬ 0 < p.2.1 → o = .inl (some (.int 1)) ∧ ∃ is mr mc F O, rJ S' 0 err p.1.1 p.1.2.1 p.1.2.2 0 is mr mc F O) ∧ aq_fr S S' (fun q => 26 ≤ q ∧ q ≤ 30)) 34 [(0, .ref 26), (1, .int (nI k)), (2, .int (nI n)), (3, .int (nI i))] [] S5 from key n 0 S5 ps0 (by omega) ⟨is, 0, mc, O, j5, Nat.zero_le 4, fun j hj => absurd hj (Nat.not_lt_zero j), fun _ => rfl, fun s z => (by cases z), fun z => absurd z (Nat.lt_irrefl 0)⟩ rfl hfr
  intro j
  induction j with
  | zero =>
    intro i S5 p hi hK hrun hfr
    obtain ⟨is, mr, mc, O, j5, a2, a3, a4, a5, a6⟩ := hK
    have hin : i = n := by omega
    subst hin
    have hrun' : psRun k inp i 0 ps0 = (i, some p) := hrun
    rw [hrun']
    refine ar_ld i_X3_read_34 rfl rfl ?_
    refine ar_ld i_X3_read_35 rfl rfl ?_
    refine ar_ift i_X3_read_36 rfl (nI_le (Nat.le_refl _) (by omega)) ?_
    refine ar_ld i_X3_read_75 rfl rfl ?_
    refine ar_gf i_X3_read_76 (j5.1) rfl ?_
    by_cases ho : 0 < p.2.1
    · refine ar_iff i_X3_read_79 rfl (nI_nle ho (by omega)) ?_
      refine ar_ld i_X3_read_82 rfl rfl ?_
      refine ar_ld i_X3_read_83 rfl rfl ?_
      refine av_pf i_X3_read_84 (j5.1) (Nat.le_of_ble_eq_true rfl) (rfl) rfl (fun S6 g6 k6 => ?_)
      have j6 := j5.ob g6 k6
      refine ar_push i_X3_read_87 ?_
      refine ar_ret i_X3_read_88 (Or.inl rfl) ⟨fun e he => ⟨rfl, ?_⟩, fun p2 hp2 hn => ?_, hfr.tr (k6.mono (fun q z => by omega))⟩
      · have : e = i := by
          have he' : (if 0 < p.2.1 then some i else none) = some e := he
          rw [if_pos ho] at he'
          cases he'
          rfl
        subst this
        exact ⟨_, _, _, _, _, _, _, _, _, j6, fun j hj => absurd hj (Nat.not_lt_zero j), Nat.zero_le _, fun j hj => absurd hj (Nat.not_lt_zero j)⟩
      · cases hp2
        exact absurd ho hn
    · have h0 : p.2.1 = 0 := Nat.eq_zero_of_not_pos ho
      rw [h0] at j5
      refine ar_ift i_X3_read_79 rfl (nI_le (a := p.2.1) (b := 0) (by omega) (by omega)) ?_
      refine ar_push i_X3_read_89 ?_
      refine ar_ret i_X3_read_90 (Or.inr rfl) ⟨fun e he => ?_, fun p2 hp2 hn => ⟨rfl, ?_⟩, hfr⟩
      · have he' : (if 0 < p.2.1 then some i else none) = some e := he
        rw [if_neg ho] at he'
        cases he'
      · cases hp2
        exact ⟨is, mr, mc, F, O, j5⟩
  | succ j ih =>
    intro i S5 p hi hK hrun hfr
    have hK0 := hK
    obtain ⟨is, mr, mc, O, j5, a2, a3, a4, a5, a6⟩ := hK
    refine ar_ld i_X3_read_34 rfl rfl ?_
    refine ar_ld i_X3_read_35 rfl rfl ?_
    refine ar_iff i_X3_read_36 rfl (nI_ge (by omega) (by omega)) ?_
    refine ar_ld i_X3_read_39 rfl rfl ?_
    refine ar_ld i_X3_read_40 rfl rfl ?_
    refine ar_gf i_X3_read_41 (j5.1) rfl ?_
    refine ar_len i_X3_read_44 (by decide) (j5.2.1) ?_
    refine ar_iff i_X3_read_45 rfl (nI_ge (b := 30) (by omega) (by omega)) ?_
    refine ar_ld i_X3_read_48 rfl rfl ?_
    refine ar_ld i_X3_read_49 rfl rfl ?_
    refine ar_gf i_X3_read_50 (j5.1) rfl ?_
    refine ar_ld i_X3_read_53 rfl rfl ?_
    refine av_ldi i_X3_read_54 (j5.2.1) (by omega) (by omega) ?_
    rw [h2 i (by omega)]
    refine ar_ld i_X3_read_55 rfl rfl ?_
    cases hst : psStep k (inp i) p with
    | none =>
      refine ar_call i_X3_read_56 rfl ⟨_, _, _, rfl, j5.1⟩ (Nat.le_of_ble_eq_true rfl) (r_take d hK0 (h4 i (by omega)) hk) (fun v S1 hq => ?_) (fun E S1 hq => ?_)
      · obtain ⟨q1, q2, q3⟩ := hq
        obtain ⟨q4, q5⟩ := q2 hst
        cases q4
        subst q5
        refine ar_iff i_X3_read_59 rfl (fun z => z rfl) ?_
        refine ar_ld i_X3_read_62 rfl rfl ?_
        refine ar_ld i_X3_read_63 rfl rfl ?_
        refine av_pf i_X3_read_64 (j5.1) (Nat.le_of_ble_eq_true rfl) (rfl) rfl (fun S6 g6 k6 => ?_)
        have j6 := j5.ob g6 k6
        refine ar_push i_X3_read_67 ?_
        rw [hrun, psRun_n hst]
        refine ar_ret i_X3_read_68 (Or.inl rfl) ⟨fun e he => ⟨rfl, ?_⟩, fun p2 hp2 hn => (by cases hp2), hfr.tr (k6.mono (fun q z => by omega))⟩
        have he' : some i = some e := he
        cases he'
        exact ⟨_, _, _, _, _, _, _, _, _, j6, fun j hj => absurd hj (Nat.not_lt_zero j), Nat.zero_le _, fun j hj => absurd hj (Nat.not_lt_zero j)⟩
      · obtain ⟨q1, q2, q3⟩ := hq
        obtain ⟨q4, q5⟩ := q2 hst
        cases q4
    | some p' =>
      refine ar_call i_X3_read_56 rfl ⟨_, _, _, rfl, j5.1⟩ (Nat.le_of_ble_eq_true rfl) (r_take d hK0 (h4 i (by omega)) hk) (fun v S1 hq => ?_) (fun E S1 hq => ?_)
      · obtain ⟨q1, q2, q3⟩ := hq
        obtain ⟨q4, q5⟩ := q1 p' hst
        cases q4
        refine ar_ift i_X3_read_59 rfl (by decide) ?_
        refine ar_inc i_X3_read_69 rfl rfl ?_
        refine ar_go i_X3_read_72 ?_
        have := ih (i + 1) S1 p' (by omega) q5 (hrun.trans (psRun_s hst)) (hfr.tr q3)
        rw [← nI_1] at this
        exact this
      · obtain ⟨q1, q2, q3⟩ := hq
        obtain ⟨q4, q5⟩ := q1 p' hst
        cases q4
end
