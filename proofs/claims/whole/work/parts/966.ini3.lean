/-! ===== the constructor of the class ===== -/
section
theorem aq_gr.cell {S S2 : aq_S} {w v u q : Nat} {e : Option aq_E} (h : aq_gr S S2 w v u) (hq : q < w) (he : S.2.2.2 q = e) : S2.2.2.2 q = e := (h.2.2.2.2.2 q hq).trans he
theorem aq_gr.tr {S S2 S3 : aq_S} {w w2 v v2 u u2 : Nat} (h : aq_gr S S2 w v u) (h2 : aq_gr S2 S3 w2 v2 u2) (hw : w ≤ w2) : aq_gr S S3 w v2 (u + u2) := by
  obtain ⟨a1, a2, a3, a4, a5, a6⟩ := h
  obtain ⟨b1, b2, b3, b4, b5, b6⟩ := h2
  exact ⟨b1, b2, by omega, by omega, a5, fun q hq => (b6 q (by omega)).trans (a6 q hq)⟩
/-- one new cell: all below it stay -/
theorem aq_nx.gr {S S2 : aq_S} {w nf : Nat} {e : aq_E} (h : aq_nx S S2 w e nf) (h1 : S.1 = w) (h2 : S.2.1 = 0) : aq_gr S S2 w (w + 1) nf := by
  obtain ⟨a1, a2, a3, a4, a5⟩ := h
  exact ⟨a2, a3, a4, by omega, h2, fun q hq => a5 q (by omega)⟩
/-- cells from lo on, but for the object a below them, are as they were -/
def aq_kp (S S2 : aq_S) (a hi : Nat) : Prop := ∀ q, q ≠ a → q < hi → S2.2.2.2 q = S.2.2.2 q
theorem aq_kp.tr {S S2 S3 : aq_S} {a hi hi2 : Nat} (h : aq_kp S S2 a hi) (h2 : aq_kp S2 S3 a hi2) (hw : hi ≤ hi2) : aq_kp S S3 a hi := fun q hq hlt => (h2 q hq (by omega)).trans (h q hq hlt)
theorem aq_gr.kp {S S2 : aq_S} {w v u a : Nat} (h : aq_gr S S2 w v u) : aq_kp S S2 a w := fun q _ hq => h.2.2.2.2.2 q hq
theorem aq_frkp {S S2 : aq_S} {a hi : Nat} (h : aq_fr S S2 (fun q => q = a)) : aq_kp S S2 a hi := fun q hq _ => h.2.2.2 q hq
/-- the same cells, but for P -/
def aq_kq (S S2 : aq_S) (P : Nat → Prop) : Prop := ∀ q, ¬ P q → S2.2.2.2 q = S.2.2.2 q
theorem aq_kq.fr {S S2 : aq_S} {P : Nat → Prop} (h : aq_kq S S2 P) : aq_fr (S2.1, S2.2.1, S2.2.2.1, S.2.2.2) S2 P := ⟨rfl, rfl, rfl, h⟩
theorem aq_kq.tr {S S2 S3 : aq_S} {P P2 P3 : Nat → Prop} (h : aq_kq S S2 P) (h2 : aq_kq S2 S3 P2) (e : ∀ q, ¬ P3 q → ¬ P q ∧ ¬ P2 q) : aq_kq S S3 P3 := fun q hq => (h2 q (e q hq).2).trans (h q (e q hq).1)
end
