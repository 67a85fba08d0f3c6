/-! ===== the blocks of the law (printed by wip/whole/mkB.py) ===== -/
section
def tl6 (L : List (Nat × Value)) : Prop := L = [] ∨ (∃ u, L = [(6, .int u)]) ∨ ∃ u, L = [(6, .long u)]
def tl5 (L : List (Nat × Value)) : Prop := L = [] ∨ ∃ u L6, L = (5, .int u) :: L6 ∧ tl6 L6
theorem m_thrown (d : Nat) {S : aq_S} {fs : List Value} {th : Int32} (h : S.2.2.2 52 = some (.inr (7, .int th :: fs))) : aX (d + 1) 126 [.ref 52] S (fun o S' => o = .inl (some (.int th)) ∧ S' = S) := by
  refine ar_run (Nat.le_of_ble_eq_true rfl) (fun o S1 h => aq_le_of (aq_le_refl S) h) ?_
  refine ar_ld i_X7_thrown_0 rfl rfl ?_
  refine ar_gf i_X7_thrown_1 (h) rfl ?_
  exact ar_ret i_X7_thrown_4 rfl ⟨rfl, rfl⟩
theorem b_setLetters {d i n : Nat} {xs : Nat → Int32} {Q : aq_F} {S : aq_S} {r : Int32} {v : Int32} {P R : aq_S → Prop} {L : List (Nat × Value)} (hT : tl5 L) (h0 : S.2.2.2 0 = some (.inl (0, (n, .inl xs)))) (hi : i + 5 ≤ n) (hn : n ≤ 2560) (hL : aX (d + 1) 212 [.ref 1, .int (xs (i + 1)), .ref 71] S (fun o S' => o = .inl (some (.int r)) ∧ P S')) (hP0 : ∀ S1, P S1 → S1.2.2.2 0 = some (.inl (0, (n, .inl xs))) ∧ ∃ fs, S1.2.2.2 52 = some (.inr (7, fs))) (hM : ∀ S1, P S1 → aX (d + 1) 133 [.ref 52, .int (xs (i + 1))] S1 (fun o S' => o = .inl (some (.int v)) ∧ R S')) (hR : ∀ S2, R S2 → (∃ fs, S2.2.2.2 52 = some (.inr (7, .int r :: fs))) ∧ (r = 0 → oV S2 (v.toInt64))) (k : ∀ S2, R S2 → aG (d + 1) 251 Q 2846 [(0, .ref 0), (1, .ref 1), (2, .ref 52), (3, .ref 71), (4, .int (nI i)), (5, .int r), (6, .int v)] [] S2) : aG (d + 1) 251 Q 224 ((0, .ref 0) :: (1, .ref 1) :: (2, .ref 52) :: (3, .ref 71) :: (4, .int (nI i)) :: L) [] S := by
  have k1 : ∀ (S1 : aq_S) (L6 : List (Nat × Value)), P S1 → tl6 L6 → aG (d + 1) 251 Q 237 ((0, .ref 0) :: (1, .ref 1) :: (2, .ref 52) :: (3, .ref 71) :: (4, .int (nI i)) :: (5, .int r) :: L6) [] S1 := by
    intro S1 L6 p hL6
    obtain ⟨h1, fs1, o1⟩ := hP0 S1 p
    have k2 : ∀ S2, R S2 → aG (d + 1) 251 Q 249 [(0, .ref 0), (1, .ref 1), (2, .ref 52), (3, .ref 71), (4, .int (nI i)), (5, .int r), (6, .int v)] [] S2 := by
      intro S2 p2
      obtain ⟨⟨fs, o2⟩, hv⟩ := hR S2 p2
      refine ar_ld i_L_law_249 rfl rfl ?_
      refine ar_cr i_L_law_250 rfl ⟨_, _, _, rfl, o2⟩ (Nat.le_of_ble_eq_true rfl) (m_thrown d o2) ?_
      refine ar_ld i_L_law_253 rfl rfl ?_
      refine ar_ift i_L_law_255 rfl (rfl) ?_
      refine ar_ld i_L_law_260 rfl rfl ?_
      by_cases hr : r = 0
      · refine ar_iff i_L_law_262 rfl (fun z => z hr) ?_
        obtain ⟨f, hf, hf0⟩ := hv hr
        refine ar_ld i_L_law_265 rfl rfl ?_
        refine ar_push i_L_law_266 ?_
        refine av_ldl (j := 0) i_L_law_267 hf (by omega) (by omega) ?_
        rw [hf0]
        refine ar_ld i_L_law_268 rfl rfl ?_
        refine ar_ar i_L_law_270 rfl ?_
        refine ar_ar i_L_law_271 rfl ?_
        refine ar_ift i_L_law_272 rfl ((lg_cmp_eq _ _).mpr rfl) ?_
        refine ar_go i_L_law_277 ?_
        exact k S2 p2
      · refine ar_ift i_L_law_262 rfl (hr) ?_
        refine ar_go i_L_law_277 ?_
        exact k S2 p2
    refine ar_ld i_L_law_237 rfl rfl ?_
    refine ar_ld i_L_law_238 rfl rfl ?_
    refine ar_ld i_L_law_239 rfl rfl ?_
    refine ar_push i_L_law_241 ?_
    refine ar_ar i_L_law_242 rfl ?_
    rw [nI_1]
    refine av_ldi i_L_law_243 (h1) (by omega) (by omega) ?_
    refine av_cr i_L_law_244 rfl ⟨_, _, _, rfl, o1⟩ (Nat.le_of_ble_eq_true rfl) (hM S1 p) (fun S2 p2 => ?_)
    have k3 := k2 S2 p2
    rcases hL6 with e | ⟨u, e⟩ | ⟨u, e⟩
    · subst e
      refine ar_st i_L_law_247 rfl rfl ?_
      exact k3
    · subst e
      refine ar_st i_L_law_247 rfl rfl ?_
      exact k3
    · subst e
      refine ar_st i_L_law_247 rfl rfl ?_
      exact k3
  refine ar_ld i_L_law_224 rfl rfl ?_
  refine ar_ld i_L_law_225 rfl rfl ?_
  refine ar_ld i_L_law_226 rfl rfl ?_
  refine ar_push i_L_law_228 ?_
  refine ar_ar i_L_law_229 rfl ?_
  rw [nI_1]
  refine av_ldi i_L_law_230 (h0) (by omega) (by omega) ?_
  refine ar_ld i_L_law_231 rfl rfl ?_
  refine av_cr i_L_law_232 rfl trivial (Nat.le_of_ble_eq_true rfl) (hL) (fun S1 p => ?_)
  rcases hT with e | ⟨u, L6, e, hL6⟩
  · subst e
    refine ar_st i_L_law_235 rfl rfl ?_
    exact k1 S1 [] p (Or.inl rfl)
  · subst e
    rcases hL6 with e | ⟨u, e⟩ | ⟨u, e⟩
    · subst e
      refine ar_st i_L_law_235 rfl rfl ?_
      exact k1 S1 [] p (Or.inl rfl)
    · subst e
      refine ar_st i_L_law_235 rfl rfl ?_
      exact k1 S1 [(6, .int u)] p (Or.inr (Or.inl ⟨_, rfl⟩))
    · subst e
      refine ar_st i_L_law_235 rfl rfl ?_
      exact k1 S1 [(6, .long u)] p (Or.inr (Or.inr ⟨_, rfl⟩))
theorem b_append {d i n : Nat} {xs : Nat → Int32} {Q : aq_F} {S : aq_S} {r : Int32} {v : Int32} {P R : aq_S → Prop} {L : List (Nat × Value)} (hT : tl5 L) (h0 : S.2.2.2 0 = some (.inl (0, (n, .inl xs)))) (hi : i + 5 ≤ n) (hn : n ≤ 2560) (hL : aX (d + 1) 213 [.ref 1, .int (xs (i + 1)), .int (xs (i + 2)), .ref 71] S (fun o S' => o = .inl (some (.int r)) ∧ P S')) (hP0 : ∀ S1, P S1 → S1.2.2.2 0 = some (.inl (0, (n, .inl xs))) ∧ ∃ fs, S1.2.2.2 52 = some (.inr (7, fs))) (hM : ∀ S1, P S1 → aX (d + 1) 134 [.ref 52, .int (xs (i + 1)), .int (xs (i + 2))] S1 (fun o S' => o = .inl (some (.int v)) ∧ R S')) (hR : ∀ S2, R S2 → (∃ fs, S2.2.2.2 52 = some (.inr (7, .int r :: fs))) ∧ (r = 0 → oV S2 (v.toInt64))) (k : ∀ S2, R S2 → aG (d + 1) 251 Q 2846 [(0, .ref 0), (1, .ref 1), (2, .ref 52), (3, .ref 71), (4, .int (nI i)), (5, .int r), (6, .int v)] [] S2) : aG (d + 1) 251 Q 280 ((0, .ref 0) :: (1, .ref 1) :: (2, .ref 52) :: (3, .ref 71) :: (4, .int (nI i)) :: L) [] S := by
  have k1 : ∀ (S1 : aq_S) (L6 : List (Nat × Value)), P S1 → tl6 L6 → aG (d + 1) 251 Q 299 ((0, .ref 0) :: (1, .ref 1) :: (2, .ref 52) :: (3, .ref 71) :: (4, .int (nI i)) :: (5, .int r) :: L6) [] S1 := by
    intro S1 L6 p hL6
    obtain ⟨h1, fs1, o1⟩ := hP0 S1 p
    have k2 : ∀ S2, R S2 → aG (d + 1) 251 Q 317 [(0, .ref 0), (1, .ref 1), (2, .ref 52), (3, .ref 71), (4, .int (nI i)), (5, .int r), (6, .int v)] [] S2 := by
      intro S2 p2
      obtain ⟨⟨fs, o2⟩, hv⟩ := hR S2 p2
      refine ar_ld i_L_law_317 rfl rfl ?_
      refine ar_cr i_L_law_318 rfl ⟨_, _, _, rfl, o2⟩ (Nat.le_of_ble_eq_true rfl) (m_thrown d o2) ?_
      refine ar_ld i_L_law_321 rfl rfl ?_
      refine ar_ift i_L_law_323 rfl (rfl) ?_
      refine ar_ld i_L_law_328 rfl rfl ?_
      by_cases hr : r = 0
      · refine ar_iff i_L_law_330 rfl (fun z => z hr) ?_
        obtain ⟨f, hf, hf0⟩ := hv hr
        refine ar_ld i_L_law_333 rfl rfl ?_
        refine ar_push i_L_law_334 ?_
        refine av_ldl (j := 0) i_L_law_335 hf (by omega) (by omega) ?_
        rw [hf0]
        refine ar_ld i_L_law_336 rfl rfl ?_
        refine ar_ar i_L_law_338 rfl ?_
        refine ar_ar i_L_law_339 rfl ?_
        refine ar_ift i_L_law_340 rfl ((lg_cmp_eq _ _).mpr rfl) ?_
        refine ar_go i_L_law_345 ?_
        exact k S2 p2
      · refine ar_ift i_L_law_330 rfl (hr) ?_
        refine ar_go i_L_law_345 ?_
        exact k S2 p2
    refine ar_ld i_L_law_299 rfl rfl ?_
    refine ar_ld i_L_law_300 rfl rfl ?_
    refine ar_ld i_L_law_301 rfl rfl ?_
    refine ar_push i_L_law_303 ?_
    refine ar_ar i_L_law_304 rfl ?_
    rw [nI_1]
    refine av_ldi i_L_law_305 (h1) (by omega) (by omega) ?_
    refine ar_ld i_L_law_306 rfl rfl ?_
    refine ar_ld i_L_law_307 rfl rfl ?_
    refine ar_push i_L_law_309 ?_
    refine ar_ar i_L_law_310 rfl ?_
    rw [show (2 : Int32) = nI 2 from rfl, nI_add]
    refine av_ldi i_L_law_311 (h1) (by omega) (by omega) ?_
    refine av_cr i_L_law_312 rfl ⟨_, _, _, rfl, o1⟩ (Nat.le_of_ble_eq_true rfl) (hM S1 p) (fun S2 p2 => ?_)
    have k3 := k2 S2 p2
    rcases hL6 with e | ⟨u, e⟩ | ⟨u, e⟩
    · subst e
      refine ar_st i_L_law_315 rfl rfl ?_
      exact k3
    · subst e
      refine ar_st i_L_law_315 rfl rfl ?_
      exact k3
    · subst e
      refine ar_st i_L_law_315 rfl rfl ?_
      exact k3
  refine ar_ld i_L_law_280 rfl rfl ?_
  refine ar_ld i_L_law_281 rfl rfl ?_
  refine ar_ld i_L_law_282 rfl rfl ?_
  refine ar_push i_L_law_284 ?_
  refine ar_ar i_L_law_285 rfl ?_
  rw [nI_1]
  refine av_ldi i_L_law_286 (h0) (by omega) (by omega) ?_
  refine ar_ld i_L_law_287 rfl rfl ?_
  refine ar_ld i_L_law_288 rfl rfl ?_
  refine ar_push i_L_law_290 ?_
  refine ar_ar i_L_law_291 rfl ?_
  rw [show (2 : Int32) = nI 2 from rfl, nI_add]
  refine av_ldi i_L_law_292 (h0) (by omega) (by omega) ?_
  refine ar_ld i_L_law_293 rfl rfl ?_
  refine av_cr i_L_law_294 rfl trivial (Nat.le_of_ble_eq_true rfl) (hL) (fun S1 p => ?_)
  rcases hT with e | ⟨u, L6, e, hL6⟩
  · subst e
    refine ar_st i_L_law_297 rfl rfl ?_
    exact k1 S1 [] p (Or.inl rfl)
  · subst e
    rcases hL6 with e | ⟨u, e⟩ | ⟨u, e⟩
    · subst e
      refine ar_st i_L_law_297 rfl rfl ?_
      exact k1 S1 [] p (Or.inl rfl)
    · subst e
      refine ar_st i_L_law_297 rfl rfl ?_
      exact k1 S1 [(6, .int u)] p (Or.inr (Or.inl ⟨_, rfl⟩))
    · subst e
      refine ar_st i_L_law_297 rfl rfl ?_
      exact k1 S1 [(6, .long u)] p (Or.inr (Or.inr ⟨_, rfl⟩))
theorem b_feed {d i n : Nat} {xs : Nat → Int32} {Q : aq_F} {S : aq_S} {r : Int32} {v : Int32} {P R : aq_S → Prop} {L : List (Nat × Value)} (hT : tl5 L) (h0 : S.2.2.2 0 = some (.inl (0, (n, .inl xs)))) (hi : i + 5 ≤ n) (hn : n ≤ 2560) (hL : aX (d + 1) 214 [.ref 1, .int (xs (i + 1)), .ref 71] S (fun o S' => o = .inl (some (.int r)) ∧ P S')) (hP0 : ∀ S1, P S1 → S1.2.2.2 0 = some (.inl (0, (n, .inl xs))) ∧ ∃ fs, S1.2.2.2 52 = some (.inr (7, fs))) (hM : ∀ S1, P S1 → aX (d + 1) 135 [.ref 52, .int (xs (i + 1))] S1 (fun o S' => o = .inl (some (.int v)) ∧ R S')) (hR : ∀ S2, R S2 → (∃ fs, S2.2.2.2 52 = some (.inr (7, .int r :: fs))) ∧ (r = 0 → oV S2 (v.toInt64))) (k : ∀ S2, R S2 → aG (d + 1) 251 Q 2846 [(0, .ref 0), (1, .ref 1), (2, .ref 52), (3, .ref 71), (4, .int (nI i)), (5, .int r), (6, .int v)] [] S2) : aG (d + 1) 251 Q 348 ((0, .ref 0) :: (1, .ref 1) :: (2, .ref 52) :: (3, .ref 71) :: (4, .int (nI i)) :: L) [] S := by
  have k1 : ∀ (S1 : aq_S) (L6 : List (Nat × Value)), P S1 → tl6 L6 → aG (d + 1) 251 Q 361 ((0, .ref 0) :: (1, .ref 1) :: (2, .ref 52) :: (3, .ref 71) :: (4, .int (nI i)) :: (5, .int r) :: L6) [] S1 := by
    intro S1 L6 p hL6
    obtain ⟨h1, fs1, o1⟩ := hP0 S1 p
    have k2 : ∀ S2, R S2 → aG (d + 1) 251 Q 373 [(0, .ref 0), (1, .ref 1), (2, .ref 52), (3, .ref 71), (4, .int (nI i)), (5, .int r), (6, .int v)] [] S2 := by
      intro S2 p2
      obtain ⟨⟨fs, o2⟩, hv⟩ := hR S2 p2
      refine ar_ld i_L_law_373 rfl rfl ?_
      refine ar_cr i_L_law_374 rfl ⟨_, _, _, rfl, o2⟩ (Nat.le_of_ble_eq_true rfl) (m_thrown d o2) ?_
      refine ar_ld i_L_law_377 rfl rfl ?_
      refine ar_ift i_L_law_379 rfl (rfl) ?_
      refine ar_ld i_L_law_384 rfl rfl ?_
      by_cases hr : r = 0
      · refine ar_iff i_L_law_386 rfl (fun z => z hr) ?_
        obtain ⟨f, hf, hf0⟩ := hv hr
        refine ar_ld i_L_law_389 rfl rfl ?_
        refine ar_push i_L_law_390 ?_
        refine av_ldl (j := 0) i_L_law_391 hf (by omega) (by omega) ?_
        rw [hf0]
        refine ar_ld i_L_law_392 rfl rfl ?_
        refine ar_ar i_L_law_394 rfl ?_
        refine ar_ar i_L_law_395 rfl ?_
        refine ar_ift i_L_law_396 rfl ((lg_cmp_eq _ _).mpr rfl) ?_
        refine ar_go i_L_law_401 ?_
        exact k S2 p2
      · refine ar_ift i_L_law_386 rfl (hr) ?_
        refine ar_go i_L_law_401 ?_
        exact k S2 p2
    refine ar_ld i_L_law_361 rfl rfl ?_
    refine ar_ld i_L_law_362 rfl rfl ?_
    refine ar_ld i_L_law_363 rfl rfl ?_
    refine ar_push i_L_law_365 ?_
    refine ar_ar i_L_law_366 rfl ?_
    rw [nI_1]
    refine av_ldi i_L_law_367 (h1) (by omega) (by omega) ?_
    refine av_cr i_L_law_368 rfl ⟨_, _, _, rfl, o1⟩ (Nat.le_of_ble_eq_true rfl) (hM S1 p) (fun S2 p2 => ?_)
    have k3 := k2 S2 p2
    rcases hL6 with e | ⟨u, e⟩ | ⟨u, e⟩
    · subst e
      refine ar_st i_L_law_371 rfl rfl ?_
      exact k3
    · subst e
      refine ar_st i_L_law_371 rfl rfl ?_
      exact k3
    · subst e
      refine ar_st i_L_law_371 rfl rfl ?_
      exact k3
  refine ar_ld i_L_law_348 rfl rfl ?_
  refine ar_ld i_L_law_349 rfl rfl ?_
  refine ar_ld i_L_law_350 rfl rfl ?_
  refine ar_push i_L_law_352 ?_
  refine ar_ar i_L_law_353 rfl ?_
  rw [nI_1]
  refine av_ldi i_L_law_354 (h0) (by omega) (by omega) ?_
  refine ar_ld i_L_law_355 rfl rfl ?_
  refine av_cr i_L_law_356 rfl trivial (Nat.le_of_ble_eq_true rfl) (hL) (fun S1 p => ?_)
  rcases hT with e | ⟨u, L6, e, hL6⟩
  · subst e
    refine ar_st i_L_law_359 rfl rfl ?_
    exact k1 S1 [] p (Or.inl rfl)
  · subst e
    rcases hL6 with e | ⟨u, e⟩ | ⟨u, e⟩
    · subst e
      refine ar_st i_L_law_359 rfl rfl ?_
      exact k1 S1 [] p (Or.inl rfl)
    · subst e
      refine ar_st i_L_law_359 rfl rfl ?_
      exact k1 S1 [(6, .int u)] p (Or.inr (Or.inl ⟨_, rfl⟩))
    · subst e
      refine ar_st i_L_law_359 rfl rfl ?_
      exact k1 S1 [(6, .long u)] p (Or.inr (Or.inr ⟨_, rfl⟩))
theorem b_parseWord {d i n : Nat} {xs : Nat → Int32} {Q : aq_F} {S : aq_S} {r : Int32} {v : Int32} {P R : aq_S → Prop} {L : List (Nat × Value)} (hT : tl5 L) (h0 : S.2.2.2 0 = some (.inl (0, (n, .inl xs)))) (hi : i + 5 ≤ n) (hn : n ≤ 2560) (hL : aX (d + 1) 215 [.ref 1, .int (xs (i + 1)), .ref 71] S (fun o S' => o = .inl (some (.int r)) ∧ P S')) (hP0 : ∀ S1, P S1 → S1.2.2.2 0 = some (.inl (0, (n, .inl xs))) ∧ ∃ fs, S1.2.2.2 52 = some (.inr (7, fs))) (hM : ∀ S1, P S1 → aX (d + 1) 139 [.ref 52, .int (xs (i + 1))] S1 (fun o S' => o = .inl (some (.int v)) ∧ R S')) (hR : ∀ S2, R S2 → (∃ fs, S2.2.2.2 52 = some (.inr (7, .int r :: fs))) ∧ (r = 0 → oV S2 (v.toInt64))) (k : ∀ S2, R S2 → aG (d + 1) 251 Q 2846 [(0, .ref 0), (1, .ref 1), (2, .ref 52), (3, .ref 71), (4, .int (nI i)), (5, .int r), (6, .int v)] [] S2) : aG (d + 1) 251 Q 404 ((0, .ref 0) :: (1, .ref 1) :: (2, .ref 52) :: (3, .ref 71) :: (4, .int (nI i)) :: L) [] S := by
  have k1 : ∀ (S1 : aq_S) (L6 : List (Nat × Value)), P S1 → tl6 L6 → aG (d + 1) 251 Q 417 ((0, .ref 0) :: (1, .ref 1) :: (2, .ref 52) :: (3, .ref 71) :: (4, .int (nI i)) :: (5, .int r) :: L6) [] S1 := by
    intro S1 L6 p hL6
    obtain ⟨h1, fs1, o1⟩ := hP0 S1 p
    have k2 : ∀ S2, R S2 → aG (d + 1) 251 Q 429 [(0, .ref 0), (1, .ref 1), (2, .ref 52), (3, .ref 71), (4, .int (nI i)), (5, .int r), (6, .int v)] [] S2 := by
      intro S2 p2
      obtain ⟨⟨fs, o2⟩, hv⟩ := hR S2 p2
      refine ar_ld i_L_law_429 rfl rfl ?_
      refine ar_cr i_L_law_430 rfl ⟨_, _, _, rfl, o2⟩ (Nat.le_of_ble_eq_true rfl) (m_thrown d o2) ?_
      refine ar_ld i_L_law_433 rfl rfl ?_
      refine ar_ift i_L_law_435 rfl (rfl) ?_
      refine ar_ld i_L_law_440 rfl rfl ?_
      by_cases hr : r = 0
      · refine ar_iff i_L_law_442 rfl (fun z => z hr) ?_
        obtain ⟨f, hf, hf0⟩ := hv hr
        refine ar_ld i_L_law_445 rfl rfl ?_
        refine ar_push i_L_law_446 ?_
        refine av_ldl (j := 0) i_L_law_447 hf (by omega) (by omega) ?_
        rw [hf0]
        refine ar_ld i_L_law_448 rfl rfl ?_
        refine ar_ar i_L_law_450 rfl ?_
        refine ar_ar i_L_law_451 rfl ?_
        refine ar_ift i_L_law_452 rfl ((lg_cmp_eq _ _).mpr rfl) ?_
        refine ar_go i_L_law_457 ?_
        exact k S2 p2
      · refine ar_ift i_L_law_442 rfl (hr) ?_
        refine ar_go i_L_law_457 ?_
        exact k S2 p2
    refine ar_ld i_L_law_417 rfl rfl ?_
    refine ar_ld i_L_law_418 rfl rfl ?_
    refine ar_ld i_L_law_419 rfl rfl ?_
    refine ar_push i_L_law_421 ?_
    refine ar_ar i_L_law_422 rfl ?_
    rw [nI_1]
    refine av_ldi i_L_law_423 (h1) (by omega) (by omega) ?_
    refine av_cr i_L_law_424 rfl ⟨_, _, _, rfl, o1⟩ (Nat.le_of_ble_eq_true rfl) (hM S1 p) (fun S2 p2 => ?_)
    have k3 := k2 S2 p2
    rcases hL6 with e | ⟨u, e⟩ | ⟨u, e⟩
    · subst e
      refine ar_st i_L_law_427 rfl rfl ?_
      exact k3
    · subst e
      refine ar_st i_L_law_427 rfl rfl ?_
      exact k3
    · subst e
      refine ar_st i_L_law_427 rfl rfl ?_
      exact k3
  refine ar_ld i_L_law_404 rfl rfl ?_
  refine ar_ld i_L_law_405 rfl rfl ?_
  refine ar_ld i_L_law_406 rfl rfl ?_
  refine ar_push i_L_law_408 ?_
  refine ar_ar i_L_law_409 rfl ?_
  rw [nI_1]
  refine av_ldi i_L_law_410 (h0) (by omega) (by omega) ?_
  refine ar_ld i_L_law_411 rfl rfl ?_
  refine av_cr i_L_law_412 rfl trivial (Nat.le_of_ble_eq_true rfl) (hL) (fun S1 p => ?_)
  rcases hT with e | ⟨u, L6, e, hL6⟩
  · subst e
    refine ar_st i_L_law_415 rfl rfl ?_
    exact k1 S1 [] p (Or.inl rfl)
  · subst e
    rcases hL6 with e | ⟨u, e⟩ | ⟨u, e⟩
    · subst e
      refine ar_st i_L_law_415 rfl rfl ?_
      exact k1 S1 [] p (Or.inl rfl)
    · subst e
      refine ar_st i_L_law_415 rfl rfl ?_
      exact k1 S1 [(6, .int u)] p (Or.inr (Or.inl ⟨_, rfl⟩))
    · subst e
      refine ar_st i_L_law_415 rfl rfl ?_
      exact k1 S1 [(6, .long u)] p (Or.inr (Or.inr ⟨_, rfl⟩))
theorem b_errorPosition {d i n : Nat} {xs : Nat → Int32} {Q : aq_F} {S : aq_S} {r : Int32} {v : Int32} {P R : aq_S → Prop} {L : List (Nat × Value)} (hT : tl5 L) (h0 : S.2.2.2 0 = some (.inl (0, (n, .inl xs)))) (hi : i + 5 ≤ n) (hn : n ≤ 2560) (hL : aX (d + 1) 216 [.ref 1, .ref 71] S (fun o S' => o = .inl (some (.int r)) ∧ P S')) (hP0 : ∀ S1, P S1 → S1.2.2.2 0 = some (.inl (0, (n, .inl xs))) ∧ ∃ fs, S1.2.2.2 52 = some (.inr (7, fs))) (hM : ∀ S1, P S1 → aX (d + 1) 140 [.ref 52] S1 (fun o S' => o = .inl (some (.int v)) ∧ R S')) (hR : ∀ S2, R S2 → (∃ fs, S2.2.2.2 52 = some (.inr (7, .int r :: fs))) ∧ (r = 0 → oV S2 (v.toInt64))) (k : ∀ S2, R S2 → aG (d + 1) 251 Q 2846 [(0, .ref 0), (1, .ref 1), (2, .ref 52), (3, .ref 71), (4, .int (nI i)), (5, .int r), (6, .int v)] [] S2) : aG (d + 1) 251 Q 460 ((0, .ref 0) :: (1, .ref 1) :: (2, .ref 52) :: (3, .ref 71) :: (4, .int (nI i)) :: L) [] S := by
  have k1 : ∀ (S1 : aq_S) (L6 : List (Nat × Value)), P S1 → tl6 L6 → aG (d + 1) 251 Q 467 ((0, .ref 0) :: (1, .ref 1) :: (2, .ref 52) :: (3, .ref 71) :: (4, .int (nI i)) :: (5, .int r) :: L6) [] S1 := by
    intro S1 L6 p hL6
    obtain ⟨h1, fs1, o1⟩ := hP0 S1 p
    have k2 : ∀ S2, R S2 → aG (d + 1) 251 Q 473 [(0, .ref 0), (1, .ref 1), (2, .ref 52), (3, .ref 71), (4, .int (nI i)), (5, .int r), (6, .int v)] [] S2 := by
      intro S2 p2
      obtain ⟨⟨fs, o2⟩, hv⟩ := hR S2 p2
      refine ar_ld i_L_law_473 rfl rfl ?_
      refine ar_cr i_L_law_474 rfl ⟨_, _, _, rfl, o2⟩ (Nat.le_of_ble_eq_true rfl) (m_thrown d o2) ?_
      refine ar_ld i_L_law_477 rfl rfl ?_
      refine ar_ift i_L_law_479 rfl (rfl) ?_
      refine ar_ld i_L_law_484 rfl rfl ?_
      by_cases hr : r = 0
      · refine ar_iff i_L_law_486 rfl (fun z => z hr) ?_
        obtain ⟨f, hf, hf0⟩ := hv hr
        refine ar_ld i_L_law_489 rfl rfl ?_
        refine ar_push i_L_law_490 ?_
        refine av_ldl (j := 0) i_L_law_491 hf (by omega) (by omega) ?_
        rw [hf0]
        refine ar_ld i_L_law_492 rfl rfl ?_
        refine ar_ar i_L_law_494 rfl ?_
        refine ar_ar i_L_law_495 rfl ?_
        refine ar_ift i_L_law_496 rfl ((lg_cmp_eq _ _).mpr rfl) ?_
        refine ar_go i_L_law_501 ?_
        exact k S2 p2
      · refine ar_ift i_L_law_486 rfl (hr) ?_
        refine ar_go i_L_law_501 ?_
        exact k S2 p2
    refine ar_ld i_L_law_467 rfl rfl ?_
    refine av_cr i_L_law_468 rfl ⟨_, _, _, rfl, o1⟩ (Nat.le_of_ble_eq_true rfl) (hM S1 p) (fun S2 p2 => ?_)
    have k3 := k2 S2 p2
    rcases hL6 with e | ⟨u, e⟩ | ⟨u, e⟩
    · subst e
      refine ar_st i_L_law_471 rfl rfl ?_
      exact k3
    · subst e
      refine ar_st i_L_law_471 rfl rfl ?_
      exact k3
    · subst e
      refine ar_st i_L_law_471 rfl rfl ?_
      exact k3
  refine ar_ld i_L_law_460 rfl rfl ?_
  refine ar_ld i_L_law_461 rfl rfl ?_
  refine av_cr i_L_law_462 rfl trivial (Nat.le_of_ble_eq_true rfl) (hL) (fun S1 p => ?_)
  rcases hT with e | ⟨u, L6, e, hL6⟩
  · subst e
    refine ar_st i_L_law_465 rfl rfl ?_
    exact k1 S1 [] p (Or.inl rfl)
  · subst e
    rcases hL6 with e | ⟨u, e⟩ | ⟨u, e⟩
    · subst e
      refine ar_st i_L_law_465 rfl rfl ?_
      exact k1 S1 [] p (Or.inl rfl)
    · subst e
      refine ar_st i_L_law_465 rfl rfl ?_
      exact k1 S1 [(6, .int u)] p (Or.inr (Or.inl ⟨_, rfl⟩))
    · subst e
      refine ar_st i_L_law_465 rfl rfl ?_
      exact k1 S1 [(6, .long u)] p (Or.inr (Or.inr ⟨_, rfl⟩))
theorem b_length {d i n : Nat} {xs : Nat → Int32} {Q : aq_F} {S : aq_S} {r : Int32} {v : Int32} {P R : aq_S → Prop} {L : List (Nat × Value)} (hT : tl5 L) (h0 : S.2.2.2 0 = some (.inl (0, (n, .inl xs)))) (hi : i + 5 ≤ n) (hn : n ≤ 2560) (hL : aX (d + 1) 217 [.ref 1, .int (xs (i + 1)), .ref 71] S (fun o S' => o = .inl (some (.int r)) ∧ P S')) (hP0 : ∀ S1, P S1 → S1.2.2.2 0 = some (.inl (0, (n, .inl xs))) ∧ ∃ fs, S1.2.2.2 52 = some (.inr (7, fs))) (hM : ∀ S1, P S1 → aX (d + 1) 141 [.ref 52, .int (xs (i + 1))] S1 (fun o S' => o = .inl (some (.int v)) ∧ R S')) (hR : ∀ S2, R S2 → (∃ fs, S2.2.2.2 52 = some (.inr (7, .int r :: fs))) ∧ (r = 0 → oV S2 (v.toInt64))) (k : ∀ S2, R S2 → aG (d + 1) 251 Q 2846 [(0, .ref 0), (1, .ref 1), (2, .ref 52), (3, .ref 71), (4, .int (nI i)), (5, .int r), (6, .int v)] [] S2) : aG (d + 1) 251 Q 504 ((0, .ref 0) :: (1, .ref 1) :: (2, .ref 52) :: (3, .ref 71) :: (4, .int (nI i)) :: L) [] S := by
  have k1 : ∀ (S1 : aq_S) (L6 : List (Nat × Value)), P S1 → tl6 L6 → aG (d + 1) 251 Q 517 ((0, .ref 0) :: (1, .ref 1) :: (2, .ref 52) :: (3, .ref 71) :: (4, .int (nI i)) :: (5, .int r) :: L6) [] S1 := by
    intro S1 L6 p hL6
    obtain ⟨h1, fs1, o1⟩ := hP0 S1 p
    have k2 : ∀ S2, R S2 → aG (d + 1) 251 Q 529 [(0, .ref 0), (1, .ref 1), (2, .ref 52), (3, .ref 71), (4, .int (nI i)), (5, .int r), (6, .int v)] [] S2 := by
      intro S2 p2
      obtain ⟨⟨fs, o2⟩, hv⟩ := hR S2 p2
      refine ar_ld i_L_law_529 rfl rfl ?_
      refine ar_cr i_L_law_530 rfl ⟨_, _, _, rfl, o2⟩ (Nat.le_of_ble_eq_true rfl) (m_thrown d o2) ?_
      refine ar_ld i_L_law_533 rfl rfl ?_
      refine ar_ift i_L_law_535 rfl (rfl) ?_
      refine ar_ld i_L_law_540 rfl rfl ?_
      by_cases hr : r = 0
      · refine ar_iff i_L_law_542 rfl (fun z => z hr) ?_
        obtain ⟨f, hf, hf0⟩ := hv hr
        refine ar_ld i_L_law_545 rfl rfl ?_
        refine ar_push i_L_law_546 ?_
        refine av_ldl (j := 0) i_L_law_547 hf (by omega) (by omega) ?_
        rw [hf0]
        refine ar_ld i_L_law_548 rfl rfl ?_
        refine ar_ar i_L_law_550 rfl ?_
        refine ar_ar i_L_law_551 rfl ?_
        refine ar_ift i_L_law_552 rfl ((lg_cmp_eq _ _).mpr rfl) ?_
        refine ar_go i_L_law_557 ?_
        exact k S2 p2
      · refine ar_ift i_L_law_542 rfl (hr) ?_
        refine ar_go i_L_law_557 ?_
        exact k S2 p2
    refine ar_ld i_L_law_517 rfl rfl ?_
    refine ar_ld i_L_law_518 rfl rfl ?_
    refine ar_ld i_L_law_519 rfl rfl ?_
    refine ar_push i_L_law_521 ?_
    refine ar_ar i_L_law_522 rfl ?_
    rw [nI_1]
    refine av_ldi i_L_law_523 (h1) (by omega) (by omega) ?_
    refine av_cr i_L_law_524 rfl ⟨_, _, _, rfl, o1⟩ (Nat.le_of_ble_eq_true rfl) (hM S1 p) (fun S2 p2 => ?_)
    have k3 := k2 S2 p2
    rcases hL6 with e | ⟨u, e⟩ | ⟨u, e⟩
    · subst e
      refine ar_st i_L_law_527 rfl rfl ?_
      exact k3
    · subst e
      refine ar_st i_L_law_527 rfl rfl ?_
      exact k3
    · subst e
      refine ar_st i_L_law_527 rfl rfl ?_
      exact k3
  refine ar_ld i_L_law_504 rfl rfl ?_
  refine ar_ld i_L_law_505 rfl rfl ?_
  refine ar_ld i_L_law_506 rfl rfl ?_
  refine ar_push i_L_law_508 ?_
  refine ar_ar i_L_law_509 rfl ?_
  rw [nI_1]
  refine av_ldi i_L_law_510 (h0) (by omega) (by omega) ?_
  refine ar_ld i_L_law_511 rfl rfl ?_
  refine av_cr i_L_law_512 rfl trivial (Nat.le_of_ble_eq_true rfl) (hL) (fun S1 p => ?_)
  rcases hT with e | ⟨u, L6, e, hL6⟩
  · subst e
    refine ar_st i_L_law_515 rfl rfl ?_
    exact k1 S1 [] p (Or.inl rfl)
  · subst e
    rcases hL6 with e | ⟨u, e⟩ | ⟨u, e⟩
    · subst e
      refine ar_st i_L_law_515 rfl rfl ?_
      exact k1 S1 [] p (Or.inl rfl)
    · subst e
      refine ar_st i_L_law_515 rfl rfl ?_
      exact k1 S1 [(6, .int u)] p (Or.inr (Or.inl ⟨_, rfl⟩))
    · subst e
      refine ar_st i_L_law_515 rfl rfl ?_
      exact k1 S1 [(6, .long u)] p (Or.inr (Or.inr ⟨_, rfl⟩))
theorem b_symbol {d i n : Nat} {xs : Nat → Int32} {Q : aq_F} {S : aq_S} {r : Int32} {v : Int32} {P R : aq_S → Prop} {L : List (Nat × Value)} (hT : tl5 L) (h0 : S.2.2.2 0 = some (.inl (0, (n, .inl xs)))) (hi : i + 5 ≤ n) (hn : n ≤ 2560) (hL : aX (d + 1) 218 [.ref 1, .int (xs (i + 1)), .int (xs (i + 2)), .ref 71] S (fun o S' => o = .inl (some (.int r)) ∧ P S')) (hP0 : ∀ S1, P S1 → S1.2.2.2 0 = some (.inl (0, (n, .inl xs))) ∧ ∃ fs, S1.2.2.2 52 = some (.inr (7, fs))) (hM : ∀ S1, P S1 → aX (d + 1) 143 [.ref 52, .int (xs (i + 1)), .int (xs (i + 2))] S1 (fun o S' => o = .inl (some (.int v)) ∧ R S')) (hR : ∀ S2, R S2 → (∃ fs, S2.2.2.2 52 = some (.inr (7, .int r :: fs))) ∧ (r = 0 → oV S2 (v.toInt64))) (k : ∀ S2, R S2 → aG (d + 1) 251 Q 2846 [(0, .ref 0), (1, .ref 1), (2, .ref 52), (3, .ref 71), (4, .int (nI i)), (5, .int r), (6, .int v)] [] S2) : aG (d + 1) 251 Q 560 ((0, .ref 0) :: (1, .ref 1) :: (2, .ref 52) :: (3, .ref 71) :: (4, .int (nI i)) :: L) [] S := by
  have k1 : ∀ (S1 : aq_S) (L6 : List (Nat × Value)), P S1 → tl6 L6 → aG (d + 1) 251 Q 579 ((0, .ref 0) :: (1, .ref 1) :: (2, .ref 52) :: (3, .ref 71) :: (4, .int (nI i)) :: (5, .int r) :: L6) [] S1 := by
    intro S1 L6 p hL6
    obtain ⟨h1, fs1, o1⟩ := hP0 S1 p
    have k2 : ∀ S2, R S2 → aG (d + 1) 251 Q 597 [(0, .ref 0), (1, .ref 1), (2, .ref 52), (3, .ref 71), (4, .int (nI i)), (5, .int r), (6, .int v)] [] S2 := by
      intro S2 p2
      obtain ⟨⟨fs, o2⟩, hv⟩ := hR S2 p2
      refine ar_ld i_L_law_597 rfl rfl ?_
      refine ar_cr i_L_law_598 rfl ⟨_, _, _, rfl, o2⟩ (Nat.le_of_ble_eq_true rfl) (m_thrown d o2) ?_
      refine ar_ld i_L_law_601 rfl rfl ?_
      refine ar_ift i_L_law_603 rfl (rfl) ?_
      refine ar_ld i_L_law_608 rfl rfl ?_
      by_cases hr : r = 0
      · refine ar_iff i_L_law_610 rfl (fun z => z hr) ?_
        obtain ⟨f, hf, hf0⟩ := hv hr
        refine ar_ld i_L_law_613 rfl rfl ?_
        refine ar_push i_L_law_614 ?_
        refine av_ldl (j := 0) i_L_law_615 hf (by omega) (by omega) ?_
        rw [hf0]
        refine ar_ld i_L_law_616 rfl rfl ?_
        refine ar_ar i_L_law_618 rfl ?_
        refine ar_ar i_L_law_619 rfl ?_
        refine ar_ift i_L_law_620 rfl ((lg_cmp_eq _ _).mpr rfl) ?_
        refine ar_go i_L_law_625 ?_
        exact k S2 p2
      · refine ar_ift i_L_law_610 rfl (hr) ?_
        refine ar_go i_L_law_625 ?_
        exact k S2 p2
    refine ar_ld i_L_law_579 rfl rfl ?_
    refine ar_ld i_L_law_580 rfl rfl ?_
    refine ar_ld i_L_law_581 rfl rfl ?_
    refine ar_push i_L_law_583 ?_
    refine ar_ar i_L_law_584 rfl ?_
    rw [nI_1]
    refine av_ldi i_L_law_585 (h1) (by omega) (by omega) ?_
    refine ar_ld i_L_law_586 rfl rfl ?_
    refine ar_ld i_L_law_587 rfl rfl ?_
    refine ar_push i_L_law_589 ?_
    refine ar_ar i_L_law_590 rfl ?_
    rw [show (2 : Int32) = nI 2 from rfl, nI_add]
    refine av_ldi i_L_law_591 (h1) (by omega) (by omega) ?_
    refine av_cr i_L_law_592 rfl ⟨_, _, _, rfl, o1⟩ (Nat.le_of_ble_eq_true rfl) (hM S1 p) (fun S2 p2 => ?_)
    have k3 := k2 S2 p2
    rcases hL6 with e | ⟨u, e⟩ | ⟨u, e⟩
    · subst e
      refine ar_st i_L_law_595 rfl rfl ?_
      exact k3
    · subst e
      refine ar_st i_L_law_595 rfl rfl ?_
      exact k3
    · subst e
      refine ar_st i_L_law_595 rfl rfl ?_
      exact k3
  refine ar_ld i_L_law_560 rfl rfl ?_
  refine ar_ld i_L_law_561 rfl rfl ?_
  refine ar_ld i_L_law_562 rfl rfl ?_
  refine ar_push i_L_law_564 ?_
  refine ar_ar i_L_law_565 rfl ?_
  rw [nI_1]
  refine av_ldi i_L_law_566 (h0) (by omega) (by omega) ?_
  refine ar_ld i_L_law_567 rfl rfl ?_
  refine ar_ld i_L_law_568 rfl rfl ?_
  refine ar_push i_L_law_570 ?_
  refine ar_ar i_L_law_571 rfl ?_
  rw [show (2 : Int32) = nI 2 from rfl, nI_add]
  refine av_ldi i_L_law_572 (h0) (by omega) (by omega) ?_
  refine ar_ld i_L_law_573 rfl rfl ?_
  refine av_cr i_L_law_574 rfl trivial (Nat.le_of_ble_eq_true rfl) (hL) (fun S1 p => ?_)
  rcases hT with e | ⟨u, L6, e, hL6⟩
  · subst e
    refine ar_st i_L_law_577 rfl rfl ?_
    exact k1 S1 [] p (Or.inl rfl)
  · subst e
    rcases hL6 with e | ⟨u, e⟩ | ⟨u, e⟩
    · subst e
      refine ar_st i_L_law_577 rfl rfl ?_
      exact k1 S1 [] p (Or.inl rfl)
    · subst e
      refine ar_st i_L_law_577 rfl rfl ?_
      exact k1 S1 [(6, .int u)] p (Or.inr (Or.inl ⟨_, rfl⟩))
    · subst e
      refine ar_st i_L_law_577 rfl rfl ?_
      exact k1 S1 [(6, .long u)] p (Or.inr (Or.inr ⟨_, rfl⟩))
theorem b_setSymbol {d i n : Nat} {xs : Nat → Int32} {Q : aq_F} {S : aq_S} {r : Int32} {v : Int32} {P R : aq_S → Prop} {L : List (Nat × Value)} (hT : tl5 L) (h0 : S.2.2.2 0 = some (.inl (0, (n, .inl xs)))) (hi : i + 5 ≤ n) (hn : n ≤ 2560) (hL : aX (d + 1) 219 [.ref 1, .int (xs (i + 1)), .int (xs (i + 2)), .int (xs (i + 3)), .ref 71] S (fun o S' => o = .inl (some (.int r)) ∧ P S')) (hP0 : ∀ S1, P S1 → S1.2.2.2 0 = some (.inl (0, (n, .inl xs))) ∧ ∃ fs, S1.2.2.2 52 = some (.inr (7, fs))) (hM : ∀ S1, P S1 → aX (d + 1) 144 [.ref 52, .int (xs (i + 1)), .int (xs (i + 2)), .int (xs (i + 3))] S1 (fun o S' => o = .inl (some (.int v)) ∧ R S')) (hR : ∀ S2, R S2 → (∃ fs, S2.2.2.2 52 = some (.inr (7, .int r :: fs))) ∧ (r = 0 → oV S2 (v.toInt64))) (k : ∀ S2, R S2 → aG (d + 1) 251 Q 2846 [(0, .ref 0), (1, .ref 1), (2, .ref 52), (3, .ref 71), (4, .int (nI i)), (5, .int r), (6, .int v)] [] S2) : aG (d + 1) 251 Q 628 ((0, .ref 0) :: (1, .ref 1) :: (2, .ref 52) :: (3, .ref 71) :: (4, .int (nI i)) :: L) [] S := by
  have k1 : ∀ (S1 : aq_S) (L6 : List (Nat × Value)), P S1 → tl6 L6 → aG (d + 1) 251 Q 653 ((0, .ref 0) :: (1, .ref 1) :: (2, .ref 52) :: (3, .ref 71) :: (4, .int (nI i)) :: (5, .int r) :: L6) [] S1 := by
    intro S1 L6 p hL6
    obtain ⟨h1, fs1, o1⟩ := hP0 S1 p
    have k2 : ∀ S2, R S2 → aG (d + 1) 251 Q 677 [(0, .ref 0), (1, .ref 1), (2, .ref 52), (3, .ref 71), (4, .int (nI i)), (5, .int r), (6, .int v)] [] S2 := by
      intro S2 p2
      obtain ⟨⟨fs, o2⟩, hv⟩ := hR S2 p2
      refine ar_ld i_L_law_677 rfl rfl ?_
      refine ar_cr i_L_law_678 rfl ⟨_, _, _, rfl, o2⟩ (Nat.le_of_ble_eq_true rfl) (m_thrown d o2) ?_
      refine ar_ld i_L_law_681 rfl rfl ?_
      refine ar_ift i_L_law_683 rfl (rfl) ?_
      refine ar_ld i_L_law_688 rfl rfl ?_
      by_cases hr : r = 0
      · refine ar_iff i_L_law_690 rfl (fun z => z hr) ?_
        obtain ⟨f, hf, hf0⟩ := hv hr
        refine ar_ld i_L_law_693 rfl rfl ?_
        refine ar_push i_L_law_694 ?_
        refine av_ldl (j := 0) i_L_law_695 hf (by omega) (by omega) ?_
        rw [hf0]
        refine ar_ld i_L_law_696 rfl rfl ?_
        refine ar_ar i_L_law_698 rfl ?_
        refine ar_ar i_L_law_699 rfl ?_
        refine ar_ift i_L_law_700 rfl ((lg_cmp_eq _ _).mpr rfl) ?_
        refine ar_go i_L_law_705 ?_
        exact k S2 p2
      · refine ar_ift i_L_law_690 rfl (hr) ?_
        refine ar_go i_L_law_705 ?_
        exact k S2 p2
    refine ar_ld i_L_law_653 rfl rfl ?_
    refine ar_ld i_L_law_654 rfl rfl ?_
    refine ar_ld i_L_law_655 rfl rfl ?_
    refine ar_push i_L_law_657 ?_
    refine ar_ar i_L_law_658 rfl ?_
    rw [nI_1]
    refine av_ldi i_L_law_659 (h1) (by omega) (by omega) ?_
    refine ar_ld i_L_law_660 rfl rfl ?_
    refine ar_ld i_L_law_661 rfl rfl ?_
    refine ar_push i_L_law_663 ?_
    refine ar_ar i_L_law_664 rfl ?_
    rw [show (2 : Int32) = nI 2 from rfl, nI_add]
    refine av_ldi i_L_law_665 (h1) (by omega) (by omega) ?_
    refine ar_ld i_L_law_666 rfl rfl ?_
    refine ar_ld i_L_law_667 rfl rfl ?_
    refine ar_push i_L_law_669 ?_
    refine ar_ar i_L_law_670 rfl ?_
    rw [show (3 : Int32) = nI 3 from rfl, nI_add]
    refine av_ldi i_L_law_671 (h1) (by omega) (by omega) ?_
    refine av_cr i_L_law_672 rfl ⟨_, _, _, rfl, o1⟩ (Nat.le_of_ble_eq_true rfl) (hM S1 p) (fun S2 p2 => ?_)
    have k3 := k2 S2 p2
    rcases hL6 with e | ⟨u, e⟩ | ⟨u, e⟩
    · subst e
      refine ar_st i_L_law_675 rfl rfl ?_
      exact k3
    · subst e
      refine ar_st i_L_law_675 rfl rfl ?_
      exact k3
    · subst e
      refine ar_st i_L_law_675 rfl rfl ?_
      exact k3
  refine ar_ld i_L_law_628 rfl rfl ?_
  refine ar_ld i_L_law_629 rfl rfl ?_
  refine ar_ld i_L_law_630 rfl rfl ?_
  refine ar_push i_L_law_632 ?_
  refine ar_ar i_L_law_633 rfl ?_
  rw [nI_1]
  refine av_ldi i_L_law_634 (h0) (by omega) (by omega) ?_
  refine ar_ld i_L_law_635 rfl rfl ?_
  refine ar_ld i_L_law_636 rfl rfl ?_
  refine ar_push i_L_law_638 ?_
  refine ar_ar i_L_law_639 rfl ?_
  rw [show (2 : Int32) = nI 2 from rfl, nI_add]
  refine av_ldi i_L_law_640 (h0) (by omega) (by omega) ?_
  refine ar_ld i_L_law_641 rfl rfl ?_
  refine ar_ld i_L_law_642 rfl rfl ?_
  refine ar_push i_L_law_644 ?_
  refine ar_ar i_L_law_645 rfl ?_
  rw [show (3 : Int32) = nI 3 from rfl, nI_add]
  refine av_ldi i_L_law_646 (h0) (by omega) (by omega) ?_
  refine ar_ld i_L_law_647 rfl rfl ?_
  refine av_cr i_L_law_648 rfl trivial (Nat.le_of_ble_eq_true rfl) (hL) (fun S1 p => ?_)
  rcases hT with e | ⟨u, L6, e, hL6⟩
  · subst e
    refine ar_st i_L_law_651 rfl rfl ?_
    exact k1 S1 [] p (Or.inl rfl)
  · subst e
    rcases hL6 with e | ⟨u, e⟩ | ⟨u, e⟩
    · subst e
      refine ar_st i_L_law_651 rfl rfl ?_
      exact k1 S1 [] p (Or.inl rfl)
    · subst e
      refine ar_st i_L_law_651 rfl rfl ?_
      exact k1 S1 [(6, .int u)] p (Or.inr (Or.inl ⟨_, rfl⟩))
    · subst e
      refine ar_st i_L_law_651 rfl rfl ?_
      exact k1 S1 [(6, .long u)] p (Or.inr (Or.inr ⟨_, rfl⟩))
theorem b_clear {d i n : Nat} {xs : Nat → Int32} {Q : aq_F} {S : aq_S} {r : Int32} {v : Int32} {P R : aq_S → Prop} {L : List (Nat × Value)} (hT : tl5 L) (h0 : S.2.2.2 0 = some (.inl (0, (n, .inl xs)))) (hi : i + 5 ≤ n) (hn : n ≤ 2560) (hL : aX (d + 1) 220 [.ref 1, .int (xs (i + 1)), .ref 71] S (fun o S' => o = .inl (some (.int r)) ∧ P S')) (hP0 : ∀ S1, P S1 → S1.2.2.2 0 = some (.inl (0, (n, .inl xs))) ∧ ∃ fs, S1.2.2.2 52 = some (.inr (7, fs))) (hM : ∀ S1, P S1 → aX (d + 1) 145 [.ref 52, .int (xs (i + 1))] S1 (fun o S' => o = .inl (some (.int v)) ∧ R S')) (hR : ∀ S2, R S2 → (∃ fs, S2.2.2.2 52 = some (.inr (7, .int r :: fs))) ∧ (r = 0 → oV S2 (v.toInt64))) (k : ∀ S2, R S2 → aG (d + 1) 251 Q 2846 [(0, .ref 0), (1, .ref 1), (2, .ref 52), (3, .ref 71), (4, .int (nI i)), (5, .int r), (6, .int v)] [] S2) : aG (d + 1) 251 Q 708 ((0, .ref 0) :: (1, .ref 1) :: (2, .ref 52) :: (3, .ref 71) :: (4, .int (nI i)) :: L) [] S := by
  have k1 : ∀ (S1 : aq_S) (L6 : List (Nat × Value)), P S1 → tl6 L6 → aG (d + 1) 251 Q 721 ((0, .ref 0) :: (1, .ref 1) :: (2, .ref 52) :: (3, .ref 71) :: (4, .int (nI i)) :: (5, .int r) :: L6) [] S1 := by
    intro S1 L6 p hL6
    obtain ⟨h1, fs1, o1⟩ := hP0 S1 p
    have k2 : ∀ S2, R S2 → aG (d + 1) 251 Q 733 [(0, .ref 0), (1, .ref 1), (2, .ref 52), (3, .ref 71), (4, .int (nI i)), (5, .int r), (6, .int v)] [] S2 := by
      intro S2 p2
      obtain ⟨⟨fs, o2⟩, hv⟩ := hR S2 p2
      refine ar_ld i_L_law_733 rfl rfl ?_
      refine ar_cr i_L_law_734 rfl ⟨_, _, _, rfl, o2⟩ (Nat.le_of_ble_eq_true rfl) (m_thrown d o2) ?_
      refine ar_ld i_L_law_737 rfl rfl ?_
      refine ar_ift i_L_law_739 rfl (rfl) ?_
      refine ar_ld i_L_law_744 rfl rfl ?_
      by_cases hr : r = 0
      · refine ar_iff i_L_law_746 rfl (fun z => z hr) ?_
        obtain ⟨f, hf, hf0⟩ := hv hr
        refine ar_ld i_L_law_749 rfl rfl ?_
        refine ar_push i_L_law_750 ?_
        refine av_ldl (j := 0) i_L_law_751 hf (by omega) (by omega) ?_
        rw [hf0]
        refine ar_ld i_L_law_752 rfl rfl ?_
        refine ar_ar i_L_law_754 rfl ?_
        refine ar_ar i_L_law_755 rfl ?_
        refine ar_ift i_L_law_756 rfl ((lg_cmp_eq _ _).mpr rfl) ?_
        refine ar_go i_L_law_761 ?_
        exact k S2 p2
      · refine ar_ift i_L_law_746 rfl (hr) ?_
        refine ar_go i_L_law_761 ?_
        exact k S2 p2
    refine ar_ld i_L_law_721 rfl rfl ?_
    refine ar_ld i_L_law_722 rfl rfl ?_
    refine ar_ld i_L_law_723 rfl rfl ?_
    refine ar_push i_L_law_725 ?_
    refine ar_ar i_L_law_726 rfl ?_
    rw [nI_1]
    refine av_ldi i_L_law_727 (h1) (by omega) (by omega) ?_
    refine av_cr i_L_law_728 rfl ⟨_, _, _, rfl, o1⟩ (Nat.le_of_ble_eq_true rfl) (hM S1 p) (fun S2 p2 => ?_)
    have k3 := k2 S2 p2
    rcases hL6 with e | ⟨u, e⟩ | ⟨u, e⟩
    · subst e
      refine ar_st i_L_law_731 rfl rfl ?_
      exact k3
    · subst e
      refine ar_st i_L_law_731 rfl rfl ?_
      exact k3
    · subst e
      refine ar_st i_L_law_731 rfl rfl ?_
      exact k3
  refine ar_ld i_L_law_708 rfl rfl ?_
  refine ar_ld i_L_law_709 rfl rfl ?_
  refine ar_ld i_L_law_710 rfl rfl ?_
  refine ar_push i_L_law_712 ?_
  refine ar_ar i_L_law_713 rfl ?_
  rw [nI_1]
  refine av_ldi i_L_law_714 (h0) (by omega) (by omega) ?_
  refine ar_ld i_L_law_715 rfl rfl ?_
  refine av_cr i_L_law_716 rfl trivial (Nat.le_of_ble_eq_true rfl) (hL) (fun S1 p => ?_)
  rcases hT with e | ⟨u, L6, e, hL6⟩
  · subst e
    refine ar_st i_L_law_719 rfl rfl ?_
    exact k1 S1 [] p (Or.inl rfl)
  · subst e
    rcases hL6 with e | ⟨u, e⟩ | ⟨u, e⟩
    · subst e
      refine ar_st i_L_law_719 rfl rfl ?_
      exact k1 S1 [] p (Or.inl rfl)
    · subst e
      refine ar_st i_L_law_719 rfl rfl ?_
      exact k1 S1 [(6, .int u)] p (Or.inr (Or.inl ⟨_, rfl⟩))
    · subst e
      refine ar_st i_L_law_719 rfl rfl ?_
      exact k1 S1 [(6, .long u)] p (Or.inr (Or.inr ⟨_, rfl⟩))
theorem b_concatenate {d i n : Nat} {xs : Nat → Int32} {Q : aq_F} {S : aq_S} {r : Int32} {v : Int32} {P R : aq_S → Prop} {L : List (Nat × Value)} (hT : tl5 L) (h0 : S.2.2.2 0 = some (.inl (0, (n, .inl xs)))) (hi : i + 5 ≤ n) (hn : n ≤ 2560) (hL : aX (d + 1) 221 [.ref 1, .int (xs (i + 1)), .int (xs (i + 2)), .ref 71] S (fun o S' => o = .inl (some (.int r)) ∧ P S')) (hP0 : ∀ S1, P S1 → S1.2.2.2 0 = some (.inl (0, (n, .inl xs))) ∧ ∃ fs, S1.2.2.2 52 = some (.inr (7, fs))) (hM : ∀ S1, P S1 → aX (d + 1) 146 [.ref 52, .int (xs (i + 1)), .int (xs (i + 2))] S1 (fun o S' => o = .inl (some (.int v)) ∧ R S')) (hR : ∀ S2, R S2 → (∃ fs, S2.2.2.2 52 = some (.inr (7, .int r :: fs))) ∧ (r = 0 → oV S2 (v.toInt64))) (k : ∀ S2, R S2 → aG (d + 1) 251 Q 2846 [(0, .ref 0), (1, .ref 1), (2, .ref 52), (3, .ref 71), (4, .int (nI i)), (5, .int r), (6, .int v)] [] S2) : aG (d + 1) 251 Q 764 ((0, .ref 0) :: (1, .ref 1) :: (2, .ref 52) :: (3, .ref 71) :: (4, .int (nI i)) :: L) [] S := by
  have k1 : ∀ (S1 : aq_S) (L6 : List (Nat × Value)), P S1 → tl6 L6 → aG (d + 1) 251 Q 783 ((0, .ref 0) :: (1, .ref 1) :: (2, .ref 52) :: (3, .ref 71) :: (4, .int (nI i)) :: (5, .int r) :: L6) [] S1 := by
    intro S1 L6 p hL6
    obtain ⟨h1, fs1, o1⟩ := hP0 S1 p
    have k2 : ∀ S2, R S2 → aG (d + 1) 251 Q 801 [(0, .ref 0), (1, .ref 1), (2, .ref 52), (3, .ref 71), (4, .int (nI i)), (5, .int r), (6, .int v)] [] S2 := by
      intro S2 p2
      obtain ⟨⟨fs, o2⟩, hv⟩ := hR S2 p2
      refine ar_ld i_L_law_801 rfl rfl ?_
      refine ar_cr i_L_law_802 rfl ⟨_, _, _, rfl, o2⟩ (Nat.le_of_ble_eq_true rfl) (m_thrown d o2) ?_
      refine ar_ld i_L_law_805 rfl rfl ?_
      refine ar_ift i_L_law_807 rfl (rfl) ?_
      refine ar_ld i_L_law_812 rfl rfl ?_
      by_cases hr : r = 0
      · refine ar_iff i_L_law_814 rfl (fun z => z hr) ?_
        obtain ⟨f, hf, hf0⟩ := hv hr
        refine ar_ld i_L_law_817 rfl rfl ?_
        refine ar_push i_L_law_818 ?_
        refine av_ldl (j := 0) i_L_law_819 hf (by omega) (by omega) ?_
        rw [hf0]
        refine ar_ld i_L_law_820 rfl rfl ?_
        refine ar_ar i_L_law_822 rfl ?_
        refine ar_ar i_L_law_823 rfl ?_
        refine ar_ift i_L_law_824 rfl ((lg_cmp_eq _ _).mpr rfl) ?_
        refine ar_go i_L_law_829 ?_
        exact k S2 p2
      · refine ar_ift i_L_law_814 rfl (hr) ?_
        refine ar_go i_L_law_829 ?_
        exact k S2 p2
    refine ar_ld i_L_law_783 rfl rfl ?_
    refine ar_ld i_L_law_784 rfl rfl ?_
    refine ar_ld i_L_law_785 rfl rfl ?_
    refine ar_push i_L_law_787 ?_
    refine ar_ar i_L_law_788 rfl ?_
    rw [nI_1]
    refine av_ldi i_L_law_789 (h1) (by omega) (by omega) ?_
    refine ar_ld i_L_law_790 rfl rfl ?_
    refine ar_ld i_L_law_791 rfl rfl ?_
    refine ar_push i_L_law_793 ?_
    refine ar_ar i_L_law_794 rfl ?_
    rw [show (2 : Int32) = nI 2 from rfl, nI_add]
    refine av_ldi i_L_law_795 (h1) (by omega) (by omega) ?_
    refine av_cr i_L_law_796 rfl ⟨_, _, _, rfl, o1⟩ (Nat.le_of_ble_eq_true rfl) (hM S1 p) (fun S2 p2 => ?_)
    have k3 := k2 S2 p2
    rcases hL6 with e | ⟨u, e⟩ | ⟨u, e⟩
    · subst e
      refine ar_st i_L_law_799 rfl rfl ?_
      exact k3
    · subst e
      refine ar_st i_L_law_799 rfl rfl ?_
      exact k3
    · subst e
      refine ar_st i_L_law_799 rfl rfl ?_
      exact k3
  refine ar_ld i_L_law_764 rfl rfl ?_
  refine ar_ld i_L_law_765 rfl rfl ?_
  refine ar_ld i_L_law_766 rfl rfl ?_
  refine ar_push i_L_law_768 ?_
  refine ar_ar i_L_law_769 rfl ?_
  rw [nI_1]
  refine av_ldi i_L_law_770 (h0) (by omega) (by omega) ?_
  refine ar_ld i_L_law_771 rfl rfl ?_
  refine ar_ld i_L_law_772 rfl rfl ?_
  refine ar_push i_L_law_774 ?_
  refine ar_ar i_L_law_775 rfl ?_
  rw [show (2 : Int32) = nI 2 from rfl, nI_add]
  refine av_ldi i_L_law_776 (h0) (by omega) (by omega) ?_
  refine ar_ld i_L_law_777 rfl rfl ?_
  refine av_cr i_L_law_778 rfl trivial (Nat.le_of_ble_eq_true rfl) (hL) (fun S1 p => ?_)
  rcases hT with e | ⟨u, L6, e, hL6⟩
  · subst e
    refine ar_st i_L_law_781 rfl rfl ?_
    exact k1 S1 [] p (Or.inl rfl)
  · subst e
    rcases hL6 with e | ⟨u, e⟩ | ⟨u, e⟩
    · subst e
      refine ar_st i_L_law_781 rfl rfl ?_
      exact k1 S1 [] p (Or.inl rfl)
    · subst e
      refine ar_st i_L_law_781 rfl rfl ?_
      exact k1 S1 [(6, .int u)] p (Or.inr (Or.inl ⟨_, rfl⟩))
    · subst e
      refine ar_st i_L_law_781 rfl rfl ?_
      exact k1 S1 [(6, .long u)] p (Or.inr (Or.inr ⟨_, rfl⟩))
theorem b_reverse {d i n : Nat} {xs : Nat → Int32} {Q : aq_F} {S : aq_S} {r : Int32} {v : Int32} {P R : aq_S → Prop} {L : List (Nat × Value)} (hT : tl5 L) (h0 : S.2.2.2 0 = some (.inl (0, (n, .inl xs)))) (hi : i + 5 ≤ n) (hn : n ≤ 2560) (hL : aX (d + 1) 222 [.ref 1, .int (xs (i + 1)), .ref 71] S (fun o S' => o = .inl (some (.int r)) ∧ P S')) (hP0 : ∀ S1, P S1 → S1.2.2.2 0 = some (.inl (0, (n, .inl xs))) ∧ ∃ fs, S1.2.2.2 52 = some (.inr (7, fs))) (hM : ∀ S1, P S1 → aX (d + 1) 148 [.ref 52, .int (xs (i + 1))] S1 (fun o S' => o = .inl (some (.int v)) ∧ R S')) (hR : ∀ S2, R S2 → (∃ fs, S2.2.2.2 52 = some (.inr (7, .int r :: fs))) ∧ (r = 0 → oV S2 (if v = 0 then 0 else 1))) (k : ∀ S2, R S2 → aG (d + 1) 251 Q 2846 [(0, .ref 0), (1, .ref 1), (2, .ref 52), (3, .ref 71), (4, .int (nI i)), (5, .int r), (6, .int v)] [] S2) : aG (d + 1) 251 Q 832 ((0, .ref 0) :: (1, .ref 1) :: (2, .ref 52) :: (3, .ref 71) :: (4, .int (nI i)) :: L) [] S := by
  have k1 : ∀ (S1 : aq_S) (L6 : List (Nat × Value)), P S1 → tl6 L6 → aG (d + 1) 251 Q 845 ((0, .ref 0) :: (1, .ref 1) :: (2, .ref 52) :: (3, .ref 71) :: (4, .int (nI i)) :: (5, .int r) :: L6) [] S1 := by
    intro S1 L6 p hL6
    obtain ⟨h1, fs1, o1⟩ := hP0 S1 p
    have k2 : ∀ S2, R S2 → aG (d + 1) 251 Q 857 [(0, .ref 0), (1, .ref 1), (2, .ref 52), (3, .ref 71), (4, .int (nI i)), (5, .int r), (6, .int v)] [] S2 := by
      intro S2 p2
      obtain ⟨⟨fs, o2⟩, hv⟩ := hR S2 p2
      refine ar_ld i_L_law_857 rfl rfl ?_
      refine ar_cr i_L_law_858 rfl ⟨_, _, _, rfl, o2⟩ (Nat.le_of_ble_eq_true rfl) (m_thrown d o2) ?_
      refine ar_ld i_L_law_861 rfl rfl ?_
      refine ar_ift i_L_law_863 rfl (rfl) ?_
      refine ar_ld i_L_law_868 rfl rfl ?_
      by_cases hr : r = 0
      · refine ar_iff i_L_law_870 rfl (fun z => z hr) ?_
        obtain ⟨f, hf, hf0⟩ := hv hr
        refine ar_ld i_L_law_873 rfl rfl ?_
        refine ar_push i_L_law_874 ?_
        refine av_ldl (j := 0) i_L_law_875 hf (by omega) (by omega) ?_
        rw [hf0]
        refine ar_ld i_L_law_876 rfl rfl ?_
        by_cases hv0 : v = 0
        · refine ar_ift i_L_law_878 rfl (hv0) ?_
          rw [if_pos hv0]
          refine ar_push i_L_law_885 ?_
          refine ar_ar i_L_law_886 rfl ?_
          refine ar_ift i_L_law_887 rfl ((lg_cmp_eq _ _).mpr rfl) ?_
          refine ar_go i_L_law_892 ?_
          exact k S2 p2
        · refine ar_iff i_L_law_878 rfl (hv0) ?_
          rw [if_neg hv0]
          refine ar_push i_L_law_881 ?_
          refine ar_go i_L_law_882 ?_
          refine ar_ar i_L_law_886 rfl ?_
          refine ar_ift i_L_law_887 rfl ((lg_cmp_eq _ _).mpr rfl) ?_
          refine ar_go i_L_law_892 ?_
          exact k S2 p2
      · refine ar_ift i_L_law_870 rfl (hr) ?_
        refine ar_go i_L_law_892 ?_
        exact k S2 p2
    refine ar_ld i_L_law_845 rfl rfl ?_
    refine ar_ld i_L_law_846 rfl rfl ?_
    refine ar_ld i_L_law_847 rfl rfl ?_
    refine ar_push i_L_law_849 ?_
    refine ar_ar i_L_law_850 rfl ?_
    rw [nI_1]
    refine av_ldi i_L_law_851 (h1) (by omega) (by omega) ?_
    refine av_cr i_L_law_852 rfl ⟨_, _, _, rfl, o1⟩ (Nat.le_of_ble_eq_true rfl) (hM S1 p) (fun S2 p2 => ?_)
    have k3 := k2 S2 p2
    rcases hL6 with e | ⟨u, e⟩ | ⟨u, e⟩
    · subst e
      refine ar_st i_L_law_855 rfl rfl ?_
      exact k3
    · subst e
      refine ar_st i_L_law_855 rfl rfl ?_
      exact k3
    · subst e
      refine ar_st i_L_law_855 rfl rfl ?_
      exact k3
  refine ar_ld i_L_law_832 rfl rfl ?_
  refine ar_ld i_L_law_833 rfl rfl ?_
  refine ar_ld i_L_law_834 rfl rfl ?_
  refine ar_push i_L_law_836 ?_
  refine ar_ar i_L_law_837 rfl ?_
  rw [nI_1]
  refine av_ldi i_L_law_838 (h0) (by omega) (by omega) ?_
  refine ar_ld i_L_law_839 rfl rfl ?_
  refine av_cr i_L_law_840 rfl trivial (Nat.le_of_ble_eq_true rfl) (hL) (fun S1 p => ?_)
  rcases hT with e | ⟨u, L6, e, hL6⟩
  · subst e
    refine ar_st i_L_law_843 rfl rfl ?_
    exact k1 S1 [] p (Or.inl rfl)
  · subst e
    rcases hL6 with e | ⟨u, e⟩ | ⟨u, e⟩
    · subst e
      refine ar_st i_L_law_843 rfl rfl ?_
      exact k1 S1 [] p (Or.inl rfl)
    · subst e
      refine ar_st i_L_law_843 rfl rfl ?_
      exact k1 S1 [(6, .int u)] p (Or.inr (Or.inl ⟨_, rfl⟩))
    · subst e
      refine ar_st i_L_law_843 rfl rfl ?_
      exact k1 S1 [(6, .long u)] p (Or.inr (Or.inr ⟨_, rfl⟩))
theorem b_rotate {d i n : Nat} {xs : Nat → Int32} {Q : aq_F} {S : aq_S} {r : Int32} {v : Int32} {P R : aq_S → Prop} {L : List (Nat × Value)} (hT : tl5 L) (h0 : S.2.2.2 0 = some (.inl (0, (n, .inl xs)))) (hi : i + 5 ≤ n) (hn : n ≤ 2560) (hL : aX (d + 1) 223 [.ref 1, .int (xs (i + 1)), .int (xs (i + 2)), .ref 71] S (fun o S' => o = .inl (some (.int r)) ∧ P S')) (hP0 : ∀ S1, P S1 → S1.2.2.2 0 = some (.inl (0, (n, .inl xs))) ∧ ∃ fs, S1.2.2.2 52 = some (.inr (7, fs))) (hM : ∀ S1, P S1 → aX (d + 1) 149 [.ref 52, .int (xs (i + 1)), .int (xs (i + 2))] S1 (fun o S' => o = .inl (some (.int v)) ∧ R S')) (hR : ∀ S2, R S2 → (∃ fs, S2.2.2.2 52 = some (.inr (7, .int r :: fs))) ∧ (r = 0 → oV S2 (if v = 0 then 0 else 1))) (k : ∀ S2, R S2 → aG (d + 1) 251 Q 2846 [(0, .ref 0), (1, .ref 1), (2, .ref 52), (3, .ref 71), (4, .int (nI i)), (5, .int r), (6, .int v)] [] S2) : aG (d + 1) 251 Q 895 ((0, .ref 0) :: (1, .ref 1) :: (2, .ref 52) :: (3, .ref 71) :: (4, .int (nI i)) :: L) [] S := by
  have k1 : ∀ (S1 : aq_S) (L6 : List (Nat × Value)), P S1 → tl6 L6 → aG (d + 1) 251 Q 914 ((0, .ref 0) :: (1, .ref 1) :: (2, .ref 52) :: (3, .ref 71) :: (4, .int (nI i)) :: (5, .int r) :: L6) [] S1 := by
    intro S1 L6 p hL6
    obtain ⟨h1, fs1, o1⟩ := hP0 S1 p
    have k2 : ∀ S2, R S2 → aG (d + 1) 251 Q 932 [(0, .ref 0), (1, .ref 1), (2, .ref 52), (3, .ref 71), (4, .int (nI i)), (5, .int r), (6, .int v)] [] S2 := by
      intro S2 p2
      obtain ⟨⟨fs, o2⟩, hv⟩ := hR S2 p2
      refine ar_ld i_L_law_932 rfl rfl ?_
      refine ar_cr i_L_law_933 rfl ⟨_, _, _, rfl, o2⟩ (Nat.le_of_ble_eq_true rfl) (m_thrown d o2) ?_
      refine ar_ld i_L_law_936 rfl rfl ?_
      refine ar_ift i_L_law_938 rfl (rfl) ?_
      refine ar_ld i_L_law_943 rfl rfl ?_
      by_cases hr : r = 0
      · refine ar_iff i_L_law_945 rfl (fun z => z hr) ?_
        obtain ⟨f, hf, hf0⟩ := hv hr
        refine ar_ld i_L_law_948 rfl rfl ?_
        refine ar_push i_L_law_949 ?_
        refine av_ldl (j := 0) i_L_law_950 hf (by omega) (by omega) ?_
        rw [hf0]
        refine ar_ld i_L_law_951 rfl rfl ?_
        by_cases hv0 : v = 0
        · refine ar_ift i_L_law_953 rfl (hv0) ?_
          rw [if_pos hv0]
          refine ar_push i_L_law_960 ?_
          refine ar_ar i_L_law_961 rfl ?_
          refine ar_ift i_L_law_962 rfl ((lg_cmp_eq _ _).mpr rfl) ?_
          refine ar_go i_L_law_967 ?_
          exact k S2 p2
        · refine ar_iff i_L_law_953 rfl (hv0) ?_
          rw [if_neg hv0]
          refine ar_push i_L_law_956 ?_
          refine ar_go i_L_law_957 ?_
          refine ar_ar i_L_law_961 rfl ?_
          refine ar_ift i_L_law_962 rfl ((lg_cmp_eq _ _).mpr rfl) ?_
          refine ar_go i_L_law_967 ?_
          exact k S2 p2
      · refine ar_ift i_L_law_945 rfl (hr) ?_
        refine ar_go i_L_law_967 ?_
        exact k S2 p2
    refine ar_ld i_L_law_914 rfl rfl ?_
    refine ar_ld i_L_law_915 rfl rfl ?_
    refine ar_ld i_L_law_916 rfl rfl ?_
    refine ar_push i_L_law_918 ?_
    refine ar_ar i_L_law_919 rfl ?_
    rw [nI_1]
    refine av_ldi i_L_law_920 (h1) (by omega) (by omega) ?_
    refine ar_ld i_L_law_921 rfl rfl ?_
    refine ar_ld i_L_law_922 rfl rfl ?_
    refine ar_push i_L_law_924 ?_
    refine ar_ar i_L_law_925 rfl ?_
    rw [show (2 : Int32) = nI 2 from rfl, nI_add]
    refine av_ldi i_L_law_926 (h1) (by omega) (by omega) ?_
    refine av_cr i_L_law_927 rfl ⟨_, _, _, rfl, o1⟩ (Nat.le_of_ble_eq_true rfl) (hM S1 p) (fun S2 p2 => ?_)
    have k3 := k2 S2 p2
    rcases hL6 with e | ⟨u, e⟩ | ⟨u, e⟩
    · subst e
      refine ar_st i_L_law_930 rfl rfl ?_
      exact k3
    · subst e
      refine ar_st i_L_law_930 rfl rfl ?_
      exact k3
    · subst e
      refine ar_st i_L_law_930 rfl rfl ?_
      exact k3
  refine ar_ld i_L_law_895 rfl rfl ?_
  refine ar_ld i_L_law_896 rfl rfl ?_
  refine ar_ld i_L_law_897 rfl rfl ?_
  refine ar_push i_L_law_899 ?_
  refine ar_ar i_L_law_900 rfl ?_
  rw [nI_1]
  refine av_ldi i_L_law_901 (h0) (by omega) (by omega) ?_
  refine ar_ld i_L_law_902 rfl rfl ?_
  refine ar_ld i_L_law_903 rfl rfl ?_
  refine ar_push i_L_law_905 ?_
  refine ar_ar i_L_law_906 rfl ?_
  rw [show (2 : Int32) = nI 2 from rfl, nI_add]
  refine av_ldi i_L_law_907 (h0) (by omega) (by omega) ?_
  refine ar_ld i_L_law_908 rfl rfl ?_
  refine av_cr i_L_law_909 rfl trivial (Nat.le_of_ble_eq_true rfl) (hL) (fun S1 p => ?_)
  rcases hT with e | ⟨u, L6, e, hL6⟩
  · subst e
    refine ar_st i_L_law_912 rfl rfl ?_
    exact k1 S1 [] p (Or.inl rfl)
  · subst e
    rcases hL6 with e | ⟨u, e⟩ | ⟨u, e⟩
    · subst e
      refine ar_st i_L_law_912 rfl rfl ?_
      exact k1 S1 [] p (Or.inl rfl)
    · subst e
      refine ar_st i_L_law_912 rfl rfl ?_
      exact k1 S1 [(6, .int u)] p (Or.inr (Or.inl ⟨_, rfl⟩))
    · subst e
      refine ar_st i_L_law_912 rfl rfl ?_
      exact k1 S1 [(6, .long u)] p (Or.inr (Or.inr ⟨_, rfl⟩))
theorem b_holes {d i n : Nat} {xs : Nat → Int32} {Q : aq_F} {S : aq_S} {r : Int32} {v : Int32} {P R : aq_S → Prop} {L : List (Nat × Value)} (hT : tl5 L) (h0 : S.2.2.2 0 = some (.inl (0, (n, .inl xs)))) (hi : i + 5 ≤ n) (hn : n ≤ 2560) (hL : aX (d + 1) 224 [.ref 1, .int (xs (i + 1)), .ref 71] S (fun o S' => o = .inl (some (.int r)) ∧ P S')) (hP0 : ∀ S1, P S1 → S1.2.2.2 0 = some (.inl (0, (n, .inl xs))) ∧ ∃ fs, S1.2.2.2 52 = some (.inr (7, fs))) (hM : ∀ S1, P S1 → aX (d + 1) 151 [.ref 52, .int (xs (i + 1))] S1 (fun o S' => o = .inl (some (.int v)) ∧ R S')) (hR : ∀ S2, R S2 → (∃ fs, S2.2.2.2 52 = some (.inr (7, .int r :: fs))) ∧ (r = 0 → oV S2 (v.toInt64))) (k : ∀ S2, R S2 → aG (d + 1) 251 Q 2846 [(0, .ref 0), (1, .ref 1), (2, .ref 52), (3, .ref 71), (4, .int (nI i)), (5, .int r), (6, .int v)] [] S2) : aG (d + 1) 251 Q 970 ((0, .ref 0) :: (1, .ref 1) :: (2, .ref 52) :: (3, .ref 71) :: (4, .int (nI i)) :: L) [] S := by
  have k1 : ∀ (S1 : aq_S) (L6 : List (Nat × Value)), P S1 → tl6 L6 → aG (d + 1) 251 Q 983 ((0, .ref 0) :: (1, .ref 1) :: (2, .ref 52) :: (3, .ref 71) :: (4, .int (nI i)) :: (5, .int r) :: L6) [] S1 := by
    intro S1 L6 p hL6
    obtain ⟨h1, fs1, o1⟩ := hP0 S1 p
    have k2 : ∀ S2, R S2 → aG (d + 1) 251 Q 995 [(0, .ref 0), (1, .ref 1), (2, .ref 52), (3, .ref 71), (4, .int (nI i)), (5, .int r), (6, .int v)] [] S2 := by
      intro S2 p2
      obtain ⟨⟨fs, o2⟩, hv⟩ := hR S2 p2
      refine ar_ld i_L_law_995 rfl rfl ?_
      refine ar_cr i_L_law_996 rfl ⟨_, _, _, rfl, o2⟩ (Nat.le_of_ble_eq_true rfl) (m_thrown d o2) ?_
      refine ar_ld i_L_law_999 rfl rfl ?_
      refine ar_ift i_L_law_1001 rfl (rfl) ?_
      refine ar_ld i_L_law_1006 rfl rfl ?_
      by_cases hr : r = 0
      · refine ar_iff i_L_law_1008 rfl (fun z => z hr) ?_
        obtain ⟨f, hf, hf0⟩ := hv hr
        refine ar_ld i_L_law_1011 rfl rfl ?_
        refine ar_push i_L_law_1012 ?_
        refine av_ldl (j := 0) i_L_law_1013 hf (by omega) (by omega) ?_
        rw [hf0]
        refine ar_ld i_L_law_1014 rfl rfl ?_
        refine ar_ar i_L_law_1016 rfl ?_
        refine ar_ar i_L_law_1017 rfl ?_
        refine ar_ift i_L_law_1018 rfl ((lg_cmp_eq _ _).mpr rfl) ?_
        refine ar_go i_L_law_1023 ?_
        exact k S2 p2
      · refine ar_ift i_L_law_1008 rfl (hr) ?_
        refine ar_go i_L_law_1023 ?_
        exact k S2 p2
    refine ar_ld i_L_law_983 rfl rfl ?_
    refine ar_ld i_L_law_984 rfl rfl ?_
    refine ar_ld i_L_law_985 rfl rfl ?_
    refine ar_push i_L_law_987 ?_
    refine ar_ar i_L_law_988 rfl ?_
    rw [nI_1]
    refine av_ldi i_L_law_989 (h1) (by omega) (by omega) ?_
    refine av_cr i_L_law_990 rfl ⟨_, _, _, rfl, o1⟩ (Nat.le_of_ble_eq_true rfl) (hM S1 p) (fun S2 p2 => ?_)
    have k3 := k2 S2 p2
    rcases hL6 with e | ⟨u, e⟩ | ⟨u, e⟩
    · subst e
      refine ar_st i_L_law_993 rfl rfl ?_
      exact k3
    · subst e
      refine ar_st i_L_law_993 rfl rfl ?_
      exact k3
    · subst e
      refine ar_st i_L_law_993 rfl rfl ?_
      exact k3
  refine ar_ld i_L_law_970 rfl rfl ?_
  refine ar_ld i_L_law_971 rfl rfl ?_
  refine ar_ld i_L_law_972 rfl rfl ?_
  refine ar_push i_L_law_974 ?_
  refine ar_ar i_L_law_975 rfl ?_
  rw [nI_1]
  refine av_ldi i_L_law_976 (h0) (by omega) (by omega) ?_
  refine ar_ld i_L_law_977 rfl rfl ?_
  refine av_cr i_L_law_978 rfl trivial (Nat.le_of_ble_eq_true rfl) (hL) (fun S1 p => ?_)
  rcases hT with e | ⟨u, L6, e, hL6⟩
  · subst e
    refine ar_st i_L_law_981 rfl rfl ?_
    exact k1 S1 [] p (Or.inl rfl)
  · subst e
    rcases hL6 with e | ⟨u, e⟩ | ⟨u, e⟩
    · subst e
      refine ar_st i_L_law_981 rfl rfl ?_
      exact k1 S1 [] p (Or.inl rfl)
    · subst e
      refine ar_st i_L_law_981 rfl rfl ?_
      exact k1 S1 [(6, .int u)] p (Or.inr (Or.inl ⟨_, rfl⟩))
    · subst e
      refine ar_st i_L_law_981 rfl rfl ?_
      exact k1 S1 [(6, .long u)] p (Or.inr (Or.inr ⟨_, rfl⟩))
theorem b_isCompatible {d i n : Nat} {xs : Nat → Int32} {Q : aq_F} {S : aq_S} {r : Int32} {v : Int32} {P R : aq_S → Prop} {L : List (Nat × Value)} (hT : tl5 L) (h0 : S.2.2.2 0 = some (.inl (0, (n, .inl xs)))) (hi : i + 5 ≤ n) (hn : n ≤ 2560) (hL : aX (d + 1) 225 [.ref 1, .int (xs (i + 1)), .int (xs (i + 2)), .ref 71] S (fun o S' => o = .inl (some (.int r)) ∧ P S')) (hP0 : ∀ S1, P S1 → S1.2.2.2 0 = some (.inl (0, (n, .inl xs))) ∧ ∃ fs, S1.2.2.2 52 = some (.inr (7, fs))) (hM : ∀ S1, P S1 → aX (d + 1) 155 [.ref 52, .int (xs (i + 1)), .int (xs (i + 2))] S1 (fun o S' => o = .inl (some (.int v)) ∧ R S')) (hR : ∀ S2, R S2 → (∃ fs, S2.2.2.2 52 = some (.inr (7, .int r :: fs))) ∧ (r = 0 → oV S2 (if v = 0 then 0 else 1))) (k : ∀ S2, R S2 → aG (d + 1) 251 Q 2846 [(0, .ref 0), (1, .ref 1), (2, .ref 52), (3, .ref 71), (4, .int (nI i)), (5, .int r), (6, .int v)] [] S2) : aG (d + 1) 251 Q 1026 ((0, .ref 0) :: (1, .ref 1) :: (2, .ref 52) :: (3, .ref 71) :: (4, .int (nI i)) :: L) [] S := by
  have k1 : ∀ (S1 : aq_S) (L6 : List (Nat × Value)), P S1 → tl6 L6 → aG (d + 1) 251 Q 1045 ((0, .ref 0) :: (1, .ref 1) :: (2, .ref 52) :: (3, .ref 71) :: (4, .int (nI i)) :: (5, .int r) :: L6) [] S1 := by
    intro S1 L6 p hL6
    obtain ⟨h1, fs1, o1⟩ := hP0 S1 p
    have k2 : ∀ S2, R S2 → aG (d + 1) 251 Q 1063 [(0, .ref 0), (1, .ref 1), (2, .ref 52), (3, .ref 71), (4, .int (nI i)), (5, .int r), (6, .int v)] [] S2 := by
      intro S2 p2
      obtain ⟨⟨fs, o2⟩, hv⟩ := hR S2 p2
      refine ar_ld i_L_law_1063 rfl rfl ?_
      refine ar_cr i_L_law_1064 rfl ⟨_, _, _, rfl, o2⟩ (Nat.le_of_ble_eq_true rfl) (m_thrown d o2) ?_
      refine ar_ld i_L_law_1067 rfl rfl ?_
      refine ar_ift i_L_law_1069 rfl (rfl) ?_
      refine ar_ld i_L_law_1074 rfl rfl ?_
      by_cases hr : r = 0
      · refine ar_iff i_L_law_1076 rfl (fun z => z hr) ?_
        obtain ⟨f, hf, hf0⟩ := hv hr
        refine ar_ld i_L_law_1079 rfl rfl ?_
        refine ar_push i_L_law_1080 ?_
        refine av_ldl (j := 0) i_L_law_1081 hf (by omega) (by omega) ?_
        rw [hf0]
        refine ar_ld i_L_law_1082 rfl rfl ?_
        by_cases hv0 : v = 0
        · refine ar_ift i_L_law_1084 rfl (hv0) ?_
          rw [if_pos hv0]
          refine ar_push i_L_law_1091 ?_
          refine ar_ar i_L_law_1092 rfl ?_
          refine ar_ift i_L_law_1093 rfl ((lg_cmp_eq _ _).mpr rfl) ?_
          refine ar_go i_L_law_1098 ?_
          exact k S2 p2
        · refine ar_iff i_L_law_1084 rfl (hv0) ?_
          rw [if_neg hv0]
          refine ar_push i_L_law_1087 ?_
          refine ar_go i_L_law_1088 ?_
          refine ar_ar i_L_law_1092 rfl ?_
          refine ar_ift i_L_law_1093 rfl ((lg_cmp_eq _ _).mpr rfl) ?_
          refine ar_go i_L_law_1098 ?_
          exact k S2 p2
      · refine ar_ift i_L_law_1076 rfl (hr) ?_
        refine ar_go i_L_law_1098 ?_
        exact k S2 p2
    refine ar_ld i_L_law_1045 rfl rfl ?_
    refine ar_ld i_L_law_1046 rfl rfl ?_
    refine ar_ld i_L_law_1047 rfl rfl ?_
    refine ar_push i_L_law_1049 ?_
    refine ar_ar i_L_law_1050 rfl ?_
    rw [nI_1]
    refine av_ldi i_L_law_1051 (h1) (by omega) (by omega) ?_
    refine ar_ld i_L_law_1052 rfl rfl ?_
    refine ar_ld i_L_law_1053 rfl rfl ?_
    refine ar_push i_L_law_1055 ?_
    refine ar_ar i_L_law_1056 rfl ?_
    rw [show (2 : Int32) = nI 2 from rfl, nI_add]
    refine av_ldi i_L_law_1057 (h1) (by omega) (by omega) ?_
    refine av_cr i_L_law_1058 rfl ⟨_, _, _, rfl, o1⟩ (Nat.le_of_ble_eq_true rfl) (hM S1 p) (fun S2 p2 => ?_)
    have k3 := k2 S2 p2
    rcases hL6 with e | ⟨u, e⟩ | ⟨u, e⟩
    · subst e
      refine ar_st i_L_law_1061 rfl rfl ?_
      exact k3
    · subst e
      refine ar_st i_L_law_1061 rfl rfl ?_
      exact k3
    · subst e
      refine ar_st i_L_law_1061 rfl rfl ?_
      exact k3
  refine ar_ld i_L_law_1026 rfl rfl ?_
  refine ar_ld i_L_law_1027 rfl rfl ?_
  refine ar_ld i_L_law_1028 rfl rfl ?_
  refine ar_push i_L_law_1030 ?_
  refine ar_ar i_L_law_1031 rfl ?_
  rw [nI_1]
  refine av_ldi i_L_law_1032 (h0) (by omega) (by omega) ?_
  refine ar_ld i_L_law_1033 rfl rfl ?_
  refine ar_ld i_L_law_1034 rfl rfl ?_
  refine ar_push i_L_law_1036 ?_
  refine ar_ar i_L_law_1037 rfl ?_
  rw [show (2 : Int32) = nI 2 from rfl, nI_add]
  refine av_ldi i_L_law_1038 (h0) (by omega) (by omega) ?_
  refine ar_ld i_L_law_1039 rfl rfl ?_
  refine av_cr i_L_law_1040 rfl trivial (Nat.le_of_ble_eq_true rfl) (hL) (fun S1 p => ?_)
  rcases hT with e | ⟨u, L6, e, hL6⟩
  · subst e
    refine ar_st i_L_law_1043 rfl rfl ?_
    exact k1 S1 [] p (Or.inl rfl)
  · subst e
    rcases hL6 with e | ⟨u, e⟩ | ⟨u, e⟩
    · subst e
      refine ar_st i_L_law_1043 rfl rfl ?_
      exact k1 S1 [] p (Or.inl rfl)
    · subst e
      refine ar_st i_L_law_1043 rfl rfl ?_
      exact k1 S1 [(6, .int u)] p (Or.inr (Or.inl ⟨_, rfl⟩))
    · subst e
      refine ar_st i_L_law_1043 rfl rfl ?_
      exact k1 S1 [(6, .long u)] p (Or.inr (Or.inr ⟨_, rfl⟩))
theorem b_isContained {d i n : Nat} {xs : Nat → Int32} {Q : aq_F} {S : aq_S} {r : Int32} {v : Int32} {P R : aq_S → Prop} {L : List (Nat × Value)} (hT : tl5 L) (h0 : S.2.2.2 0 = some (.inl (0, (n, .inl xs)))) (hi : i + 5 ≤ n) (hn : n ≤ 2560) (hL : aX (d + 1) 226 [.ref 1, .int (xs (i + 1)), .int (xs (i + 2)), .ref 71] S (fun o S' => o = .inl (some (.int r)) ∧ P S')) (hP0 : ∀ S1, P S1 → S1.2.2.2 0 = some (.inl (0, (n, .inl xs))) ∧ ∃ fs, S1.2.2.2 52 = some (.inr (7, fs))) (hM : ∀ S1, P S1 → aX (d + 1) 156 [.ref 52, .int (xs (i + 1)), .int (xs (i + 2))] S1 (fun o S' => o = .inl (some (.int v)) ∧ R S')) (hR : ∀ S2, R S2 → (∃ fs, S2.2.2.2 52 = some (.inr (7, .int r :: fs))) ∧ (r = 0 → oV S2 (if v = 0 then 0 else 1))) (k : ∀ S2, R S2 → aG (d + 1) 251 Q 2846 [(0, .ref 0), (1, .ref 1), (2, .ref 52), (3, .ref 71), (4, .int (nI i)), (5, .int r), (6, .int v)] [] S2) : aG (d + 1) 251 Q 1101 ((0, .ref 0) :: (1, .ref 1) :: (2, .ref 52) :: (3, .ref 71) :: (4, .int (nI i)) :: L) [] S := by
  have k1 : ∀ (S1 : aq_S) (L6 : List (Nat × Value)), P S1 → tl6 L6 → aG (d + 1) 251 Q 1120 ((0, .ref 0) :: (1, .ref 1) :: (2, .ref 52) :: (3, .ref 71) :: (4, .int (nI i)) :: (5, .int r) :: L6) [] S1 := by
    intro S1 L6 p hL6
    obtain ⟨h1, fs1, o1⟩ := hP0 S1 p
    have k2 : ∀ S2, R S2 → aG (d + 1) 251 Q 1138 [(0, .ref 0), (1, .ref 1), (2, .ref 52), (3, .ref 71), (4, .int (nI i)), (5, .int r), (6, .int v)] [] S2 := by
      intro S2 p2
      obtain ⟨⟨fs, o2⟩, hv⟩ := hR S2 p2
      refine ar_ld i_L_law_1138 rfl rfl ?_
      refine ar_cr i_L_law_1139 rfl ⟨_, _, _, rfl, o2⟩ (Nat.le_of_ble_eq_true rfl) (m_thrown d o2) ?_
      refine ar_ld i_L_law_1142 rfl rfl ?_
      refine ar_ift i_L_law_1144 rfl (rfl) ?_
      refine ar_ld i_L_law_1149 rfl rfl ?_
      by_cases hr : r = 0
      · refine ar_iff i_L_law_1151 rfl (fun z => z hr) ?_
        obtain ⟨f, hf, hf0⟩ := hv hr
        refine ar_ld i_L_law_1154 rfl rfl ?_
        refine ar_push i_L_law_1155 ?_
        refine av_ldl (j := 0) i_L_law_1156 hf (by omega) (by omega) ?_
        rw [hf0]
        refine ar_ld i_L_law_1157 rfl rfl ?_
        by_cases hv0 : v = 0
        · refine ar_ift i_L_law_1159 rfl (hv0) ?_
          rw [if_pos hv0]
          refine ar_push i_L_law_1166 ?_
          refine ar_ar i_L_law_1167 rfl ?_
          refine ar_ift i_L_law_1168 rfl ((lg_cmp_eq _ _).mpr rfl) ?_
          refine ar_go i_L_law_1173 ?_
          exact k S2 p2
        · refine ar_iff i_L_law_1159 rfl (hv0) ?_
          rw [if_neg hv0]
          refine ar_push i_L_law_1162 ?_
          refine ar_go i_L_law_1163 ?_
          refine ar_ar i_L_law_1167 rfl ?_
          refine ar_ift i_L_law_1168 rfl ((lg_cmp_eq _ _).mpr rfl) ?_
          refine ar_go i_L_law_1173 ?_
          exact k S2 p2
      · refine ar_ift i_L_law_1151 rfl (hr) ?_
        refine ar_go i_L_law_1173 ?_
        exact k S2 p2
    refine ar_ld i_L_law_1120 rfl rfl ?_
    refine ar_ld i_L_law_1121 rfl rfl ?_
    refine ar_ld i_L_law_1122 rfl rfl ?_
    refine ar_push i_L_law_1124 ?_
    refine ar_ar i_L_law_1125 rfl ?_
    rw [nI_1]
    refine av_ldi i_L_law_1126 (h1) (by omega) (by omega) ?_
    refine ar_ld i_L_law_1127 rfl rfl ?_
    refine ar_ld i_L_law_1128 rfl rfl ?_
    refine ar_push i_L_law_1130 ?_
    refine ar_ar i_L_law_1131 rfl ?_
    rw [show (2 : Int32) = nI 2 from rfl, nI_add]
    refine av_ldi i_L_law_1132 (h1) (by omega) (by omega) ?_
    refine av_cr i_L_law_1133 rfl ⟨_, _, _, rfl, o1⟩ (Nat.le_of_ble_eq_true rfl) (hM S1 p) (fun S2 p2 => ?_)
    have k3 := k2 S2 p2
    rcases hL6 with e | ⟨u, e⟩ | ⟨u, e⟩
    · subst e
      refine ar_st i_L_law_1136 rfl rfl ?_
      exact k3
    · subst e
      refine ar_st i_L_law_1136 rfl rfl ?_
      exact k3
    · subst e
      refine ar_st i_L_law_1136 rfl rfl ?_
      exact k3
  refine ar_ld i_L_law_1101 rfl rfl ?_
  refine ar_ld i_L_law_1102 rfl rfl ?_
  refine ar_ld i_L_law_1103 rfl rfl ?_
  refine ar_push i_L_law_1105 ?_
  refine ar_ar i_L_law_1106 rfl ?_
  rw [nI_1]
  refine av_ldi i_L_law_1107 (h0) (by omega) (by omega) ?_
  refine ar_ld i_L_law_1108 rfl rfl ?_
  refine ar_ld i_L_law_1109 rfl rfl ?_
  refine ar_push i_L_law_1111 ?_
  refine ar_ar i_L_law_1112 rfl ?_
  rw [show (2 : Int32) = nI 2 from rfl, nI_add]
  refine av_ldi i_L_law_1113 (h0) (by omega) (by omega) ?_
  refine ar_ld i_L_law_1114 rfl rfl ?_
  refine av_cr i_L_law_1115 rfl trivial (Nat.le_of_ble_eq_true rfl) (hL) (fun S1 p => ?_)
  rcases hT with e | ⟨u, L6, e, hL6⟩
  · subst e
    refine ar_st i_L_law_1118 rfl rfl ?_
    exact k1 S1 [] p (Or.inl rfl)
  · subst e
    rcases hL6 with e | ⟨u, e⟩ | ⟨u, e⟩
    · subst e
      refine ar_st i_L_law_1118 rfl rfl ?_
      exact k1 S1 [] p (Or.inl rfl)
    · subst e
      refine ar_st i_L_law_1118 rfl rfl ?_
      exact k1 S1 [(6, .int u)] p (Or.inr (Or.inl ⟨_, rfl⟩))
    · subst e
      refine ar_st i_L_law_1118 rfl rfl ?_
      exact k1 S1 [(6, .long u)] p (Or.inr (Or.inr ⟨_, rfl⟩))
theorem b_conflict {d i n : Nat} {xs : Nat → Int32} {Q : aq_F} {S : aq_S} {r : Int32} {v : Int32} {P R : aq_S → Prop} {L : List (Nat × Value)} (hT : tl5 L) (h0 : S.2.2.2 0 = some (.inl (0, (n, .inl xs)))) (hi : i + 5 ≤ n) (hn : n ≤ 2560) (hL : aX (d + 1) 227 [.ref 1, .int (xs (i + 1)), .int (xs (i + 2)), .ref 71] S (fun o S' => o = .inl (some (.int r)) ∧ P S')) (hP0 : ∀ S1, P S1 → S1.2.2.2 0 = some (.inl (0, (n, .inl xs))) ∧ ∃ fs, S1.2.2.2 52 = some (.inr (7, fs))) (hM : ∀ S1, P S1 → aX (d + 1) 157 [.ref 52, .int (xs (i + 1)), .int (xs (i + 2))] S1 (fun o S' => o = .inl (some (.int v)) ∧ R S')) (hR : ∀ S2, R S2 → (∃ fs, S2.2.2.2 52 = some (.inr (7, .int r :: fs))) ∧ (r = 0 → oV S2 (v.toInt64))) (k : ∀ S2, R S2 → aG (d + 1) 251 Q 2846 [(0, .ref 0), (1, .ref 1), (2, .ref 52), (3, .ref 71), (4, .int (nI i)), (5, .int r), (6, .int v)] [] S2) : aG (d + 1) 251 Q 1176 ((0, .ref 0) :: (1, .ref 1) :: (2, .ref 52) :: (3, .ref 71) :: (4, .int (nI i)) :: L) [] S := by
  have k1 : ∀ (S1 : aq_S) (L6 : List (Nat × Value)), P S1 → tl6 L6 → aG (d + 1) 251 Q 1195 ((0, .ref 0) :: (1, .ref 1) :: (2, .ref 52) :: (3, .ref 71) :: (4, .int (nI i)) :: (5, .int r) :: L6) [] S1 := by
    intro S1 L6 p hL6
    obtain ⟨h1, fs1, o1⟩ := hP0 S1 p
    have k2 : ∀ S2, R S2 → aG (d + 1) 251 Q 1213 [(0, .ref 0), (1, .ref 1), (2, .ref 52), (3, .ref 71), (4, .int (nI i)), (5, .int r), (6, .int v)] [] S2 := by
      intro S2 p2
      obtain ⟨⟨fs, o2⟩, hv⟩ := hR S2 p2
      refine ar_ld i_L_law_1213 rfl rfl ?_
      refine ar_cr i_L_law_1214 rfl ⟨_, _, _, rfl, o2⟩ (Nat.le_of_ble_eq_true rfl) (m_thrown d o2) ?_
      refine ar_ld i_L_law_1217 rfl rfl ?_
      refine ar_ift i_L_law_1219 rfl (rfl) ?_
      refine ar_ld i_L_law_1224 rfl rfl ?_
      by_cases hr : r = 0
      · refine ar_iff i_L_law_1226 rfl (fun z => z hr) ?_
        obtain ⟨f, hf, hf0⟩ := hv hr
        refine ar_ld i_L_law_1229 rfl rfl ?_
        refine ar_push i_L_law_1230 ?_
        refine av_ldl (j := 0) i_L_law_1231 hf (by omega) (by omega) ?_
        rw [hf0]
        refine ar_ld i_L_law_1232 rfl rfl ?_
        refine ar_ar i_L_law_1234 rfl ?_
        refine ar_ar i_L_law_1235 rfl ?_
        refine ar_ift i_L_law_1236 rfl ((lg_cmp_eq _ _).mpr rfl) ?_
        refine ar_go i_L_law_1241 ?_
        exact k S2 p2
      · refine ar_ift i_L_law_1226 rfl (hr) ?_
        refine ar_go i_L_law_1241 ?_
        exact k S2 p2
    refine ar_ld i_L_law_1195 rfl rfl ?_
    refine ar_ld i_L_law_1196 rfl rfl ?_
    refine ar_ld i_L_law_1197 rfl rfl ?_
    refine ar_push i_L_law_1199 ?_
    refine ar_ar i_L_law_1200 rfl ?_
    rw [nI_1]
    refine av_ldi i_L_law_1201 (h1) (by omega) (by omega) ?_
    refine ar_ld i_L_law_1202 rfl rfl ?_
    refine ar_ld i_L_law_1203 rfl rfl ?_
    refine ar_push i_L_law_1205 ?_
    refine ar_ar i_L_law_1206 rfl ?_
    rw [show (2 : Int32) = nI 2 from rfl, nI_add]
    refine av_ldi i_L_law_1207 (h1) (by omega) (by omega) ?_
    refine av_cr i_L_law_1208 rfl ⟨_, _, _, rfl, o1⟩ (Nat.le_of_ble_eq_true rfl) (hM S1 p) (fun S2 p2 => ?_)
    have k3 := k2 S2 p2
    rcases hL6 with e | ⟨u, e⟩ | ⟨u, e⟩
    · subst e
      refine ar_st i_L_law_1211 rfl rfl ?_
      exact k3
    · subst e
      refine ar_st i_L_law_1211 rfl rfl ?_
      exact k3
    · subst e
      refine ar_st i_L_law_1211 rfl rfl ?_
      exact k3
  refine ar_ld i_L_law_1176 rfl rfl ?_
  refine ar_ld i_L_law_1177 rfl rfl ?_
  refine ar_ld i_L_law_1178 rfl rfl ?_
  refine ar_push i_L_law_1180 ?_
  refine ar_ar i_L_law_1181 rfl ?_
  rw [nI_1]
  refine av_ldi i_L_law_1182 (h0) (by omega) (by omega) ?_
  refine ar_ld i_L_law_1183 rfl rfl ?_
  refine ar_ld i_L_law_1184 rfl rfl ?_
  refine ar_push i_L_law_1186 ?_
  refine ar_ar i_L_law_1187 rfl ?_
  rw [show (2 : Int32) = nI 2 from rfl, nI_add]
  refine av_ldi i_L_law_1188 (h0) (by omega) (by omega) ?_
  refine ar_ld i_L_law_1189 rfl rfl ?_
  refine av_cr i_L_law_1190 rfl trivial (Nat.le_of_ble_eq_true rfl) (hL) (fun S1 p => ?_)
  rcases hT with e | ⟨u, L6, e, hL6⟩
  · subst e
    refine ar_st i_L_law_1193 rfl rfl ?_
    exact k1 S1 [] p (Or.inl rfl)
  · subst e
    rcases hL6 with e | ⟨u, e⟩ | ⟨u, e⟩
    · subst e
      refine ar_st i_L_law_1193 rfl rfl ?_
      exact k1 S1 [] p (Or.inl rfl)
    · subst e
      refine ar_st i_L_law_1193 rfl rfl ?_
      exact k1 S1 [(6, .int u)] p (Or.inr (Or.inl ⟨_, rfl⟩))
    · subst e
      refine ar_st i_L_law_1193 rfl rfl ?_
      exact k1 S1 [(6, .long u)] p (Or.inr (Or.inr ⟨_, rfl⟩))
theorem b_join {d i n : Nat} {xs : Nat → Int32} {Q : aq_F} {S : aq_S} {r : Int32} {v : Int32} {P R : aq_S → Prop} {L : List (Nat × Value)} (hT : tl5 L) (h0 : S.2.2.2 0 = some (.inl (0, (n, .inl xs)))) (hi : i + 5 ≤ n) (hn : n ≤ 2560) (hL : aX (d + 1) 228 [.ref 1, .int (xs (i + 1)), .int (xs (i + 2)), .int (xs (i + 3)), .ref 71] S (fun o S' => o = .inl (some (.int r)) ∧ P S')) (hP0 : ∀ S1, P S1 → S1.2.2.2 0 = some (.inl (0, (n, .inl xs))) ∧ ∃ fs, S1.2.2.2 52 = some (.inr (7, fs))) (hM : ∀ S1, P S1 → aX (d + 1) 158 [.ref 52, .int (xs (i + 1)), .int (xs (i + 2)), .int (xs (i + 3))] S1 (fun o S' => o = .inl (some (.int v)) ∧ R S')) (hR : ∀ S2, R S2 → (∃ fs, S2.2.2.2 52 = some (.inr (7, .int r :: fs))) ∧ (r = 0 → oV S2 (v.toInt64))) (k : ∀ S2, R S2 → aG (d + 1) 251 Q 2846 [(0, .ref 0), (1, .ref 1), (2, .ref 52), (3, .ref 71), (4, .int (nI i)), (5, .int r), (6, .int v)] [] S2) : aG (d + 1) 251 Q 1244 ((0, .ref 0) :: (1, .ref 1) :: (2, .ref 52) :: (3, .ref 71) :: (4, .int (nI i)) :: L) [] S := by
  have k1 : ∀ (S1 : aq_S) (L6 : List (Nat × Value)), P S1 → tl6 L6 → aG (d + 1) 251 Q 1269 ((0, .ref 0) :: (1, .ref 1) :: (2, .ref 52) :: (3, .ref 71) :: (4, .int (nI i)) :: (5, .int r) :: L6) [] S1 := by
    intro S1 L6 p hL6
    obtain ⟨h1, fs1, o1⟩ := hP0 S1 p
    have k2 : ∀ S2, R S2 → aG (d + 1) 251 Q 1293 [(0, .ref 0), (1, .ref 1), (2, .ref 52), (3, .ref 71), (4, .int (nI i)), (5, .int r), (6, .int v)] [] S2 := by
      intro S2 p2
      obtain ⟨⟨fs, o2⟩, hv⟩ := hR S2 p2
      refine ar_ld i_L_law_1293 rfl rfl ?_
      refine ar_cr i_L_law_1294 rfl ⟨_, _, _, rfl, o2⟩ (Nat.le_of_ble_eq_true rfl) (m_thrown d o2) ?_
      refine ar_ld i_L_law_1297 rfl rfl ?_
      refine ar_ift i_L_law_1299 rfl (rfl) ?_
      refine ar_ld i_L_law_1304 rfl rfl ?_
      by_cases hr : r = 0
      · refine ar_iff i_L_law_1306 rfl (fun z => z hr) ?_
        obtain ⟨f, hf, hf0⟩ := hv hr
        refine ar_ld i_L_law_1309 rfl rfl ?_
        refine ar_push i_L_law_1310 ?_
        refine av_ldl (j := 0) i_L_law_1311 hf (by omega) (by omega) ?_
        rw [hf0]
        refine ar_ld i_L_law_1312 rfl rfl ?_
        refine ar_ar i_L_law_1314 rfl ?_
        refine ar_ar i_L_law_1315 rfl ?_
        refine ar_ift i_L_law_1316 rfl ((lg_cmp_eq _ _).mpr rfl) ?_
        refine ar_go i_L_law_1321 ?_
        exact k S2 p2
      · refine ar_ift i_L_law_1306 rfl (hr) ?_
        refine ar_go i_L_law_1321 ?_
        exact k S2 p2
    refine ar_ld i_L_law_1269 rfl rfl ?_
    refine ar_ld i_L_law_1270 rfl rfl ?_
    refine ar_ld i_L_law_1271 rfl rfl ?_
    refine ar_push i_L_law_1273 ?_
    refine ar_ar i_L_law_1274 rfl ?_
    rw [nI_1]
    refine av_ldi i_L_law_1275 (h1) (by omega) (by omega) ?_
    refine ar_ld i_L_law_1276 rfl rfl ?_
    refine ar_ld i_L_law_1277 rfl rfl ?_
    refine ar_push i_L_law_1279 ?_
    refine ar_ar i_L_law_1280 rfl ?_
    rw [show (2 : Int32) = nI 2 from rfl, nI_add]
    refine av_ldi i_L_law_1281 (h1) (by omega) (by omega) ?_
    refine ar_ld i_L_law_1282 rfl rfl ?_
    refine ar_ld i_L_law_1283 rfl rfl ?_
    refine ar_push i_L_law_1285 ?_
    refine ar_ar i_L_law_1286 rfl ?_
    rw [show (3 : Int32) = nI 3 from rfl, nI_add]
    refine av_ldi i_L_law_1287 (h1) (by omega) (by omega) ?_
    refine av_cr i_L_law_1288 rfl ⟨_, _, _, rfl, o1⟩ (Nat.le_of_ble_eq_true rfl) (hM S1 p) (fun S2 p2 => ?_)
    have k3 := k2 S2 p2
    rcases hL6 with e | ⟨u, e⟩ | ⟨u, e⟩
    · subst e
      refine ar_st i_L_law_1291 rfl rfl ?_
      exact k3
    · subst e
      refine ar_st i_L_law_1291 rfl rfl ?_
      exact k3
    · subst e
      refine ar_st i_L_law_1291 rfl rfl ?_
      exact k3
  refine ar_ld i_L_law_1244 rfl rfl ?_
  refine ar_ld i_L_law_1245 rfl rfl ?_
  refine ar_ld i_L_law_1246 rfl rfl ?_
  refine ar_push i_L_law_1248 ?_
  refine ar_ar i_L_law_1249 rfl ?_
  rw [nI_1]
  refine av_ldi i_L_law_1250 (h0) (by omega) (by omega) ?_
  refine ar_ld i_L_law_1251 rfl rfl ?_
  refine ar_ld i_L_law_1252 rfl rfl ?_
  refine ar_push i_L_law_1254 ?_
  refine ar_ar i_L_law_1255 rfl ?_
  rw [show (2 : Int32) = nI 2 from rfl, nI_add]
  refine av_ldi i_L_law_1256 (h0) (by omega) (by omega) ?_
  refine ar_ld i_L_law_1257 rfl rfl ?_
  refine ar_ld i_L_law_1258 rfl rfl ?_
  refine ar_push i_L_law_1260 ?_
  refine ar_ar i_L_law_1261 rfl ?_
  rw [show (3 : Int32) = nI 3 from rfl, nI_add]
  refine av_ldi i_L_law_1262 (h0) (by omega) (by omega) ?_
  refine ar_ld i_L_law_1263 rfl rfl ?_
  refine av_cr i_L_law_1264 rfl trivial (Nat.le_of_ble_eq_true rfl) (hL) (fun S1 p => ?_)
  rcases hT with e | ⟨u, L6, e, hL6⟩
  · subst e
    refine ar_st i_L_law_1267 rfl rfl ?_
    exact k1 S1 [] p (Or.inl rfl)
  · subst e
    rcases hL6 with e | ⟨u, e⟩ | ⟨u, e⟩
    · subst e
      refine ar_st i_L_law_1267 rfl rfl ?_
      exact k1 S1 [] p (Or.inl rfl)
    · subst e
      refine ar_st i_L_law_1267 rfl rfl ?_
      exact k1 S1 [(6, .int u)] p (Or.inr (Or.inl ⟨_, rfl⟩))
    · subst e
      refine ar_st i_L_law_1267 rfl rfl ?_
      exact k1 S1 [(6, .long u)] p (Or.inr (Or.inr ⟨_, rfl⟩))
theorem b_isPeriod {d i n : Nat} {xs : Nat → Int32} {Q : aq_F} {S : aq_S} {r az : Int32} {v : Int32} {P R : aq_S → Prop} {L : List (Nat × Value)} (hT : tl5 L) (h0 : S.2.2.2 0 = some (.inl (0, (n, .inl xs)))) (hi : i + 5 ≤ n) (hn : n ≤ 2560) (haz : az = if xs (i + 3) = 0 then 0 else 1) (hL : aX (d + 1) 229 [.ref 1, .int (xs (i + 1)), .int (xs (i + 2)), .int az, .ref 71] S (fun o S' => o = .inl (some (.int r)) ∧ P S')) (hP0 : ∀ S1, P S1 → S1.2.2.2 0 = some (.inl (0, (n, .inl xs))) ∧ ∃ fs, S1.2.2.2 52 = some (.inr (7, fs))) (hM : ∀ S1, P S1 → aX (d + 1) 160 [.ref 52, .int (xs (i + 1)), .int (xs (i + 2)), .int az] S1 (fun o S' => o = .inl (some (.int v)) ∧ R S')) (hR : ∀ S2, R S2 → (∃ fs, S2.2.2.2 52 = some (.inr (7, .int r :: fs))) ∧ (r = 0 → oV S2 (if v = 0 then 0 else 1))) (k : ∀ S2, R S2 → aG (d + 1) 251 Q 2846 [(0, .ref 0), (1, .ref 1), (2, .ref 52), (3, .ref 71), (4, .int (nI i)), (5, .int r), (6, .int v)] [] S2) : aG (d + 1) 251 Q 1324 ((0, .ref 0) :: (1, .ref 1) :: (2, .ref 52) :: (3, .ref 71) :: (4, .int (nI i)) :: L) [] S := by
  by_cases hz : xs (i + 3) = 0
  · have e : az = 0 := by rw [haz, if_pos hz]
    subst e
    have k1 : ∀ (S1 : aq_S) (L6 : List (Nat × Value)), P S1 → tl6 L6 → aG (d + 1) 251 Q 1357 ((0, .ref 0) :: (1, .ref 1) :: (2, .ref 52) :: (3, .ref 71) :: (4, .int (nI i)) :: (5, .int r) :: L6) [] S1 := by
      intro S1 L6 p hL6
      obtain ⟨h1, fs1, o1⟩ := hP0 S1 p
      have k2 : ∀ S2, R S2 → aG (d + 1) 251 Q 1389 [(0, .ref 0), (1, .ref 1), (2, .ref 52), (3, .ref 71), (4, .int (nI i)), (5, .int r), (6, .int v)] [] S2 := by
        intro S2 p2
        obtain ⟨⟨fs, o2⟩, hv⟩ := hR S2 p2
        refine ar_ld i_L_law_1389 rfl rfl ?_
        refine ar_cr i_L_law_1390 rfl ⟨_, _, _, rfl, o2⟩ (Nat.le_of_ble_eq_true rfl) (m_thrown d o2) ?_
        refine ar_ld i_L_law_1393 rfl rfl ?_
        refine ar_ift i_L_law_1395 rfl (rfl) ?_
        refine ar_ld i_L_law_1400 rfl rfl ?_
        by_cases hr : r = 0
        · refine ar_iff i_L_law_1402 rfl (fun z => z hr) ?_
          obtain ⟨f, hf, hf0⟩ := hv hr
          refine ar_ld i_L_law_1405 rfl rfl ?_
          refine ar_push i_L_law_1406 ?_
          refine av_ldl (j := 0) i_L_law_1407 hf (by omega) (by omega) ?_
          rw [hf0]
          refine ar_ld i_L_law_1408 rfl rfl ?_
          by_cases hv0 : v = 0
          · refine ar_ift i_L_law_1410 rfl (hv0) ?_
            rw [if_pos hv0]
            refine ar_push i_L_law_1417 ?_
            refine ar_ar i_L_law_1418 rfl ?_
            refine ar_ift i_L_law_1419 rfl ((lg_cmp_eq _ _).mpr rfl) ?_
            refine ar_go i_L_law_1424 ?_
            exact k S2 p2
          · refine ar_iff i_L_law_1410 rfl (hv0) ?_
            rw [if_neg hv0]
            refine ar_push i_L_law_1413 ?_
            refine ar_go i_L_law_1414 ?_
            refine ar_ar i_L_law_1418 rfl ?_
            refine ar_ift i_L_law_1419 rfl ((lg_cmp_eq _ _).mpr rfl) ?_
            refine ar_go i_L_law_1424 ?_
            exact k S2 p2
        · refine ar_ift i_L_law_1402 rfl (hr) ?_
          refine ar_go i_L_law_1424 ?_
          exact k S2 p2
      refine ar_ld i_L_law_1357 rfl rfl ?_
      refine ar_ld i_L_law_1358 rfl rfl ?_
      refine ar_ld i_L_law_1359 rfl rfl ?_
      refine ar_push i_L_law_1361 ?_
      refine ar_ar i_L_law_1362 rfl ?_
      rw [nI_1]
      refine av_ldi i_L_law_1363 (h1) (by omega) (by omega) ?_
      refine ar_ld i_L_law_1364 rfl rfl ?_
      refine ar_ld i_L_law_1365 rfl rfl ?_
      refine ar_push i_L_law_1367 ?_
      refine ar_ar i_L_law_1368 rfl ?_
      rw [show (2 : Int32) = nI 2 from rfl, nI_add]
      refine av_ldi i_L_law_1369 (h1) (by omega) (by omega) ?_
      refine ar_ld i_L_law_1370 rfl rfl ?_
      refine ar_ld i_L_law_1371 rfl rfl ?_
      refine ar_push i_L_law_1373 ?_
      refine ar_ar i_L_law_1374 rfl ?_
      rw [show (3 : Int32) = nI 3 from rfl, nI_add]
      refine av_ldi i_L_law_1375 (h1) (by omega) (by omega) ?_
      refine ar_ift i_L_law_1376 rfl (hz) ?_
      refine ar_push i_L_law_1383 ?_
      refine av_cr i_L_law_1384 rfl ⟨_, _, _, rfl, o1⟩ (Nat.le_of_ble_eq_true rfl) (hM S1 p) (fun S2 p2 => ?_)
      have k3 := k2 S2 p2
      rcases hL6 with e | ⟨u, e⟩ | ⟨u, e⟩
      · subst e
        refine ar_st i_L_law_1387 rfl rfl ?_
        exact k3
      · subst e
        refine ar_st i_L_law_1387 rfl rfl ?_
        exact k3
      · subst e
        refine ar_st i_L_law_1387 rfl rfl ?_
        exact k3
    refine ar_ld i_L_law_1324 rfl rfl ?_
    refine ar_ld i_L_law_1325 rfl rfl ?_
    refine ar_ld i_L_law_1326 rfl rfl ?_
    refine ar_push i_L_law_1328 ?_
    refine ar_ar i_L_law_1329 rfl ?_
    rw [nI_1]
    refine av_ldi i_L_law_1330 (h0) (by omega) (by omega) ?_
    refine ar_ld i_L_law_1331 rfl rfl ?_
    refine ar_ld i_L_law_1332 rfl rfl ?_
    refine ar_push i_L_law_1334 ?_
    refine ar_ar i_L_law_1335 rfl ?_
    rw [show (2 : Int32) = nI 2 from rfl, nI_add]
    refine av_ldi i_L_law_1336 (h0) (by omega) (by omega) ?_
    refine ar_ld i_L_law_1337 rfl rfl ?_
    refine ar_ld i_L_law_1338 rfl rfl ?_
    refine ar_push i_L_law_1340 ?_
    refine ar_ar i_L_law_1341 rfl ?_
    rw [show (3 : Int32) = nI 3 from rfl, nI_add]
    refine av_ldi i_L_law_1342 (h0) (by omega) (by omega) ?_
    refine ar_ift i_L_law_1343 rfl (hz) ?_
    refine ar_push i_L_law_1350 ?_
    refine ar_ld i_L_law_1351 rfl rfl ?_
    refine av_cr i_L_law_1352 rfl trivial (Nat.le_of_ble_eq_true rfl) (hL) (fun S1 p => ?_)
    rcases hT with e | ⟨u, L6, e, hL6⟩
    · subst e
      refine ar_st i_L_law_1355 rfl rfl ?_
      exact k1 S1 [] p (Or.inl rfl)
    · subst e
      rcases hL6 with e | ⟨u, e⟩ | ⟨u, e⟩
      · subst e
        refine ar_st i_L_law_1355 rfl rfl ?_
        exact k1 S1 [] p (Or.inl rfl)
      · subst e
        refine ar_st i_L_law_1355 rfl rfl ?_
        exact k1 S1 [(6, .int u)] p (Or.inr (Or.inl ⟨_, rfl⟩))
      · subst e
        refine ar_st i_L_law_1355 rfl rfl ?_
        exact k1 S1 [(6, .long u)] p (Or.inr (Or.inr ⟨_, rfl⟩))
  · have e : az = 1 := by rw [haz, if_neg hz]
    subst e
    have k1 : ∀ (S1 : aq_S) (L6 : List (Nat × Value)), P S1 → tl6 L6 → aG (d + 1) 251 Q 1357 ((0, .ref 0) :: (1, .ref 1) :: (2, .ref 52) :: (3, .ref 71) :: (4, .int (nI i)) :: (5, .int r) :: L6) [] S1 := by
      intro S1 L6 p hL6
      obtain ⟨h1, fs1, o1⟩ := hP0 S1 p
      have k2 : ∀ S2, R S2 → aG (d + 1) 251 Q 1389 [(0, .ref 0), (1, .ref 1), (2, .ref 52), (3, .ref 71), (4, .int (nI i)), (5, .int r), (6, .int v)] [] S2 := by
        intro S2 p2
        obtain ⟨⟨fs, o2⟩, hv⟩ := hR S2 p2
        refine ar_ld i_L_law_1389 rfl rfl ?_
        refine ar_cr i_L_law_1390 rfl ⟨_, _, _, rfl, o2⟩ (Nat.le_of_ble_eq_true rfl) (m_thrown d o2) ?_
        refine ar_ld i_L_law_1393 rfl rfl ?_
        refine ar_ift i_L_law_1395 rfl (rfl) ?_
        refine ar_ld i_L_law_1400 rfl rfl ?_
        by_cases hr : r = 0
        · refine ar_iff i_L_law_1402 rfl (fun z => z hr) ?_
          obtain ⟨f, hf, hf0⟩ := hv hr
          refine ar_ld i_L_law_1405 rfl rfl ?_
          refine ar_push i_L_law_1406 ?_
          refine av_ldl (j := 0) i_L_law_1407 hf (by omega) (by omega) ?_
          rw [hf0]
          refine ar_ld i_L_law_1408 rfl rfl ?_
          by_cases hv0 : v = 0
          · refine ar_ift i_L_law_1410 rfl (hv0) ?_
            rw [if_pos hv0]
            refine ar_push i_L_law_1417 ?_
            refine ar_ar i_L_law_1418 rfl ?_
            refine ar_ift i_L_law_1419 rfl ((lg_cmp_eq _ _).mpr rfl) ?_
            refine ar_go i_L_law_1424 ?_
            exact k S2 p2
          · refine ar_iff i_L_law_1410 rfl (hv0) ?_
            rw [if_neg hv0]
            refine ar_push i_L_law_1413 ?_
            refine ar_go i_L_law_1414 ?_
            refine ar_ar i_L_law_1418 rfl ?_
            refine ar_ift i_L_law_1419 rfl ((lg_cmp_eq _ _).mpr rfl) ?_
            refine ar_go i_L_law_1424 ?_
            exact k S2 p2
        · refine ar_ift i_L_law_1402 rfl (hr) ?_
          refine ar_go i_L_law_1424 ?_
          exact k S2 p2
      refine ar_ld i_L_law_1357 rfl rfl ?_
      refine ar_ld i_L_law_1358 rfl rfl ?_
      refine ar_ld i_L_law_1359 rfl rfl ?_
      refine ar_push i_L_law_1361 ?_
      refine ar_ar i_L_law_1362 rfl ?_
      rw [nI_1]
      refine av_ldi i_L_law_1363 (h1) (by omega) (by omega) ?_
      refine ar_ld i_L_law_1364 rfl rfl ?_
      refine ar_ld i_L_law_1365 rfl rfl ?_
      refine ar_push i_L_law_1367 ?_
      refine ar_ar i_L_law_1368 rfl ?_
      rw [show (2 : Int32) = nI 2 from rfl, nI_add]
      refine av_ldi i_L_law_1369 (h1) (by omega) (by omega) ?_
      refine ar_ld i_L_law_1370 rfl rfl ?_
      refine ar_ld i_L_law_1371 rfl rfl ?_
      refine ar_push i_L_law_1373 ?_
      refine ar_ar i_L_law_1374 rfl ?_
      rw [show (3 : Int32) = nI 3 from rfl, nI_add]
      refine av_ldi i_L_law_1375 (h1) (by omega) (by omega) ?_
      refine ar_iff i_L_law_1376 rfl (hz) ?_
      refine ar_push i_L_law_1379 ?_
      refine ar_go i_L_law_1380 ?_
      refine av_cr i_L_law_1384 rfl ⟨_, _, _, rfl, o1⟩ (Nat.le_of_ble_eq_true rfl) (hM S1 p) (fun S2 p2 => ?_)
      have k3 := k2 S2 p2
      rcases hL6 with e | ⟨u, e⟩ | ⟨u, e⟩
      · subst e
        refine ar_st i_L_law_1387 rfl rfl ?_
        exact k3
      · subst e
        refine ar_st i_L_law_1387 rfl rfl ?_
        exact k3
      · subst e
        refine ar_st i_L_law_1387 rfl rfl ?_
        exact k3
    refine ar_ld i_L_law_1324 rfl rfl ?_
    refine ar_ld i_L_law_1325 rfl rfl ?_
    refine ar_ld i_L_law_1326 rfl rfl ?_
    refine ar_push i_L_law_1328 ?_
    refine ar_ar i_L_law_1329 rfl ?_
    rw [nI_1]
    refine av_ldi i_L_law_1330 (h0) (by omega) (by omega) ?_
    refine ar_ld i_L_law_1331 rfl rfl ?_
    refine ar_ld i_L_law_1332 rfl rfl ?_
    refine ar_push i_L_law_1334 ?_
    refine ar_ar i_L_law_1335 rfl ?_
    rw [show (2 : Int32) = nI 2 from rfl, nI_add]
    refine av_ldi i_L_law_1336 (h0) (by omega) (by omega) ?_
    refine ar_ld i_L_law_1337 rfl rfl ?_
    refine ar_ld i_L_law_1338 rfl rfl ?_
    refine ar_push i_L_law_1340 ?_
    refine ar_ar i_L_law_1341 rfl ?_
    rw [show (3 : Int32) = nI 3 from rfl, nI_add]
    refine av_ldi i_L_law_1342 (h0) (by omega) (by omega) ?_
    refine ar_iff i_L_law_1343 rfl (hz) ?_
    refine ar_push i_L_law_1346 ?_
    refine ar_go i_L_law_1347 ?_
    refine ar_ld i_L_law_1351 rfl rfl ?_
    refine av_cr i_L_law_1352 rfl trivial (Nat.le_of_ble_eq_true rfl) (hL) (fun S1 p => ?_)
    rcases hT with e | ⟨u, L6, e, hL6⟩
    · subst e
      refine ar_st i_L_law_1355 rfl rfl ?_
      exact k1 S1 [] p (Or.inl rfl)
    · subst e
      rcases hL6 with e | ⟨u, e⟩ | ⟨u, e⟩
      · subst e
        refine ar_st i_L_law_1355 rfl rfl ?_
        exact k1 S1 [] p (Or.inl rfl)
      · subst e
        refine ar_st i_L_law_1355 rfl rfl ?_
        exact k1 S1 [(6, .int u)] p (Or.inr (Or.inl ⟨_, rfl⟩))
      · subst e
        refine ar_st i_L_law_1355 rfl rfl ?_
        exact k1 S1 [(6, .long u)] p (Or.inr (Or.inr ⟨_, rfl⟩))
theorem b_smallestPeriod {d i n : Nat} {xs : Nat → Int32} {Q : aq_F} {S : aq_S} {r az : Int32} {v : Int32} {P R : aq_S → Prop} {L : List (Nat × Value)} (hT : tl5 L) (h0 : S.2.2.2 0 = some (.inl (0, (n, .inl xs)))) (hi : i + 5 ≤ n) (hn : n ≤ 2560) (haz : az = if xs (i + 2) = 0 then 0 else 1) (hL : aX (d + 1) 230 [.ref 1, .int (xs (i + 1)), .int az, .ref 71] S (fun o S' => o = .inl (some (.int r)) ∧ P S')) (hP0 : ∀ S1, P S1 → S1.2.2.2 0 = some (.inl (0, (n, .inl xs))) ∧ ∃ fs, S1.2.2.2 52 = some (.inr (7, fs))) (hM : ∀ S1, P S1 → aX (d + 1) 162 [.ref 52, .int (xs (i + 1)), .int az] S1 (fun o S' => o = .inl (some (.int v)) ∧ R S')) (hR : ∀ S2, R S2 → (∃ fs, S2.2.2.2 52 = some (.inr (7, .int r :: fs))) ∧ (r = 0 → oV S2 (v.toInt64))) (k : ∀ S2, R S2 → aG (d + 1) 251 Q 2846 [(0, .ref 0), (1, .ref 1), (2, .ref 52), (3, .ref 71), (4, .int (nI i)), (5, .int r), (6, .int v)] [] S2) : aG (d + 1) 251 Q 1427 ((0, .ref 0) :: (1, .ref 1) :: (2, .ref 52) :: (3, .ref 71) :: (4, .int (nI i)) :: L) [] S := by
  by_cases hz : xs (i + 2) = 0
  · have e : az = 0 := by rw [haz, if_pos hz]
    subst e
    have k1 : ∀ (S1 : aq_S) (L6 : List (Nat × Value)), P S1 → tl6 L6 → aG (d + 1) 251 Q 1454 ((0, .ref 0) :: (1, .ref 1) :: (2, .ref 52) :: (3, .ref 71) :: (4, .int (nI i)) :: (5, .int r) :: L6) [] S1 := by
      intro S1 L6 p hL6
      obtain ⟨h1, fs1, o1⟩ := hP0 S1 p
      have k2 : ∀ S2, R S2 → aG (d + 1) 251 Q 1480 [(0, .ref 0), (1, .ref 1), (2, .ref 52), (3, .ref 71), (4, .int (nI i)), (5, .int r), (6, .int v)] [] S2 := by
        intro S2 p2
        obtain ⟨⟨fs, o2⟩, hv⟩ := hR S2 p2
        refine ar_ld i_L_law_1480 rfl rfl ?_
        refine ar_cr i_L_law_1481 rfl ⟨_, _, _, rfl, o2⟩ (Nat.le_of_ble_eq_true rfl) (m_thrown d o2) ?_
        refine ar_ld i_L_law_1484 rfl rfl ?_
        refine ar_ift i_L_law_1486 rfl (rfl) ?_
        refine ar_ld i_L_law_1491 rfl rfl ?_
        by_cases hr : r = 0
        · refine ar_iff i_L_law_1493 rfl (fun z => z hr) ?_
          obtain ⟨f, hf, hf0⟩ := hv hr
          refine ar_ld i_L_law_1496 rfl rfl ?_
          refine ar_push i_L_law_1497 ?_
          refine av_ldl (j := 0) i_L_law_1498 hf (by omega) (by omega) ?_
          rw [hf0]
          refine ar_ld i_L_law_1499 rfl rfl ?_
          refine ar_ar i_L_law_1501 rfl ?_
          refine ar_ar i_L_law_1502 rfl ?_
          refine ar_ift i_L_law_1503 rfl ((lg_cmp_eq _ _).mpr rfl) ?_
          refine ar_go i_L_law_1508 ?_
          exact k S2 p2
        · refine ar_ift i_L_law_1493 rfl (hr) ?_
          refine ar_go i_L_law_1508 ?_
          exact k S2 p2
      refine ar_ld i_L_law_1454 rfl rfl ?_
      refine ar_ld i_L_law_1455 rfl rfl ?_
      refine ar_ld i_L_law_1456 rfl rfl ?_
      refine ar_push i_L_law_1458 ?_
      refine ar_ar i_L_law_1459 rfl ?_
      rw [nI_1]
      refine av_ldi i_L_law_1460 (h1) (by omega) (by omega) ?_
      refine ar_ld i_L_law_1461 rfl rfl ?_
      refine ar_ld i_L_law_1462 rfl rfl ?_
      refine ar_push i_L_law_1464 ?_
      refine ar_ar i_L_law_1465 rfl ?_
      rw [show (2 : Int32) = nI 2 from rfl, nI_add]
      refine av_ldi i_L_law_1466 (h1) (by omega) (by omega) ?_
      refine ar_ift i_L_law_1467 rfl (hz) ?_
      refine ar_push i_L_law_1474 ?_
      refine av_cr i_L_law_1475 rfl ⟨_, _, _, rfl, o1⟩ (Nat.le_of_ble_eq_true rfl) (hM S1 p) (fun S2 p2 => ?_)
      have k3 := k2 S2 p2
      rcases hL6 with e | ⟨u, e⟩ | ⟨u, e⟩
      · subst e
        refine ar_st i_L_law_1478 rfl rfl ?_
        exact k3
      · subst e
        refine ar_st i_L_law_1478 rfl rfl ?_
        exact k3
      · subst e
        refine ar_st i_L_law_1478 rfl rfl ?_
        exact k3
    refine ar_ld i_L_law_1427 rfl rfl ?_
    refine ar_ld i_L_law_1428 rfl rfl ?_
    refine ar_ld i_L_law_1429 rfl rfl ?_
    refine ar_push i_L_law_1431 ?_
    refine ar_ar i_L_law_1432 rfl ?_
    rw [nI_1]
    refine av_ldi i_L_law_1433 (h0) (by omega) (by omega) ?_
    refine ar_ld i_L_law_1434 rfl rfl ?_
    refine ar_ld i_L_law_1435 rfl rfl ?_
    refine ar_push i_L_law_1437 ?_
    refine ar_ar i_L_law_1438 rfl ?_
    rw [show (2 : Int32) = nI 2 from rfl, nI_add]
    refine av_ldi i_L_law_1439 (h0) (by omega) (by omega) ?_
    refine ar_ift i_L_law_1440 rfl (hz) ?_
    refine ar_push i_L_law_1447 ?_
    refine ar_ld i_L_law_1448 rfl rfl ?_
    refine av_cr i_L_law_1449 rfl trivial (Nat.le_of_ble_eq_true rfl) (hL) (fun S1 p => ?_)
    rcases hT with e | ⟨u, L6, e, hL6⟩
    · subst e
      refine ar_st i_L_law_1452 rfl rfl ?_
      exact k1 S1 [] p (Or.inl rfl)
    · subst e
      rcases hL6 with e | ⟨u, e⟩ | ⟨u, e⟩
      · subst e
        refine ar_st i_L_law_1452 rfl rfl ?_
        exact k1 S1 [] p (Or.inl rfl)
      · subst e
        refine ar_st i_L_law_1452 rfl rfl ?_
        exact k1 S1 [(6, .int u)] p (Or.inr (Or.inl ⟨_, rfl⟩))
      · subst e
        refine ar_st i_L_law_1452 rfl rfl ?_
        exact k1 S1 [(6, .long u)] p (Or.inr (Or.inr ⟨_, rfl⟩))
  · have e : az = 1 := by rw [haz, if_neg hz]
    subst e
    have k1 : ∀ (S1 : aq_S) (L6 : List (Nat × Value)), P S1 → tl6 L6 → aG (d + 1) 251 Q 1454 ((0, .ref 0) :: (1, .ref 1) :: (2, .ref 52) :: (3, .ref 71) :: (4, .int (nI i)) :: (5, .int r) :: L6) [] S1 := by
      intro S1 L6 p hL6
      obtain ⟨h1, fs1, o1⟩ := hP0 S1 p
      have k2 : ∀ S2, R S2 → aG (d + 1) 251 Q 1480 [(0, .ref 0), (1, .ref 1), (2, .ref 52), (3, .ref 71), (4, .int (nI i)), (5, .int r), (6, .int v)] [] S2 := by
        intro S2 p2
        obtain ⟨⟨fs, o2⟩, hv⟩ := hR S2 p2
        refine ar_ld i_L_law_1480 rfl rfl ?_
        refine ar_cr i_L_law_1481 rfl ⟨_, _, _, rfl, o2⟩ (Nat.le_of_ble_eq_true rfl) (m_thrown d o2) ?_
        refine ar_ld i_L_law_1484 rfl rfl ?_
        refine ar_ift i_L_law_1486 rfl (rfl) ?_
        refine ar_ld i_L_law_1491 rfl rfl ?_
        by_cases hr : r = 0
        · refine ar_iff i_L_law_1493 rfl (fun z => z hr) ?_
          obtain ⟨f, hf, hf0⟩ := hv hr
          refine ar_ld i_L_law_1496 rfl rfl ?_
          refine ar_push i_L_law_1497 ?_
          refine av_ldl (j := 0) i_L_law_1498 hf (by omega) (by omega) ?_
          rw [hf0]
          refine ar_ld i_L_law_1499 rfl rfl ?_
          refine ar_ar i_L_law_1501 rfl ?_
          refine ar_ar i_L_law_1502 rfl ?_
          refine ar_ift i_L_law_1503 rfl ((lg_cmp_eq _ _).mpr rfl) ?_
          refine ar_go i_L_law_1508 ?_
          exact k S2 p2
        · refine ar_ift i_L_law_1493 rfl (hr) ?_
          refine ar_go i_L_law_1508 ?_
          exact k S2 p2
      refine ar_ld i_L_law_1454 rfl rfl ?_
      refine ar_ld i_L_law_1455 rfl rfl ?_
      refine ar_ld i_L_law_1456 rfl rfl ?_
      refine ar_push i_L_law_1458 ?_
      refine ar_ar i_L_law_1459 rfl ?_
      rw [nI_1]
      refine av_ldi i_L_law_1460 (h1) (by omega) (by omega) ?_
      refine ar_ld i_L_law_1461 rfl rfl ?_
      refine ar_ld i_L_law_1462 rfl rfl ?_
      refine ar_push i_L_law_1464 ?_
      refine ar_ar i_L_law_1465 rfl ?_
      rw [show (2 : Int32) = nI 2 from rfl, nI_add]
      refine av_ldi i_L_law_1466 (h1) (by omega) (by omega) ?_
      refine ar_iff i_L_law_1467 rfl (hz) ?_
      refine ar_push i_L_law_1470 ?_
      refine ar_go i_L_law_1471 ?_
      refine av_cr i_L_law_1475 rfl ⟨_, _, _, rfl, o1⟩ (Nat.le_of_ble_eq_true rfl) (hM S1 p) (fun S2 p2 => ?_)
      have k3 := k2 S2 p2
      rcases hL6 with e | ⟨u, e⟩ | ⟨u, e⟩
      · subst e
        refine ar_st i_L_law_1478 rfl rfl ?_
        exact k3
      · subst e
        refine ar_st i_L_law_1478 rfl rfl ?_
        exact k3
      · subst e
        refine ar_st i_L_law_1478 rfl rfl ?_
        exact k3
    refine ar_ld i_L_law_1427 rfl rfl ?_
    refine ar_ld i_L_law_1428 rfl rfl ?_
    refine ar_ld i_L_law_1429 rfl rfl ?_
    refine ar_push i_L_law_1431 ?_
    refine ar_ar i_L_law_1432 rfl ?_
    rw [nI_1]
    refine av_ldi i_L_law_1433 (h0) (by omega) (by omega) ?_
    refine ar_ld i_L_law_1434 rfl rfl ?_
    refine ar_ld i_L_law_1435 rfl rfl ?_
    refine ar_push i_L_law_1437 ?_
    refine ar_ar i_L_law_1438 rfl ?_
    rw [show (2 : Int32) = nI 2 from rfl, nI_add]
    refine av_ldi i_L_law_1439 (h0) (by omega) (by omega) ?_
    refine ar_iff i_L_law_1440 rfl (hz) ?_
    refine ar_push i_L_law_1443 ?_
    refine ar_go i_L_law_1444 ?_
    refine ar_ld i_L_law_1448 rfl rfl ?_
    refine av_cr i_L_law_1449 rfl trivial (Nat.le_of_ble_eq_true rfl) (hL) (fun S1 p => ?_)
    rcases hT with e | ⟨u, L6, e, hL6⟩
    · subst e
      refine ar_st i_L_law_1452 rfl rfl ?_
      exact k1 S1 [] p (Or.inl rfl)
    · subst e
      rcases hL6 with e | ⟨u, e⟩ | ⟨u, e⟩
      · subst e
        refine ar_st i_L_law_1452 rfl rfl ?_
        exact k1 S1 [] p (Or.inl rfl)
      · subst e
        refine ar_st i_L_law_1452 rfl rfl ?_
        exact k1 S1 [(6, .int u)] p (Or.inr (Or.inl ⟨_, rfl⟩))
      · subst e
        refine ar_st i_L_law_1452 rfl rfl ?_
        exact k1 S1 [(6, .long u)] p (Or.inr (Or.inr ⟨_, rfl⟩))
theorem b_periodBound {d i n : Nat} {xs : Nat → Int32} {Q : aq_F} {S : aq_S} {r : Int32} {v : Int32} {P R : aq_S → Prop} {L : List (Nat × Value)} (hT : tl5 L) (h0 : S.2.2.2 0 = some (.inl (0, (n, .inl xs)))) (hi : i + 5 ≤ n) (hn : n ≤ 2560) (hL : aX (d + 1) 231 [.ref 1, .int (xs (i + 1)), .int (xs (i + 2)), .int (xs (i + 3)), .ref 71] S (fun o S' => o = .inl (some (.int r)) ∧ P S')) (hP0 : ∀ S1, P S1 → S1.2.2.2 0 = some (.inl (0, (n, .inl xs))) ∧ ∃ fs, S1.2.2.2 52 = some (.inr (7, fs))) (hM : ∀ S1, P S1 → aX (d + 1) 163 [.ref 52, .int (xs (i + 1)), .int (xs (i + 2)), .int (xs (i + 3))] S1 (fun o S' => o = .inl (some (.int v)) ∧ R S')) (hR : ∀ S2, R S2 → (∃ fs, S2.2.2.2 52 = some (.inr (7, .int r :: fs))) ∧ (r = 0 → oV S2 (v.toInt64))) (k : ∀ S2, R S2 → aG (d + 1) 251 Q 2846 [(0, .ref 0), (1, .ref 1), (2, .ref 52), (3, .ref 71), (4, .int (nI i)), (5, .int r), (6, .int v)] [] S2) : aG (d + 1) 251 Q 1511 ((0, .ref 0) :: (1, .ref 1) :: (2, .ref 52) :: (3, .ref 71) :: (4, .int (nI i)) :: L) [] S := by
  have k1 : ∀ (S1 : aq_S) (L6 : List (Nat × Value)), P S1 → tl6 L6 → aG (d + 1) 251 Q 1536 ((0, .ref 0) :: (1, .ref 1) :: (2, .ref 52) :: (3, .ref 71) :: (4, .int (nI i)) :: (5, .int r) :: L6) [] S1 := by
    intro S1 L6 p hL6
    obtain ⟨h1, fs1, o1⟩ := hP0 S1 p
    have k2 : ∀ S2, R S2 → aG (d + 1) 251 Q 1560 [(0, .ref 0), (1, .ref 1), (2, .ref 52), (3, .ref 71), (4, .int (nI i)), (5, .int r), (6, .int v)] [] S2 := by
      intro S2 p2
      obtain ⟨⟨fs, o2⟩, hv⟩ := hR S2 p2
      refine ar_ld i_L_law_1560 rfl rfl ?_
      refine ar_cr i_L_law_1561 rfl ⟨_, _, _, rfl, o2⟩ (Nat.le_of_ble_eq_true rfl) (m_thrown d o2) ?_
      refine ar_ld i_L_law_1564 rfl rfl ?_
      refine ar_ift i_L_law_1566 rfl (rfl) ?_
      refine ar_ld i_L_law_1571 rfl rfl ?_
      by_cases hr : r = 0
      · refine ar_iff i_L_law_1573 rfl (fun z => z hr) ?_
        obtain ⟨f, hf, hf0⟩ := hv hr
        refine ar_ld i_L_law_1576 rfl rfl ?_
        refine ar_push i_L_law_1577 ?_
        refine av_ldl (j := 0) i_L_law_1578 hf (by omega) (by omega) ?_
        rw [hf0]
        refine ar_ld i_L_law_1579 rfl rfl ?_
        refine ar_ar i_L_law_1581 rfl ?_
        refine ar_ar i_L_law_1582 rfl ?_
        refine ar_ift i_L_law_1583 rfl ((lg_cmp_eq _ _).mpr rfl) ?_
        refine ar_go i_L_law_1588 ?_
        exact k S2 p2
      · refine ar_ift i_L_law_1573 rfl (hr) ?_
        refine ar_go i_L_law_1588 ?_
        exact k S2 p2
    refine ar_ld i_L_law_1536 rfl rfl ?_
    refine ar_ld i_L_law_1537 rfl rfl ?_
    refine ar_ld i_L_law_1538 rfl rfl ?_
    refine ar_push i_L_law_1540 ?_
    refine ar_ar i_L_law_1541 rfl ?_
    rw [nI_1]
    refine av_ldi i_L_law_1542 (h1) (by omega) (by omega) ?_
    refine ar_ld i_L_law_1543 rfl rfl ?_
    refine ar_ld i_L_law_1544 rfl rfl ?_
    refine ar_push i_L_law_1546 ?_
    refine ar_ar i_L_law_1547 rfl ?_
    rw [show (2 : Int32) = nI 2 from rfl, nI_add]
    refine av_ldi i_L_law_1548 (h1) (by omega) (by omega) ?_
    refine ar_ld i_L_law_1549 rfl rfl ?_
    refine ar_ld i_L_law_1550 rfl rfl ?_
    refine ar_push i_L_law_1552 ?_
    refine ar_ar i_L_law_1553 rfl ?_
    rw [show (3 : Int32) = nI 3 from rfl, nI_add]
    refine av_ldi i_L_law_1554 (h1) (by omega) (by omega) ?_
    refine av_cr i_L_law_1555 rfl ⟨_, _, _, rfl, o1⟩ (Nat.le_of_ble_eq_true rfl) (hM S1 p) (fun S2 p2 => ?_)
    have k3 := k2 S2 p2
    rcases hL6 with e | ⟨u, e⟩ | ⟨u, e⟩
    · subst e
      refine ar_st i_L_law_1558 rfl rfl ?_
      exact k3
    · subst e
      refine ar_st i_L_law_1558 rfl rfl ?_
      exact k3
    · subst e
      refine ar_st i_L_law_1558 rfl rfl ?_
      exact k3
  refine ar_ld i_L_law_1511 rfl rfl ?_
  refine ar_ld i_L_law_1512 rfl rfl ?_
  refine ar_ld i_L_law_1513 rfl rfl ?_
  refine ar_push i_L_law_1515 ?_
  refine ar_ar i_L_law_1516 rfl ?_
  rw [nI_1]
  refine av_ldi i_L_law_1517 (h0) (by omega) (by omega) ?_
  refine ar_ld i_L_law_1518 rfl rfl ?_
  refine ar_ld i_L_law_1519 rfl rfl ?_
  refine ar_push i_L_law_1521 ?_
  refine ar_ar i_L_law_1522 rfl ?_
  rw [show (2 : Int32) = nI 2 from rfl, nI_add]
  refine av_ldi i_L_law_1523 (h0) (by omega) (by omega) ?_
  refine ar_ld i_L_law_1524 rfl rfl ?_
  refine ar_ld i_L_law_1525 rfl rfl ?_
  refine ar_push i_L_law_1527 ?_
  refine ar_ar i_L_law_1528 rfl ?_
  rw [show (3 : Int32) = nI 3 from rfl, nI_add]
  refine av_ldi i_L_law_1529 (h0) (by omega) (by omega) ?_
  refine ar_ld i_L_law_1530 rfl rfl ?_
  refine av_cr i_L_law_1531 rfl trivial (Nat.le_of_ble_eq_true rfl) (hL) (fun S1 p => ?_)
  rcases hT with e | ⟨u, L6, e, hL6⟩
  · subst e
    refine ar_st i_L_law_1534 rfl rfl ?_
    exact k1 S1 [] p (Or.inl rfl)
  · subst e
    rcases hL6 with e | ⟨u, e⟩ | ⟨u, e⟩
    · subst e
      refine ar_st i_L_law_1534 rfl rfl ?_
      exact k1 S1 [] p (Or.inl rfl)
    · subst e
      refine ar_st i_L_law_1534 rfl rfl ?_
      exact k1 S1 [(6, .int u)] p (Or.inr (Or.inl ⟨_, rfl⟩))
    · subst e
      refine ar_st i_L_law_1534 rfl rfl ?_
      exact k1 S1 [(6, .long u)] p (Or.inr (Or.inr ⟨_, rfl⟩))
theorem b_longestBorder {d i n : Nat} {xs : Nat → Int32} {Q : aq_F} {S : aq_S} {r : Int32} {v : Int32} {P R : aq_S → Prop} {L : List (Nat × Value)} (hT : tl5 L) (h0 : S.2.2.2 0 = some (.inl (0, (n, .inl xs)))) (hi : i + 5 ≤ n) (hn : n ≤ 2560) (hL : aX (d + 1) 232 [.ref 1, .int (xs (i + 1)), .ref 71] S (fun o S' => o = .inl (some (.int r)) ∧ P S')) (hP0 : ∀ S1, P S1 → S1.2.2.2 0 = some (.inl (0, (n, .inl xs))) ∧ ∃ fs, S1.2.2.2 52 = some (.inr (7, fs))) (hM : ∀ S1, P S1 → aX (d + 1) 164 [.ref 52, .int (xs (i + 1))] S1 (fun o S' => o = .inl (some (.int v)) ∧ R S')) (hR : ∀ S2, R S2 → (∃ fs, S2.2.2.2 52 = some (.inr (7, .int r :: fs))) ∧ (r = 0 → oV S2 (v.toInt64))) (k : ∀ S2, R S2 → aG (d + 1) 251 Q 2846 [(0, .ref 0), (1, .ref 1), (2, .ref 52), (3, .ref 71), (4, .int (nI i)), (5, .int r), (6, .int v)] [] S2) : aG (d + 1) 251 Q 1591 ((0, .ref 0) :: (1, .ref 1) :: (2, .ref 52) :: (3, .ref 71) :: (4, .int (nI i)) :: L) [] S := by
  have k1 : ∀ (S1 : aq_S) (L6 : List (Nat × Value)), P S1 → tl6 L6 → aG (d + 1) 251 Q 1604 ((0, .ref 0) :: (1, .ref 1) :: (2, .ref 52) :: (3, .ref 71) :: (4, .int (nI i)) :: (5, .int r) :: L6) [] S1 := by
    intro S1 L6 p hL6
    obtain ⟨h1, fs1, o1⟩ := hP0 S1 p
    have k2 : ∀ S2, R S2 → aG (d + 1) 251 Q 1616 [(0, .ref 0), (1, .ref 1), (2, .ref 52), (3, .ref 71), (4, .int (nI i)), (5, .int r), (6, .int v)] [] S2 := by
      intro S2 p2
      obtain ⟨⟨fs, o2⟩, hv⟩ := hR S2 p2
      refine ar_ld i_L_law_1616 rfl rfl ?_
      refine ar_cr i_L_law_1617 rfl ⟨_, _, _, rfl, o2⟩ (Nat.le_of_ble_eq_true rfl) (m_thrown d o2) ?_
      refine ar_ld i_L_law_1620 rfl rfl ?_
      refine ar_ift i_L_law_1622 rfl (rfl) ?_
      refine ar_ld i_L_law_1627 rfl rfl ?_
      by_cases hr : r = 0
      · refine ar_iff i_L_law_1629 rfl (fun z => z hr) ?_
        obtain ⟨f, hf, hf0⟩ := hv hr
        refine ar_ld i_L_law_1632 rfl rfl ?_
        refine ar_push i_L_law_1633 ?_
        refine av_ldl (j := 0) i_L_law_1634 hf (by omega) (by omega) ?_
        rw [hf0]
        refine ar_ld i_L_law_1635 rfl rfl ?_
        refine ar_ar i_L_law_1637 rfl ?_
        refine ar_ar i_L_law_1638 rfl ?_
        refine ar_ift i_L_law_1639 rfl ((lg_cmp_eq _ _).mpr rfl) ?_
        refine ar_go i_L_law_1644 ?_
        exact k S2 p2
      · refine ar_ift i_L_law_1629 rfl (hr) ?_
        refine ar_go i_L_law_1644 ?_
        exact k S2 p2
    refine ar_ld i_L_law_1604 rfl rfl ?_
    refine ar_ld i_L_law_1605 rfl rfl ?_
    refine ar_ld i_L_law_1606 rfl rfl ?_
    refine ar_push i_L_law_1608 ?_
    refine ar_ar i_L_law_1609 rfl ?_
    rw [nI_1]
    refine av_ldi i_L_law_1610 (h1) (by omega) (by omega) ?_
    refine av_cr i_L_law_1611 rfl ⟨_, _, _, rfl, o1⟩ (Nat.le_of_ble_eq_true rfl) (hM S1 p) (fun S2 p2 => ?_)
    have k3 := k2 S2 p2
    rcases hL6 with e | ⟨u, e⟩ | ⟨u, e⟩
    · subst e
      refine ar_st i_L_law_1614 rfl rfl ?_
      exact k3
    · subst e
      refine ar_st i_L_law_1614 rfl rfl ?_
      exact k3
    · subst e
      refine ar_st i_L_law_1614 rfl rfl ?_
      exact k3
  refine ar_ld i_L_law_1591 rfl rfl ?_
  refine ar_ld i_L_law_1592 rfl rfl ?_
  refine ar_ld i_L_law_1593 rfl rfl ?_
  refine ar_push i_L_law_1595 ?_
  refine ar_ar i_L_law_1596 rfl ?_
  rw [nI_1]
  refine av_ldi i_L_law_1597 (h0) (by omega) (by omega) ?_
  refine ar_ld i_L_law_1598 rfl rfl ?_
  refine av_cr i_L_law_1599 rfl trivial (Nat.le_of_ble_eq_true rfl) (hL) (fun S1 p => ?_)
  rcases hT with e | ⟨u, L6, e, hL6⟩
  · subst e
    refine ar_st i_L_law_1602 rfl rfl ?_
    exact k1 S1 [] p (Or.inl rfl)
  · subst e
    rcases hL6 with e | ⟨u, e⟩ | ⟨u, e⟩
    · subst e
      refine ar_st i_L_law_1602 rfl rfl ?_
      exact k1 S1 [] p (Or.inl rfl)
    · subst e
      refine ar_st i_L_law_1602 rfl rfl ?_
      exact k1 S1 [(6, .int u)] p (Or.inr (Or.inl ⟨_, rfl⟩))
    · subst e
      refine ar_st i_L_law_1602 rfl rfl ?_
      exact k1 S1 [(6, .long u)] p (Or.inr (Or.inr ⟨_, rfl⟩))
theorem b_isPrimitive {d i n : Nat} {xs : Nat → Int32} {Q : aq_F} {S : aq_S} {r : Int32} {v : Int32} {P R : aq_S → Prop} {L : List (Nat × Value)} (hT : tl5 L) (h0 : S.2.2.2 0 = some (.inl (0, (n, .inl xs)))) (hi : i + 5 ≤ n) (hn : n ≤ 2560) (hL : aX (d + 1) 233 [.ref 1, .int (xs (i + 1)), .ref 71] S (fun o S' => o = .inl (some (.int r)) ∧ P S')) (hP0 : ∀ S1, P S1 → S1.2.2.2 0 = some (.inl (0, (n, .inl xs))) ∧ ∃ fs, S1.2.2.2 52 = some (.inr (7, fs))) (hM : ∀ S1, P S1 → aX (d + 1) 166 [.ref 52, .int (xs (i + 1))] S1 (fun o S' => o = .inl (some (.int v)) ∧ R S')) (hR : ∀ S2, R S2 → (∃ fs, S2.2.2.2 52 = some (.inr (7, .int r :: fs))) ∧ (r = 0 → oV S2 (if v = 0 then 0 else 1))) (k : ∀ S2, R S2 → aG (d + 1) 251 Q 2846 [(0, .ref 0), (1, .ref 1), (2, .ref 52), (3, .ref 71), (4, .int (nI i)), (5, .int r), (6, .int v)] [] S2) : aG (d + 1) 251 Q 1647 ((0, .ref 0) :: (1, .ref 1) :: (2, .ref 52) :: (3, .ref 71) :: (4, .int (nI i)) :: L) [] S := by
  have k1 : ∀ (S1 : aq_S) (L6 : List (Nat × Value)), P S1 → tl6 L6 → aG (d + 1) 251 Q 1660 ((0, .ref 0) :: (1, .ref 1) :: (2, .ref 52) :: (3, .ref 71) :: (4, .int (nI i)) :: (5, .int r) :: L6) [] S1 := by
    intro S1 L6 p hL6
    obtain ⟨h1, fs1, o1⟩ := hP0 S1 p
    have k2 : ∀ S2, R S2 → aG (d + 1) 251 Q 1672 [(0, .ref 0), (1, .ref 1), (2, .ref 52), (3, .ref 71), (4, .int (nI i)), (5, .int r), (6, .int v)] [] S2 := by
      intro S2 p2
      obtain ⟨⟨fs, o2⟩, hv⟩ := hR S2 p2
      refine ar_ld i_L_law_1672 rfl rfl ?_
      refine ar_cr i_L_law_1673 rfl ⟨_, _, _, rfl, o2⟩ (Nat.le_of_ble_eq_true rfl) (m_thrown d o2) ?_
      refine ar_ld i_L_law_1676 rfl rfl ?_
      refine ar_ift i_L_law_1678 rfl (rfl) ?_
      refine ar_ld i_L_law_1683 rfl rfl ?_
      by_cases hr : r = 0
      · refine ar_iff i_L_law_1685 rfl (fun z => z hr) ?_
        obtain ⟨f, hf, hf0⟩ := hv hr
        refine ar_ld i_L_law_1688 rfl rfl ?_
        refine ar_push i_L_law_1689 ?_
        refine av_ldl (j := 0) i_L_law_1690 hf (by omega) (by omega) ?_
        rw [hf0]
        refine ar_ld i_L_law_1691 rfl rfl ?_
        by_cases hv0 : v = 0
        · refine ar_ift i_L_law_1693 rfl (hv0) ?_
          rw [if_pos hv0]
          refine ar_push i_L_law_1700 ?_
          refine ar_ar i_L_law_1701 rfl ?_
          refine ar_ift i_L_law_1702 rfl ((lg_cmp_eq _ _).mpr rfl) ?_
          refine ar_go i_L_law_1707 ?_
          exact k S2 p2
        · refine ar_iff i_L_law_1693 rfl (hv0) ?_
          rw [if_neg hv0]
          refine ar_push i_L_law_1696 ?_
          refine ar_go i_L_law_1697 ?_
          refine ar_ar i_L_law_1701 rfl ?_
          refine ar_ift i_L_law_1702 rfl ((lg_cmp_eq _ _).mpr rfl) ?_
          refine ar_go i_L_law_1707 ?_
          exact k S2 p2
      · refine ar_ift i_L_law_1685 rfl (hr) ?_
        refine ar_go i_L_law_1707 ?_
        exact k S2 p2
    refine ar_ld i_L_law_1660 rfl rfl ?_
    refine ar_ld i_L_law_1661 rfl rfl ?_
    refine ar_ld i_L_law_1662 rfl rfl ?_
    refine ar_push i_L_law_1664 ?_
    refine ar_ar i_L_law_1665 rfl ?_
    rw [nI_1]
    refine av_ldi i_L_law_1666 (h1) (by omega) (by omega) ?_
    refine av_cr i_L_law_1667 rfl ⟨_, _, _, rfl, o1⟩ (Nat.le_of_ble_eq_true rfl) (hM S1 p) (fun S2 p2 => ?_)
    have k3 := k2 S2 p2
    rcases hL6 with e | ⟨u, e⟩ | ⟨u, e⟩
    · subst e
      refine ar_st i_L_law_1670 rfl rfl ?_
      exact k3
    · subst e
      refine ar_st i_L_law_1670 rfl rfl ?_
      exact k3
    · subst e
      refine ar_st i_L_law_1670 rfl rfl ?_
      exact k3
  refine ar_ld i_L_law_1647 rfl rfl ?_
  refine ar_ld i_L_law_1648 rfl rfl ?_
  refine ar_ld i_L_law_1649 rfl rfl ?_
  refine ar_push i_L_law_1651 ?_
  refine ar_ar i_L_law_1652 rfl ?_
  rw [nI_1]
  refine av_ldi i_L_law_1653 (h0) (by omega) (by omega) ?_
  refine ar_ld i_L_law_1654 rfl rfl ?_
  refine av_cr i_L_law_1655 rfl trivial (Nat.le_of_ble_eq_true rfl) (hL) (fun S1 p => ?_)
  rcases hT with e | ⟨u, L6, e, hL6⟩
  · subst e
    refine ar_st i_L_law_1658 rfl rfl ?_
    exact k1 S1 [] p (Or.inl rfl)
  · subst e
    rcases hL6 with e | ⟨u, e⟩ | ⟨u, e⟩
    · subst e
      refine ar_st i_L_law_1658 rfl rfl ?_
      exact k1 S1 [] p (Or.inl rfl)
    · subst e
      refine ar_st i_L_law_1658 rfl rfl ?_
      exact k1 S1 [(6, .int u)] p (Or.inr (Or.inl ⟨_, rfl⟩))
    · subst e
      refine ar_st i_L_law_1658 rfl rfl ?_
      exact k1 S1 [(6, .long u)] p (Or.inr (Or.inr ⟨_, rfl⟩))
theorem b_exponent {d i n : Nat} {xs : Nat → Int32} {Q : aq_F} {S : aq_S} {r : Int32} {v : Int32} {P R : aq_S → Prop} {L : List (Nat × Value)} (hT : tl5 L) (h0 : S.2.2.2 0 = some (.inl (0, (n, .inl xs)))) (hi : i + 5 ≤ n) (hn : n ≤ 2560) (hL : aX (d + 1) 234 [.ref 1, .int (xs (i + 1)), .ref 71] S (fun o S' => o = .inl (some (.int r)) ∧ P S')) (hP0 : ∀ S1, P S1 → S1.2.2.2 0 = some (.inl (0, (n, .inl xs))) ∧ ∃ fs, S1.2.2.2 52 = some (.inr (7, fs))) (hM : ∀ S1, P S1 → aX (d + 1) 167 [.ref 52, .int (xs (i + 1))] S1 (fun o S' => o = .inl (some (.int v)) ∧ R S')) (hR : ∀ S2, R S2 → (∃ fs, S2.2.2.2 52 = some (.inr (7, .int r :: fs))) ∧ (r = 0 → oV S2 (v.toInt64))) (k : ∀ S2, R S2 → aG (d + 1) 251 Q 2846 [(0, .ref 0), (1, .ref 1), (2, .ref 52), (3, .ref 71), (4, .int (nI i)), (5, .int r), (6, .int v)] [] S2) : aG (d + 1) 251 Q 1710 ((0, .ref 0) :: (1, .ref 1) :: (2, .ref 52) :: (3, .ref 71) :: (4, .int (nI i)) :: L) [] S := by
  have k1 : ∀ (S1 : aq_S) (L6 : List (Nat × Value)), P S1 → tl6 L6 → aG (d + 1) 251 Q 1723 ((0, .ref 0) :: (1, .ref 1) :: (2, .ref 52) :: (3, .ref 71) :: (4, .int (nI i)) :: (5, .int r) :: L6) [] S1 := by
    intro S1 L6 p hL6
    obtain ⟨h1, fs1, o1⟩ := hP0 S1 p
    have k2 : ∀ S2, R S2 → aG (d + 1) 251 Q 1735 [(0, .ref 0), (1, .ref 1), (2, .ref 52), (3, .ref 71), (4, .int (nI i)), (5, .int r), (6, .int v)] [] S2 := by
      intro S2 p2
      obtain ⟨⟨fs, o2⟩, hv⟩ := hR S2 p2
      refine ar_ld i_L_law_1735 rfl rfl ?_
      refine ar_cr i_L_law_1736 rfl ⟨_, _, _, rfl, o2⟩ (Nat.le_of_ble_eq_true rfl) (m_thrown d o2) ?_
      refine ar_ld i_L_law_1739 rfl rfl ?_
      refine ar_ift i_L_law_1741 rfl (rfl) ?_
      refine ar_ld i_L_law_1746 rfl rfl ?_
      by_cases hr : r = 0
      · refine ar_iff i_L_law_1748 rfl (fun z => z hr) ?_
        obtain ⟨f, hf, hf0⟩ := hv hr
        refine ar_ld i_L_law_1751 rfl rfl ?_
        refine ar_push i_L_law_1752 ?_
        refine av_ldl (j := 0) i_L_law_1753 hf (by omega) (by omega) ?_
        rw [hf0]
        refine ar_ld i_L_law_1754 rfl rfl ?_
        refine ar_ar i_L_law_1756 rfl ?_
        refine ar_ar i_L_law_1757 rfl ?_
        refine ar_ift i_L_law_1758 rfl ((lg_cmp_eq _ _).mpr rfl) ?_
        refine ar_go i_L_law_1763 ?_
        exact k S2 p2
      · refine ar_ift i_L_law_1748 rfl (hr) ?_
        refine ar_go i_L_law_1763 ?_
        exact k S2 p2
    refine ar_ld i_L_law_1723 rfl rfl ?_
    refine ar_ld i_L_law_1724 rfl rfl ?_
    refine ar_ld i_L_law_1725 rfl rfl ?_
    refine ar_push i_L_law_1727 ?_
    refine ar_ar i_L_law_1728 rfl ?_
    rw [nI_1]
    refine av_ldi i_L_law_1729 (h1) (by omega) (by omega) ?_
    refine av_cr i_L_law_1730 rfl ⟨_, _, _, rfl, o1⟩ (Nat.le_of_ble_eq_true rfl) (hM S1 p) (fun S2 p2 => ?_)
    have k3 := k2 S2 p2
    rcases hL6 with e | ⟨u, e⟩ | ⟨u, e⟩
    · subst e
      refine ar_st i_L_law_1733 rfl rfl ?_
      exact k3
    · subst e
      refine ar_st i_L_law_1733 rfl rfl ?_
      exact k3
    · subst e
      refine ar_st i_L_law_1733 rfl rfl ?_
      exact k3
  refine ar_ld i_L_law_1710 rfl rfl ?_
  refine ar_ld i_L_law_1711 rfl rfl ?_
  refine ar_ld i_L_law_1712 rfl rfl ?_
  refine ar_push i_L_law_1714 ?_
  refine ar_ar i_L_law_1715 rfl ?_
  rw [nI_1]
  refine av_ldi i_L_law_1716 (h0) (by omega) (by omega) ?_
  refine ar_ld i_L_law_1717 rfl rfl ?_
  refine av_cr i_L_law_1718 rfl trivial (Nat.le_of_ble_eq_true rfl) (hL) (fun S1 p => ?_)
  rcases hT with e | ⟨u, L6, e, hL6⟩
  · subst e
    refine ar_st i_L_law_1721 rfl rfl ?_
    exact k1 S1 [] p (Or.inl rfl)
  · subst e
    rcases hL6 with e | ⟨u, e⟩ | ⟨u, e⟩
    · subst e
      refine ar_st i_L_law_1721 rfl rfl ?_
      exact k1 S1 [] p (Or.inl rfl)
    · subst e
      refine ar_st i_L_law_1721 rfl rfl ?_
      exact k1 S1 [(6, .int u)] p (Or.inr (Or.inl ⟨_, rfl⟩))
    · subst e
      refine ar_st i_L_law_1721 rfl rfl ?_
      exact k1 S1 [(6, .long u)] p (Or.inr (Or.inr ⟨_, rfl⟩))
theorem b_completionCount {d i n : Nat} {xs : Nat → Int32} {Q : aq_F} {S : aq_S} {r : Int32} {v : Int64} {P R : aq_S → Prop} {L : List (Nat × Value)} (hT : tl5 L) (h0 : S.2.2.2 0 = some (.inl (0, (n, .inl xs)))) (hi : i + 5 ≤ n) (hn : n ≤ 2560) (hL : aX (d + 1) 235 [.ref 1, .int (xs (i + 1)), .ref 71] S (fun o S' => o = .inl (some (.int r)) ∧ P S')) (hP0 : ∀ S1, P S1 → S1.2.2.2 0 = some (.inl (0, (n, .inl xs))) ∧ ∃ fs, S1.2.2.2 52 = some (.inr (7, fs))) (hM : ∀ S1, P S1 → aX (d + 1) 170 [.ref 52, .int (xs (i + 1))] S1 (fun o S' => o = .inl (some (.long v)) ∧ R S')) (hR : ∀ S2, R S2 → (∃ fs, S2.2.2.2 52 = some (.inr (7, .int r :: fs))) ∧ (r = 0 → oV S2 (v))) (k : ∀ S2, R S2 → aG (d + 1) 251 Q 2846 [(0, .ref 0), (1, .ref 1), (2, .ref 52), (3, .ref 71), (4, .int (nI i)), (5, .int r), (6, .long v)] [] S2) : aG (d + 1) 251 Q 1766 ((0, .ref 0) :: (1, .ref 1) :: (2, .ref 52) :: (3, .ref 71) :: (4, .int (nI i)) :: L) [] S := by
  have k1 : ∀ (S1 : aq_S) (L6 : List (Nat × Value)), P S1 → tl6 L6 → aG (d + 1) 251 Q 1779 ((0, .ref 0) :: (1, .ref 1) :: (2, .ref 52) :: (3, .ref 71) :: (4, .int (nI i)) :: (5, .int r) :: L6) [] S1 := by
    intro S1 L6 p hL6
    obtain ⟨h1, fs1, o1⟩ := hP0 S1 p
    have k2 : ∀ S2, R S2 → aG (d + 1) 251 Q 1791 [(0, .ref 0), (1, .ref 1), (2, .ref 52), (3, .ref 71), (4, .int (nI i)), (5, .int r), (6, .long v)] [] S2 := by
      intro S2 p2
      obtain ⟨⟨fs, o2⟩, hv⟩ := hR S2 p2
      refine ar_ld i_L_law_1791 rfl rfl ?_
      refine ar_cr i_L_law_1792 rfl ⟨_, _, _, rfl, o2⟩ (Nat.le_of_ble_eq_true rfl) (m_thrown d o2) ?_
      refine ar_ld i_L_law_1795 rfl rfl ?_
      refine ar_ift i_L_law_1797 rfl (rfl) ?_
      refine ar_ld i_L_law_1802 rfl rfl ?_
      by_cases hr : r = 0
      · refine ar_iff i_L_law_1804 rfl (fun z => z hr) ?_
        obtain ⟨f, hf, hf0⟩ := hv hr
        refine ar_ld i_L_law_1807 rfl rfl ?_
        refine ar_push i_L_law_1808 ?_
        refine av_ldl (j := 0) i_L_law_1809 hf (by omega) (by omega) ?_
        rw [hf0]
        refine ar_ld i_L_law_1810 rfl rfl ?_
        refine ar_ar i_L_law_1812 rfl ?_
        refine ar_ift i_L_law_1813 rfl ((lg_cmp_eq _ _).mpr rfl) ?_
        refine ar_go i_L_law_1818 ?_
        exact k S2 p2
      · refine ar_ift i_L_law_1804 rfl (hr) ?_
        refine ar_go i_L_law_1818 ?_
        exact k S2 p2
    refine ar_ld i_L_law_1779 rfl rfl ?_
    refine ar_ld i_L_law_1780 rfl rfl ?_
    refine ar_ld i_L_law_1781 rfl rfl ?_
    refine ar_push i_L_law_1783 ?_
    refine ar_ar i_L_law_1784 rfl ?_
    rw [nI_1]
    refine av_ldi i_L_law_1785 (h1) (by omega) (by omega) ?_
    refine av_cr i_L_law_1786 rfl ⟨_, _, _, rfl, o1⟩ (Nat.le_of_ble_eq_true rfl) (hM S1 p) (fun S2 p2 => ?_)
    have k3 := k2 S2 p2
    rcases hL6 with e | ⟨u, e⟩ | ⟨u, e⟩
    · subst e
      refine ar_st i_L_law_1789 rfl rfl ?_
      exact k3
    · subst e
      refine ar_st i_L_law_1789 rfl rfl ?_
      exact k3
    · subst e
      refine ar_st i_L_law_1789 rfl rfl ?_
      exact k3
  refine ar_ld i_L_law_1766 rfl rfl ?_
  refine ar_ld i_L_law_1767 rfl rfl ?_
  refine ar_ld i_L_law_1768 rfl rfl ?_
  refine ar_push i_L_law_1770 ?_
  refine ar_ar i_L_law_1771 rfl ?_
  rw [nI_1]
  refine av_ldi i_L_law_1772 (h0) (by omega) (by omega) ?_
  refine ar_ld i_L_law_1773 rfl rfl ?_
  refine av_cr i_L_law_1774 rfl trivial (Nat.le_of_ble_eq_true rfl) (hL) (fun S1 p => ?_)
  rcases hT with e | ⟨u, L6, e, hL6⟩
  · subst e
    refine ar_st i_L_law_1777 rfl rfl ?_
    exact k1 S1 [] p (Or.inl rfl)
  · subst e
    rcases hL6 with e | ⟨u, e⟩ | ⟨u, e⟩
    · subst e
      refine ar_st i_L_law_1777 rfl rfl ?_
      exact k1 S1 [] p (Or.inl rfl)
    · subst e
      refine ar_st i_L_law_1777 rfl rfl ?_
      exact k1 S1 [(6, .int u)] p (Or.inr (Or.inl ⟨_, rfl⟩))
    · subst e
      refine ar_st i_L_law_1777 rfl rfl ?_
      exact k1 S1 [(6, .long u)] p (Or.inr (Or.inr ⟨_, rfl⟩))
theorem b_complete {d i n : Nat} {xs : Nat → Int32} {Q : aq_F} {S : aq_S} {r : Int32} {v : Int32} {P R : aq_S → Prop} {L : List (Nat × Value)} (hT : tl5 L) (h0 : S.2.2.2 0 = some (.inl (0, (n, .inl xs)))) (hi : i + 5 ≤ n) (hn : n ≤ 2560) (hL : aX (d + 1) 236 [.ref 1, .int (xs (i + 1)), .long ((xs (i + 2)).toInt64 <<< ((32 : Int32).toInt64 &&& 63) ||| ((xs (i + 3)).toInt64 &&& 4294967295)), .int (xs (i + 4)), .ref 71] S (fun o S' => o = .inl (some (.int r)) ∧ P S')) (hP0 : ∀ S1, P S1 → S1.2.2.2 0 = some (.inl (0, (n, .inl xs))) ∧ ∃ fs, S1.2.2.2 52 = some (.inr (7, fs))) (hM : ∀ S1, P S1 → aX (d + 1) 172 [.ref 52, .int (xs (i + 1)), .long ((xs (i + 2)).toInt64 <<< ((32 : Int32).toInt64 &&& 63) ||| ((xs (i + 3)).toInt64 &&& 4294967295)), .int (xs (i + 4))] S1 (fun o S' => o = .inl (some (.int v)) ∧ R S')) (hR : ∀ S2, R S2 → (∃ fs, S2.2.2.2 52 = some (.inr (7, .int r :: fs))) ∧ (r = 0 → oV S2 (v.toInt64))) (k : ∀ S2, R S2 → aG (d + 1) 251 Q 2846 [(0, .ref 0), (1, .ref 1), (2, .ref 52), (3, .ref 71), (4, .int (nI i)), (5, .int r), (6, .int v)] [] S2) : aG (d + 1) 251 Q 1821 ((0, .ref 0) :: (1, .ref 1) :: (2, .ref 52) :: (3, .ref 71) :: (4, .int (nI i)) :: L) [] S := by
  have k1 : ∀ (S1 : aq_S) (L6 : List (Nat × Value)), P S1 → tl6 L6 → aG (d + 1) 251 Q 1862 ((0, .ref 0) :: (1, .ref 1) :: (2, .ref 52) :: (3, .ref 71) :: (4, .int (nI i)) :: (5, .int r) :: L6) [] S1 := by
    intro S1 L6 p hL6
    obtain ⟨h1, fs1, o1⟩ := hP0 S1 p
    have k2 : ∀ S2, R S2 → aG (d + 1) 251 Q 1902 [(0, .ref 0), (1, .ref 1), (2, .ref 52), (3, .ref 71), (4, .int (nI i)), (5, .int r), (6, .int v)] [] S2 := by
      intro S2 p2
      obtain ⟨⟨fs, o2⟩, hv⟩ := hR S2 p2
      refine ar_ld i_L_law_1902 rfl rfl ?_
      refine ar_cr i_L_law_1903 rfl ⟨_, _, _, rfl, o2⟩ (Nat.le_of_ble_eq_true rfl) (m_thrown d o2) ?_
      refine ar_ld i_L_law_1906 rfl rfl ?_
      refine ar_ift i_L_law_1908 rfl (rfl) ?_
      refine ar_ld i_L_law_1913 rfl rfl ?_
      by_cases hr : r = 0
      · refine ar_iff i_L_law_1915 rfl (fun z => z hr) ?_
        obtain ⟨f, hf, hf0⟩ := hv hr
        refine ar_ld i_L_law_1918 rfl rfl ?_
        refine ar_push i_L_law_1919 ?_
        refine av_ldl (j := 0) i_L_law_1920 hf (by omega) (by omega) ?_
        rw [hf0]
        refine ar_ld i_L_law_1921 rfl rfl ?_
        refine ar_ar i_L_law_1923 rfl ?_
        refine ar_ar i_L_law_1924 rfl ?_
        refine ar_ift i_L_law_1925 rfl ((lg_cmp_eq _ _).mpr rfl) ?_
        refine ar_go i_L_law_1930 ?_
        exact k S2 p2
      · refine ar_ift i_L_law_1915 rfl (hr) ?_
        refine ar_go i_L_law_1930 ?_
        exact k S2 p2
    refine ar_ld i_L_law_1862 rfl rfl ?_
    refine ar_ld i_L_law_1863 rfl rfl ?_
    refine ar_ld i_L_law_1864 rfl rfl ?_
    refine ar_push i_L_law_1866 ?_
    refine ar_ar i_L_law_1867 rfl ?_
    rw [nI_1]
    refine av_ldi i_L_law_1868 (h1) (by omega) (by omega) ?_
    refine ar_ld i_L_law_1869 rfl rfl ?_
    refine ar_ld i_L_law_1870 rfl rfl ?_
    refine ar_push i_L_law_1872 ?_
    refine ar_ar i_L_law_1873 rfl ?_
    rw [show (2 : Int32) = nI 2 from rfl, nI_add]
    refine av_ldi i_L_law_1874 (h1) (by omega) (by omega) ?_
    refine ar_ar i_L_law_1875 rfl ?_
    refine ar_push i_L_law_1876 ?_
    refine ar_ar i_L_law_1878 rfl ?_
    refine ar_ld i_L_law_1879 rfl rfl ?_
    refine ar_ld i_L_law_1880 rfl rfl ?_
    refine ar_push i_L_law_1882 ?_
    refine ar_ar i_L_law_1883 rfl ?_
    rw [show (3 : Int32) = nI 3 from rfl, nI_add]
    refine av_ldi i_L_law_1884 (h1) (by omega) (by omega) ?_
    refine ar_ar i_L_law_1885 rfl ?_
    refine ar_push i_L_law_1886 ?_
    refine ar_ar i_L_law_1889 rfl ?_
    refine ar_ar i_L_law_1890 rfl ?_
    refine ar_ld i_L_law_1891 rfl rfl ?_
    refine ar_ld i_L_law_1892 rfl rfl ?_
    refine ar_push i_L_law_1894 ?_
    refine ar_ar i_L_law_1895 rfl ?_
    rw [show (4 : Int32) = nI 4 from rfl, nI_add]
    refine av_ldi i_L_law_1896 (h1) (by omega) (by omega) ?_
    refine av_cr i_L_law_1897 rfl ⟨_, _, _, rfl, o1⟩ (Nat.le_of_ble_eq_true rfl) (hM S1 p) (fun S2 p2 => ?_)
    have k3 := k2 S2 p2
    rcases hL6 with e | ⟨u, e⟩ | ⟨u, e⟩
    · subst e
      refine ar_st i_L_law_1900 rfl rfl ?_
      exact k3
    · subst e
      refine ar_st i_L_law_1900 rfl rfl ?_
      exact k3
    · subst e
      refine ar_st i_L_law_1900 rfl rfl ?_
      exact k3
  refine ar_ld i_L_law_1821 rfl rfl ?_
  refine ar_ld i_L_law_1822 rfl rfl ?_
  refine ar_ld i_L_law_1823 rfl rfl ?_
  refine ar_push i_L_law_1825 ?_
  refine ar_ar i_L_law_1826 rfl ?_
  rw [nI_1]
  refine av_ldi i_L_law_1827 (h0) (by omega) (by omega) ?_
  refine ar_ld i_L_law_1828 rfl rfl ?_
  refine ar_ld i_L_law_1829 rfl rfl ?_
  refine ar_push i_L_law_1831 ?_
  refine ar_ar i_L_law_1832 rfl ?_
  rw [show (2 : Int32) = nI 2 from rfl, nI_add]
  refine av_ldi i_L_law_1833 (h0) (by omega) (by omega) ?_
  refine ar_ar i_L_law_1834 rfl ?_
  refine ar_push i_L_law_1835 ?_
  refine ar_ar i_L_law_1837 rfl ?_
  refine ar_ld i_L_law_1838 rfl rfl ?_
  refine ar_ld i_L_law_1839 rfl rfl ?_
  refine ar_push i_L_law_1841 ?_
  refine ar_ar i_L_law_1842 rfl ?_
  rw [show (3 : Int32) = nI 3 from rfl, nI_add]
  refine av_ldi i_L_law_1843 (h0) (by omega) (by omega) ?_
  refine ar_ar i_L_law_1844 rfl ?_
  refine ar_push i_L_law_1845 ?_
  refine ar_ar i_L_law_1848 rfl ?_
  refine ar_ar i_L_law_1849 rfl ?_
  refine ar_ld i_L_law_1850 rfl rfl ?_
  refine ar_ld i_L_law_1851 rfl rfl ?_
  refine ar_push i_L_law_1853 ?_
  refine ar_ar i_L_law_1854 rfl ?_
  rw [show (4 : Int32) = nI 4 from rfl, nI_add]
  refine av_ldi i_L_law_1855 (h0) (by omega) (by omega) ?_
  refine ar_ld i_L_law_1856 rfl rfl ?_
  refine av_cr i_L_law_1857 rfl trivial (Nat.le_of_ble_eq_true rfl) (hL) (fun S1 p => ?_)
  rcases hT with e | ⟨u, L6, e, hL6⟩
  · subst e
    refine ar_st i_L_law_1860 rfl rfl ?_
    exact k1 S1 [] p (Or.inl rfl)
  · subst e
    rcases hL6 with e | ⟨u, e⟩ | ⟨u, e⟩
    · subst e
      refine ar_st i_L_law_1860 rfl rfl ?_
      exact k1 S1 [] p (Or.inl rfl)
    · subst e
      refine ar_st i_L_law_1860 rfl rfl ?_
      exact k1 S1 [(6, .int u)] p (Or.inr (Or.inl ⟨_, rfl⟩))
    · subst e
      refine ar_st i_L_law_1860 rfl rfl ?_
      exact k1 S1 [(6, .long u)] p (Or.inr (Or.inr ⟨_, rfl⟩))
theorem b_primitiveCompletions {d i n : Nat} {xs : Nat → Int32} {Q : aq_F} {S : aq_S} {r : Int32} {v : Int32} {P R : aq_S → Prop} {L : List (Nat × Value)} (hT : tl5 L) (h0 : S.2.2.2 0 = some (.inl (0, (n, .inl xs)))) (hi : i + 5 ≤ n) (hn : n ≤ 2560) (hL : aX (d + 1) 237 [.ref 1, .int (xs (i + 1)), .ref 71] S (fun o S' => o = .inl (some (.int r)) ∧ P S')) (hP0 : ∀ S1, P S1 → S1.2.2.2 0 = some (.inl (0, (n, .inl xs))) ∧ ∃ fs, S1.2.2.2 52 = some (.inr (7, fs))) (hM : ∀ S1, P S1 → aX (d + 1) 173 [.ref 52, .int (xs (i + 1))] S1 (fun o S' => o = .inl (some (.int v)) ∧ R S')) (hR : ∀ S2, R S2 → (∃ fs, S2.2.2.2 52 = some (.inr (7, .int r :: fs))) ∧ (r = 0 → oV S2 (v.toInt64))) (k : ∀ S2, R S2 → aG (d + 1) 251 Q 2846 [(0, .ref 0), (1, .ref 1), (2, .ref 52), (3, .ref 71), (4, .int (nI i)), (5, .int r), (6, .int v)] [] S2) : aG (d + 1) 251 Q 1933 ((0, .ref 0) :: (1, .ref 1) :: (2, .ref 52) :: (3, .ref 71) :: (4, .int (nI i)) :: L) [] S := by
  have k1 : ∀ (S1 : aq_S) (L6 : List (Nat × Value)), P S1 → tl6 L6 → aG (d + 1) 251 Q 1946 ((0, .ref 0) :: (1, .ref 1) :: (2, .ref 52) :: (3, .ref 71) :: (4, .int (nI i)) :: (5, .int r) :: L6) [] S1 := by
    intro S1 L6 p hL6
    obtain ⟨h1, fs1, o1⟩ := hP0 S1 p
    have k2 : ∀ S2, R S2 → aG (d + 1) 251 Q 1958 [(0, .ref 0), (1, .ref 1), (2, .ref 52), (3, .ref 71), (4, .int (nI i)), (5, .int r), (6, .int v)] [] S2 := by
      intro S2 p2
      obtain ⟨⟨fs, o2⟩, hv⟩ := hR S2 p2
      refine ar_ld i_L_law_1958 rfl rfl ?_
      refine ar_cr i_L_law_1959 rfl ⟨_, _, _, rfl, o2⟩ (Nat.le_of_ble_eq_true rfl) (m_thrown d o2) ?_
      refine ar_ld i_L_law_1962 rfl rfl ?_
      refine ar_ift i_L_law_1964 rfl (rfl) ?_
      refine ar_ld i_L_law_1969 rfl rfl ?_
      by_cases hr : r = 0
      · refine ar_iff i_L_law_1971 rfl (fun z => z hr) ?_
        obtain ⟨f, hf, hf0⟩ := hv hr
        refine ar_ld i_L_law_1974 rfl rfl ?_
        refine ar_push i_L_law_1975 ?_
        refine av_ldl (j := 0) i_L_law_1976 hf (by omega) (by omega) ?_
        rw [hf0]
        refine ar_ld i_L_law_1977 rfl rfl ?_
        refine ar_ar i_L_law_1979 rfl ?_
        refine ar_ar i_L_law_1980 rfl ?_
        refine ar_ift i_L_law_1981 rfl ((lg_cmp_eq _ _).mpr rfl) ?_
        refine ar_go i_L_law_1986 ?_
        exact k S2 p2
      · refine ar_ift i_L_law_1971 rfl (hr) ?_
        refine ar_go i_L_law_1986 ?_
        exact k S2 p2
    refine ar_ld i_L_law_1946 rfl rfl ?_
    refine ar_ld i_L_law_1947 rfl rfl ?_
    refine ar_ld i_L_law_1948 rfl rfl ?_
    refine ar_push i_L_law_1950 ?_
    refine ar_ar i_L_law_1951 rfl ?_
    rw [nI_1]
    refine av_ldi i_L_law_1952 (h1) (by omega) (by omega) ?_
    refine av_cr i_L_law_1953 rfl ⟨_, _, _, rfl, o1⟩ (Nat.le_of_ble_eq_true rfl) (hM S1 p) (fun S2 p2 => ?_)
    have k3 := k2 S2 p2
    rcases hL6 with e | ⟨u, e⟩ | ⟨u, e⟩
    · subst e
      refine ar_st i_L_law_1956 rfl rfl ?_
      exact k3
    · subst e
      refine ar_st i_L_law_1956 rfl rfl ?_
      exact k3
    · subst e
      refine ar_st i_L_law_1956 rfl rfl ?_
      exact k3
  refine ar_ld i_L_law_1933 rfl rfl ?_
  refine ar_ld i_L_law_1934 rfl rfl ?_
  refine ar_ld i_L_law_1935 rfl rfl ?_
  refine ar_push i_L_law_1937 ?_
  refine ar_ar i_L_law_1938 rfl ?_
  rw [nI_1]
  refine av_ldi i_L_law_1939 (h0) (by omega) (by omega) ?_
  refine ar_ld i_L_law_1940 rfl rfl ?_
  refine av_cr i_L_law_1941 rfl trivial (Nat.le_of_ble_eq_true rfl) (hL) (fun S1 p => ?_)
  rcases hT with e | ⟨u, L6, e, hL6⟩
  · subst e
    refine ar_st i_L_law_1944 rfl rfl ?_
    exact k1 S1 [] p (Or.inl rfl)
  · subst e
    rcases hL6 with e | ⟨u, e⟩ | ⟨u, e⟩
    · subst e
      refine ar_st i_L_law_1944 rfl rfl ?_
      exact k1 S1 [] p (Or.inl rfl)
    · subst e
      refine ar_st i_L_law_1944 rfl rfl ?_
      exact k1 S1 [(6, .int u)] p (Or.inr (Or.inl ⟨_, rfl⟩))
    · subst e
      refine ar_st i_L_law_1944 rfl rfl ?_
      exact k1 S1 [(6, .long u)] p (Or.inr (Or.inr ⟨_, rfl⟩))
theorem b_complexity {d i n : Nat} {xs : Nat → Int32} {Q : aq_F} {S : aq_S} {r : Int32} {v : Int32} {P R : aq_S → Prop} {L : List (Nat × Value)} (hT : tl5 L) (h0 : S.2.2.2 0 = some (.inl (0, (n, .inl xs)))) (hi : i + 5 ≤ n) (hn : n ≤ 2560) (hL : aX (d + 1) 238 [.ref 1, .int (xs (i + 1)), .int (xs (i + 2)), .ref 71] S (fun o S' => o = .inl (some (.int r)) ∧ P S')) (hP0 : ∀ S1, P S1 → S1.2.2.2 0 = some (.inl (0, (n, .inl xs))) ∧ ∃ fs, S1.2.2.2 52 = some (.inr (7, fs))) (hM : ∀ S1, P S1 → aX (d + 1) 177 [.ref 52, .int (xs (i + 1)), .int (xs (i + 2))] S1 (fun o S' => o = .inl (some (.int v)) ∧ R S')) (hR : ∀ S2, R S2 → (∃ fs, S2.2.2.2 52 = some (.inr (7, .int r :: fs))) ∧ (r = 0 → oV S2 (v.toInt64))) (k : ∀ S2, R S2 → aG (d + 1) 251 Q 2846 [(0, .ref 0), (1, .ref 1), (2, .ref 52), (3, .ref 71), (4, .int (nI i)), (5, .int r), (6, .int v)] [] S2) : aG (d + 1) 251 Q 1989 ((0, .ref 0) :: (1, .ref 1) :: (2, .ref 52) :: (3, .ref 71) :: (4, .int (nI i)) :: L) [] S := by
  have k1 : ∀ (S1 : aq_S) (L6 : List (Nat × Value)), P S1 → tl6 L6 → aG (d + 1) 251 Q 2008 ((0, .ref 0) :: (1, .ref 1) :: (2, .ref 52) :: (3, .ref 71) :: (4, .int (nI i)) :: (5, .int r) :: L6) [] S1 := by
    intro S1 L6 p hL6
    obtain ⟨h1, fs1, o1⟩ := hP0 S1 p
    have k2 : ∀ S2, R S2 → aG (d + 1) 251 Q 2026 [(0, .ref 0), (1, .ref 1), (2, .ref 52), (3, .ref 71), (4, .int (nI i)), (5, .int r), (6, .int v)] [] S2 := by
      intro S2 p2
      obtain ⟨⟨fs, o2⟩, hv⟩ := hR S2 p2
      refine ar_ld i_L_law_2026 rfl rfl ?_
      refine ar_cr i_L_law_2027 rfl ⟨_, _, _, rfl, o2⟩ (Nat.le_of_ble_eq_true rfl) (m_thrown d o2) ?_
      refine ar_ld i_L_law_2030 rfl rfl ?_
      refine ar_ift i_L_law_2032 rfl (rfl) ?_
      refine ar_ld i_L_law_2037 rfl rfl ?_
      by_cases hr : r = 0
      · refine ar_iff i_L_law_2039 rfl (fun z => z hr) ?_
        obtain ⟨f, hf, hf0⟩ := hv hr
        refine ar_ld i_L_law_2042 rfl rfl ?_
        refine ar_push i_L_law_2043 ?_
        refine av_ldl (j := 0) i_L_law_2044 hf (by omega) (by omega) ?_
        rw [hf0]
        refine ar_ld i_L_law_2045 rfl rfl ?_
        refine ar_ar i_L_law_2047 rfl ?_
        refine ar_ar i_L_law_2048 rfl ?_
        refine ar_ift i_L_law_2049 rfl ((lg_cmp_eq _ _).mpr rfl) ?_
        refine ar_go i_L_law_2054 ?_
        exact k S2 p2
      · refine ar_ift i_L_law_2039 rfl (hr) ?_
        refine ar_go i_L_law_2054 ?_
        exact k S2 p2
    refine ar_ld i_L_law_2008 rfl rfl ?_
    refine ar_ld i_L_law_2009 rfl rfl ?_
    refine ar_ld i_L_law_2010 rfl rfl ?_
    refine ar_push i_L_law_2012 ?_
    refine ar_ar i_L_law_2013 rfl ?_
    rw [nI_1]
    refine av_ldi i_L_law_2014 (h1) (by omega) (by omega) ?_
    refine ar_ld i_L_law_2015 rfl rfl ?_
    refine ar_ld i_L_law_2016 rfl rfl ?_
    refine ar_push i_L_law_2018 ?_
    refine ar_ar i_L_law_2019 rfl ?_
    rw [show (2 : Int32) = nI 2 from rfl, nI_add]
    refine av_ldi i_L_law_2020 (h1) (by omega) (by omega) ?_
    refine av_cr i_L_law_2021 rfl ⟨_, _, _, rfl, o1⟩ (Nat.le_of_ble_eq_true rfl) (hM S1 p) (fun S2 p2 => ?_)
    have k3 := k2 S2 p2
    rcases hL6 with e | ⟨u, e⟩ | ⟨u, e⟩
    · subst e
      refine ar_st i_L_law_2024 rfl rfl ?_
      exact k3
    · subst e
      refine ar_st i_L_law_2024 rfl rfl ?_
      exact k3
    · subst e
      refine ar_st i_L_law_2024 rfl rfl ?_
      exact k3
  refine ar_ld i_L_law_1989 rfl rfl ?_
  refine ar_ld i_L_law_1990 rfl rfl ?_
  refine ar_ld i_L_law_1991 rfl rfl ?_
  refine ar_push i_L_law_1993 ?_
  refine ar_ar i_L_law_1994 rfl ?_
  rw [nI_1]
  refine av_ldi i_L_law_1995 (h0) (by omega) (by omega) ?_
  refine ar_ld i_L_law_1996 rfl rfl ?_
  refine ar_ld i_L_law_1997 rfl rfl ?_
  refine ar_push i_L_law_1999 ?_
  refine ar_ar i_L_law_2000 rfl ?_
  rw [show (2 : Int32) = nI 2 from rfl, nI_add]
  refine av_ldi i_L_law_2001 (h0) (by omega) (by omega) ?_
  refine ar_ld i_L_law_2002 rfl rfl ?_
  refine av_cr i_L_law_2003 rfl trivial (Nat.le_of_ble_eq_true rfl) (hL) (fun S1 p => ?_)
  rcases hT with e | ⟨u, L6, e, hL6⟩
  · subst e
    refine ar_st i_L_law_2006 rfl rfl ?_
    exact k1 S1 [] p (Or.inl rfl)
  · subst e
    rcases hL6 with e | ⟨u, e⟩ | ⟨u, e⟩
    · subst e
      refine ar_st i_L_law_2006 rfl rfl ?_
      exact k1 S1 [] p (Or.inl rfl)
    · subst e
      refine ar_st i_L_law_2006 rfl rfl ?_
      exact k1 S1 [(6, .int u)] p (Or.inr (Or.inl ⟨_, rfl⟩))
    · subst e
      refine ar_st i_L_law_2006 rfl rfl ?_
      exact k1 S1 [(6, .long u)] p (Or.inr (Or.inr ⟨_, rfl⟩))
theorem b_occurrences {d i n : Nat} {xs : Nat → Int32} {Q : aq_F} {S : aq_S} {r : Int32} {v : Int32} {P R : aq_S → Prop} {L : List (Nat × Value)} (hT : tl5 L) (h0 : S.2.2.2 0 = some (.inl (0, (n, .inl xs)))) (hi : i + 5 ≤ n) (hn : n ≤ 2560) (hL : aX (d + 1) 239 [.ref 1, .int (xs (i + 1)), .int (xs (i + 2)), .ref 71] S (fun o S' => o = .inl (some (.int r)) ∧ P S')) (hP0 : ∀ S1, P S1 → S1.2.2.2 0 = some (.inl (0, (n, .inl xs))) ∧ ∃ fs, S1.2.2.2 52 = some (.inr (7, fs))) (hM : ∀ S1, P S1 → aX (d + 1) 178 [.ref 52, .int (xs (i + 1)), .int (xs (i + 2))] S1 (fun o S' => o = .inl (some (.int v)) ∧ R S')) (hR : ∀ S2, R S2 → (∃ fs, S2.2.2.2 52 = some (.inr (7, .int r :: fs))) ∧ (r = 0 → oV S2 (v.toInt64))) (k : ∀ S2, R S2 → aG (d + 1) 251 Q 2846 [(0, .ref 0), (1, .ref 1), (2, .ref 52), (3, .ref 71), (4, .int (nI i)), (5, .int r), (6, .int v)] [] S2) : aG (d + 1) 251 Q 2057 ((0, .ref 0) :: (1, .ref 1) :: (2, .ref 52) :: (3, .ref 71) :: (4, .int (nI i)) :: L) [] S := by
  have k1 : ∀ (S1 : aq_S) (L6 : List (Nat × Value)), P S1 → tl6 L6 → aG (d + 1) 251 Q 2076 ((0, .ref 0) :: (1, .ref 1) :: (2, .ref 52) :: (3, .ref 71) :: (4, .int (nI i)) :: (5, .int r) :: L6) [] S1 := by
    intro S1 L6 p hL6
    obtain ⟨h1, fs1, o1⟩ := hP0 S1 p
    have k2 : ∀ S2, R S2 → aG (d + 1) 251 Q 2094 [(0, .ref 0), (1, .ref 1), (2, .ref 52), (3, .ref 71), (4, .int (nI i)), (5, .int r), (6, .int v)] [] S2 := by
      intro S2 p2
      obtain ⟨⟨fs, o2⟩, hv⟩ := hR S2 p2
      refine ar_ld i_L_law_2094 rfl rfl ?_
      refine ar_cr i_L_law_2095 rfl ⟨_, _, _, rfl, o2⟩ (Nat.le_of_ble_eq_true rfl) (m_thrown d o2) ?_
      refine ar_ld i_L_law_2098 rfl rfl ?_
      refine ar_ift i_L_law_2100 rfl (rfl) ?_
      refine ar_ld i_L_law_2105 rfl rfl ?_
      by_cases hr : r = 0
      · refine ar_iff i_L_law_2107 rfl (fun z => z hr) ?_
        obtain ⟨f, hf, hf0⟩ := hv hr
        refine ar_ld i_L_law_2110 rfl rfl ?_
        refine ar_push i_L_law_2111 ?_
        refine av_ldl (j := 0) i_L_law_2112 hf (by omega) (by omega) ?_
        rw [hf0]
        refine ar_ld i_L_law_2113 rfl rfl ?_
        refine ar_ar i_L_law_2115 rfl ?_
        refine ar_ar i_L_law_2116 rfl ?_
        refine ar_ift i_L_law_2117 rfl ((lg_cmp_eq _ _).mpr rfl) ?_
        refine ar_go i_L_law_2122 ?_
        exact k S2 p2
      · refine ar_ift i_L_law_2107 rfl (hr) ?_
        refine ar_go i_L_law_2122 ?_
        exact k S2 p2
    refine ar_ld i_L_law_2076 rfl rfl ?_
    refine ar_ld i_L_law_2077 rfl rfl ?_
    refine ar_ld i_L_law_2078 rfl rfl ?_
    refine ar_push i_L_law_2080 ?_
    refine ar_ar i_L_law_2081 rfl ?_
    rw [nI_1]
    refine av_ldi i_L_law_2082 (h1) (by omega) (by omega) ?_
    refine ar_ld i_L_law_2083 rfl rfl ?_
    refine ar_ld i_L_law_2084 rfl rfl ?_
    refine ar_push i_L_law_2086 ?_
    refine ar_ar i_L_law_2087 rfl ?_
    rw [show (2 : Int32) = nI 2 from rfl, nI_add]
    refine av_ldi i_L_law_2088 (h1) (by omega) (by omega) ?_
    refine av_cr i_L_law_2089 rfl ⟨_, _, _, rfl, o1⟩ (Nat.le_of_ble_eq_true rfl) (hM S1 p) (fun S2 p2 => ?_)
    have k3 := k2 S2 p2
    rcases hL6 with e | ⟨u, e⟩ | ⟨u, e⟩
    · subst e
      refine ar_st i_L_law_2092 rfl rfl ?_
      exact k3
    · subst e
      refine ar_st i_L_law_2092 rfl rfl ?_
      exact k3
    · subst e
      refine ar_st i_L_law_2092 rfl rfl ?_
      exact k3
  refine ar_ld i_L_law_2057 rfl rfl ?_
  refine ar_ld i_L_law_2058 rfl rfl ?_
  refine ar_ld i_L_law_2059 rfl rfl ?_
  refine ar_push i_L_law_2061 ?_
  refine ar_ar i_L_law_2062 rfl ?_
  rw [nI_1]
  refine av_ldi i_L_law_2063 (h0) (by omega) (by omega) ?_
  refine ar_ld i_L_law_2064 rfl rfl ?_
  refine ar_ld i_L_law_2065 rfl rfl ?_
  refine ar_push i_L_law_2067 ?_
  refine ar_ar i_L_law_2068 rfl ?_
  rw [show (2 : Int32) = nI 2 from rfl, nI_add]
  refine av_ldi i_L_law_2069 (h0) (by omega) (by omega) ?_
  refine ar_ld i_L_law_2070 rfl rfl ?_
  refine av_cr i_L_law_2071 rfl trivial (Nat.le_of_ble_eq_true rfl) (hL) (fun S1 p => ?_)
  rcases hT with e | ⟨u, L6, e, hL6⟩
  · subst e
    refine ar_st i_L_law_2074 rfl rfl ?_
    exact k1 S1 [] p (Or.inl rfl)
  · subst e
    rcases hL6 with e | ⟨u, e⟩ | ⟨u, e⟩
    · subst e
      refine ar_st i_L_law_2074 rfl rfl ?_
      exact k1 S1 [] p (Or.inl rfl)
    · subst e
      refine ar_st i_L_law_2074 rfl rfl ?_
      exact k1 S1 [(6, .int u)] p (Or.inr (Or.inl ⟨_, rfl⟩))
    · subst e
      refine ar_st i_L_law_2074 rfl rfl ?_
      exact k1 S1 [(6, .long u)] p (Or.inr (Or.inr ⟨_, rfl⟩))
theorem b_addPattern {d i n : Nat} {xs : Nat → Int32} {Q : aq_F} {S : aq_S} {r : Int32} {v : Int32} {P R : aq_S → Prop} {L : List (Nat × Value)} (hT : tl5 L) (h0 : S.2.2.2 0 = some (.inl (0, (n, .inl xs)))) (hi : i + 5 ≤ n) (hn : n ≤ 2560) (hL : aX (d + 1) 240 [.ref 1, .int (xs (i + 1)), .ref 71] S (fun o S' => o = .inl (some (.int r)) ∧ P S')) (hP0 : ∀ S1, P S1 → S1.2.2.2 0 = some (.inl (0, (n, .inl xs))) ∧ ∃ fs, S1.2.2.2 52 = some (.inr (7, fs))) (hM : ∀ S1, P S1 → aX (d + 1) 179 [.ref 52, .int (xs (i + 1))] S1 (fun o S' => o = .inl (some (.int v)) ∧ R S')) (hR : ∀ S2, R S2 → (∃ fs, S2.2.2.2 52 = some (.inr (7, .int r :: fs))) ∧ (r = 0 → oV S2 (v.toInt64))) (k : ∀ S2, R S2 → aG (d + 1) 251 Q 2846 [(0, .ref 0), (1, .ref 1), (2, .ref 52), (3, .ref 71), (4, .int (nI i)), (5, .int r), (6, .int v)] [] S2) : aG (d + 1) 251 Q 2125 ((0, .ref 0) :: (1, .ref 1) :: (2, .ref 52) :: (3, .ref 71) :: (4, .int (nI i)) :: L) [] S := by
  have k1 : ∀ (S1 : aq_S) (L6 : List (Nat × Value)), P S1 → tl6 L6 → aG (d + 1) 251 Q 2138 ((0, .ref 0) :: (1, .ref 1) :: (2, .ref 52) :: (3, .ref 71) :: (4, .int (nI i)) :: (5, .int r) :: L6) [] S1 := by
    intro S1 L6 p hL6
    obtain ⟨h1, fs1, o1⟩ := hP0 S1 p
    have k2 : ∀ S2, R S2 → aG (d + 1) 251 Q 2150 [(0, .ref 0), (1, .ref 1), (2, .ref 52), (3, .ref 71), (4, .int (nI i)), (5, .int r), (6, .int v)] [] S2 := by
      intro S2 p2
      obtain ⟨⟨fs, o2⟩, hv⟩ := hR S2 p2
      refine ar_ld i_L_law_2150 rfl rfl ?_
      refine ar_cr i_L_law_2151 rfl ⟨_, _, _, rfl, o2⟩ (Nat.le_of_ble_eq_true rfl) (m_thrown d o2) ?_
      refine ar_ld i_L_law_2154 rfl rfl ?_
      refine ar_ift i_L_law_2156 rfl (rfl) ?_
      refine ar_ld i_L_law_2161 rfl rfl ?_
      by_cases hr : r = 0
      · refine ar_iff i_L_law_2163 rfl (fun z => z hr) ?_
        obtain ⟨f, hf, hf0⟩ := hv hr
        refine ar_ld i_L_law_2166 rfl rfl ?_
        refine ar_push i_L_law_2167 ?_
        refine av_ldl (j := 0) i_L_law_2168 hf (by omega) (by omega) ?_
        rw [hf0]
        refine ar_ld i_L_law_2169 rfl rfl ?_
        refine ar_ar i_L_law_2171 rfl ?_
        refine ar_ar i_L_law_2172 rfl ?_
        refine ar_ift i_L_law_2173 rfl ((lg_cmp_eq _ _).mpr rfl) ?_
        refine ar_go i_L_law_2178 ?_
        exact k S2 p2
      · refine ar_ift i_L_law_2163 rfl (hr) ?_
        refine ar_go i_L_law_2178 ?_
        exact k S2 p2
    refine ar_ld i_L_law_2138 rfl rfl ?_
    refine ar_ld i_L_law_2139 rfl rfl ?_
    refine ar_ld i_L_law_2140 rfl rfl ?_
    refine ar_push i_L_law_2142 ?_
    refine ar_ar i_L_law_2143 rfl ?_
    rw [nI_1]
    refine av_ldi i_L_law_2144 (h1) (by omega) (by omega) ?_
    refine av_cr i_L_law_2145 rfl ⟨_, _, _, rfl, o1⟩ (Nat.le_of_ble_eq_true rfl) (hM S1 p) (fun S2 p2 => ?_)
    have k3 := k2 S2 p2
    rcases hL6 with e | ⟨u, e⟩ | ⟨u, e⟩
    · subst e
      refine ar_st i_L_law_2148 rfl rfl ?_
      exact k3
    · subst e
      refine ar_st i_L_law_2148 rfl rfl ?_
      exact k3
    · subst e
      refine ar_st i_L_law_2148 rfl rfl ?_
      exact k3
  refine ar_ld i_L_law_2125 rfl rfl ?_
  refine ar_ld i_L_law_2126 rfl rfl ?_
  refine ar_ld i_L_law_2127 rfl rfl ?_
  refine ar_push i_L_law_2129 ?_
  refine ar_ar i_L_law_2130 rfl ?_
  rw [nI_1]
  refine av_ldi i_L_law_2131 (h0) (by omega) (by omega) ?_
  refine ar_ld i_L_law_2132 rfl rfl ?_
  refine av_cr i_L_law_2133 rfl trivial (Nat.le_of_ble_eq_true rfl) (hL) (fun S1 p => ?_)
  rcases hT with e | ⟨u, L6, e, hL6⟩
  · subst e
    refine ar_st i_L_law_2136 rfl rfl ?_
    exact k1 S1 [] p (Or.inl rfl)
  · subst e
    rcases hL6 with e | ⟨u, e⟩ | ⟨u, e⟩
    · subst e
      refine ar_st i_L_law_2136 rfl rfl ?_
      exact k1 S1 [] p (Or.inl rfl)
    · subst e
      refine ar_st i_L_law_2136 rfl rfl ?_
      exact k1 S1 [(6, .int u)] p (Or.inr (Or.inl ⟨_, rfl⟩))
    · subst e
      refine ar_st i_L_law_2136 rfl rfl ?_
      exact k1 S1 [(6, .long u)] p (Or.inr (Or.inr ⟨_, rfl⟩))
theorem b_removePattern {d i n : Nat} {xs : Nat → Int32} {Q : aq_F} {S : aq_S} {r : Int32} {v : Int32} {P R : aq_S → Prop} {L : List (Nat × Value)} (hT : tl5 L) (h0 : S.2.2.2 0 = some (.inl (0, (n, .inl xs)))) (hi : i + 5 ≤ n) (hn : n ≤ 2560) (hL : aX (d + 1) 241 [.ref 1, .int (xs (i + 1)), .ref 71] S (fun o S' => o = .inl (some (.int r)) ∧ P S')) (hP0 : ∀ S1, P S1 → S1.2.2.2 0 = some (.inl (0, (n, .inl xs))) ∧ ∃ fs, S1.2.2.2 52 = some (.inr (7, fs))) (hM : ∀ S1, P S1 → aX (d + 1) 180 [.ref 52, .int (xs (i + 1))] S1 (fun o S' => o = .inl (some (.int v)) ∧ R S')) (hR : ∀ S2, R S2 → (∃ fs, S2.2.2.2 52 = some (.inr (7, .int r :: fs))) ∧ (r = 0 → oV S2 (v.toInt64))) (k : ∀ S2, R S2 → aG (d + 1) 251 Q 2846 [(0, .ref 0), (1, .ref 1), (2, .ref 52), (3, .ref 71), (4, .int (nI i)), (5, .int r), (6, .int v)] [] S2) : aG (d + 1) 251 Q 2181 ((0, .ref 0) :: (1, .ref 1) :: (2, .ref 52) :: (3, .ref 71) :: (4, .int (nI i)) :: L) [] S := by
  have k1 : ∀ (S1 : aq_S) (L6 : List (Nat × Value)), P S1 → tl6 L6 → aG (d + 1) 251 Q 2194 ((0, .ref 0) :: (1, .ref 1) :: (2, .ref 52) :: (3, .ref 71) :: (4, .int (nI i)) :: (5, .int r) :: L6) [] S1 := by
    intro S1 L6 p hL6
    obtain ⟨h1, fs1, o1⟩ := hP0 S1 p
    have k2 : ∀ S2, R S2 → aG (d + 1) 251 Q 2206 [(0, .ref 0), (1, .ref 1), (2, .ref 52), (3, .ref 71), (4, .int (nI i)), (5, .int r), (6, .int v)] [] S2 := by
      intro S2 p2
      obtain ⟨⟨fs, o2⟩, hv⟩ := hR S2 p2
      refine ar_ld i_L_law_2206 rfl rfl ?_
      refine ar_cr i_L_law_2207 rfl ⟨_, _, _, rfl, o2⟩ (Nat.le_of_ble_eq_true rfl) (m_thrown d o2) ?_
      refine ar_ld i_L_law_2210 rfl rfl ?_
      refine ar_ift i_L_law_2212 rfl (rfl) ?_
      refine ar_ld i_L_law_2217 rfl rfl ?_
      by_cases hr : r = 0
      · refine ar_iff i_L_law_2219 rfl (fun z => z hr) ?_
        obtain ⟨f, hf, hf0⟩ := hv hr
        refine ar_ld i_L_law_2222 rfl rfl ?_
        refine ar_push i_L_law_2223 ?_
        refine av_ldl (j := 0) i_L_law_2224 hf (by omega) (by omega) ?_
        rw [hf0]
        refine ar_ld i_L_law_2225 rfl rfl ?_
        refine ar_ar i_L_law_2227 rfl ?_
        refine ar_ar i_L_law_2228 rfl ?_
        refine ar_ift i_L_law_2229 rfl ((lg_cmp_eq _ _).mpr rfl) ?_
        refine ar_go i_L_law_2234 ?_
        exact k S2 p2
      · refine ar_ift i_L_law_2219 rfl (hr) ?_
        refine ar_go i_L_law_2234 ?_
        exact k S2 p2
    refine ar_ld i_L_law_2194 rfl rfl ?_
    refine ar_ld i_L_law_2195 rfl rfl ?_
    refine ar_ld i_L_law_2196 rfl rfl ?_
    refine ar_push i_L_law_2198 ?_
    refine ar_ar i_L_law_2199 rfl ?_
    rw [nI_1]
    refine av_ldi i_L_law_2200 (h1) (by omega) (by omega) ?_
    refine av_cr i_L_law_2201 rfl ⟨_, _, _, rfl, o1⟩ (Nat.le_of_ble_eq_true rfl) (hM S1 p) (fun S2 p2 => ?_)
    have k3 := k2 S2 p2
    rcases hL6 with e | ⟨u, e⟩ | ⟨u, e⟩
    · subst e
      refine ar_st i_L_law_2204 rfl rfl ?_
      exact k3
    · subst e
      refine ar_st i_L_law_2204 rfl rfl ?_
      exact k3
    · subst e
      refine ar_st i_L_law_2204 rfl rfl ?_
      exact k3
  refine ar_ld i_L_law_2181 rfl rfl ?_
  refine ar_ld i_L_law_2182 rfl rfl ?_
  refine ar_ld i_L_law_2183 rfl rfl ?_
  refine ar_push i_L_law_2185 ?_
  refine ar_ar i_L_law_2186 rfl ?_
  rw [nI_1]
  refine av_ldi i_L_law_2187 (h0) (by omega) (by omega) ?_
  refine ar_ld i_L_law_2188 rfl rfl ?_
  refine av_cr i_L_law_2189 rfl trivial (Nat.le_of_ble_eq_true rfl) (hL) (fun S1 p => ?_)
  rcases hT with e | ⟨u, L6, e, hL6⟩
  · subst e
    refine ar_st i_L_law_2192 rfl rfl ?_
    exact k1 S1 [] p (Or.inl rfl)
  · subst e
    rcases hL6 with e | ⟨u, e⟩ | ⟨u, e⟩
    · subst e
      refine ar_st i_L_law_2192 rfl rfl ?_
      exact k1 S1 [] p (Or.inl rfl)
    · subst e
      refine ar_st i_L_law_2192 rfl rfl ?_
      exact k1 S1 [(6, .int u)] p (Or.inr (Or.inl ⟨_, rfl⟩))
    · subst e
      refine ar_st i_L_law_2192 rfl rfl ?_
      exact k1 S1 [(6, .long u)] p (Or.inr (Or.inr ⟨_, rfl⟩))
theorem b_patternCount {d i : Nat} {Q : aq_F} {S : aq_S} {v : Int32} {vs : List Value} {P R : aq_S → Prop} {L : List (Nat × Value)} (h1 : S.2.2.2 1 = some (.inr (6, vs))) (hL : aX (d + 1) 97 [.ref 1] S (fun o S' => o = .inl (some (.int v)) ∧ P S')) (hP0 : ∀ S1, P S1 → ∃ fs, S1.2.2.2 52 = some (.inr (7, fs))) (hM : ∀ S1, P S1 → aX (d + 1) 181 [.ref 52] S1 (fun o S' => o = .inl (some (.int v)) ∧ R S')) (k : ∀ S2, R S2 → aG (d + 1) 251 Q 2846 ((0, .ref 0) :: (1, .ref 1) :: (2, .ref 52) :: (3, .ref 71) :: (4, .int (nI i)) :: L) [] S2) : aG (d + 1) 251 Q 2237 ((0, .ref 0) :: (1, .ref 1) :: (2, .ref 52) :: (3, .ref 71) :: (4, .int (nI i)) :: L) [] S := by
  refine ar_ld i_L_law_2237 rfl rfl ?_
  refine av_cr i_L_law_2238 rfl ⟨_, _, _, rfl, h1⟩ (Nat.le_of_ble_eq_true rfl) (hL) (fun S1 p => ?_)
  obtain ⟨fs, o1⟩ := hP0 S1 p
  refine ar_ld i_L_law_2241 rfl rfl ?_
  refine av_cr i_L_law_2242 rfl ⟨_, _, _, rfl, o1⟩ (Nat.le_of_ble_eq_true rfl) (hM S1 p) (fun S2 p2 => ?_)
  refine ar_ift i_L_law_2245 rfl (rfl) ?_
  exact k S2 p2
theorem b_avoids {d i n : Nat} {xs : Nat → Int32} {Q : aq_F} {S : aq_S} {r : Int32} {v : Int32} {P R : aq_S → Prop} {L : List (Nat × Value)} (hT : tl5 L) (h0 : S.2.2.2 0 = some (.inl (0, (n, .inl xs)))) (hi : i + 5 ≤ n) (hn : n ≤ 2560) (hL : aX (d + 1) 242 [.ref 1, .int (xs (i + 1)), .ref 71] S (fun o S' => o = .inl (some (.int r)) ∧ P S')) (hP0 : ∀ S1, P S1 → S1.2.2.2 0 = some (.inl (0, (n, .inl xs))) ∧ ∃ fs, S1.2.2.2 52 = some (.inr (7, fs))) (hM : ∀ S1, P S1 → aX (d + 1) 183 [.ref 52, .int (xs (i + 1))] S1 (fun o S' => o = .inl (some (.int v)) ∧ R S')) (hR : ∀ S2, R S2 → (∃ fs, S2.2.2.2 52 = some (.inr (7, .int r :: fs))) ∧ (r = 0 → oV S2 (if v = 0 then 0 else 1))) (k : ∀ S2, R S2 → aG (d + 1) 251 Q 2846 [(0, .ref 0), (1, .ref 1), (2, .ref 52), (3, .ref 71), (4, .int (nI i)), (5, .int r), (6, .int v)] [] S2) : aG (d + 1) 251 Q 2250 ((0, .ref 0) :: (1, .ref 1) :: (2, .ref 52) :: (3, .ref 71) :: (4, .int (nI i)) :: L) [] S := by
  have k1 : ∀ (S1 : aq_S) (L6 : List (Nat × Value)), P S1 → tl6 L6 → aG (d + 1) 251 Q 2263 ((0, .ref 0) :: (1, .ref 1) :: (2, .ref 52) :: (3, .ref 71) :: (4, .int (nI i)) :: (5, .int r) :: L6) [] S1 := by
    intro S1 L6 p hL6
    obtain ⟨h1, fs1, o1⟩ := hP0 S1 p
    have k2 : ∀ S2, R S2 → aG (d + 1) 251 Q 2275 [(0, .ref 0), (1, .ref 1), (2, .ref 52), (3, .ref 71), (4, .int (nI i)), (5, .int r), (6, .int v)] [] S2 := by
      intro S2 p2
      obtain ⟨⟨fs, o2⟩, hv⟩ := hR S2 p2
      refine ar_ld i_L_law_2275 rfl rfl ?_
      refine ar_cr i_L_law_2276 rfl ⟨_, _, _, rfl, o2⟩ (Nat.le_of_ble_eq_true rfl) (m_thrown d o2) ?_
      refine ar_ld i_L_law_2279 rfl rfl ?_
      refine ar_ift i_L_law_2281 rfl (rfl) ?_
      refine ar_ld i_L_law_2286 rfl rfl ?_
      by_cases hr : r = 0
      · refine ar_iff i_L_law_2288 rfl (fun z => z hr) ?_
        obtain ⟨f, hf, hf0⟩ := hv hr
        refine ar_ld i_L_law_2291 rfl rfl ?_
        refine ar_push i_L_law_2292 ?_
        refine av_ldl (j := 0) i_L_law_2293 hf (by omega) (by omega) ?_
        rw [hf0]
        refine ar_ld i_L_law_2294 rfl rfl ?_
        by_cases hv0 : v = 0
        · refine ar_ift i_L_law_2296 rfl (hv0) ?_
          rw [if_pos hv0]
          refine ar_push i_L_law_2303 ?_
          refine ar_ar i_L_law_2304 rfl ?_
          refine ar_ift i_L_law_2305 rfl ((lg_cmp_eq _ _).mpr rfl) ?_
          refine ar_go i_L_law_2310 ?_
          exact k S2 p2
        · refine ar_iff i_L_law_2296 rfl (hv0) ?_
          rw [if_neg hv0]
          refine ar_push i_L_law_2299 ?_
          refine ar_go i_L_law_2300 ?_
          refine ar_ar i_L_law_2304 rfl ?_
          refine ar_ift i_L_law_2305 rfl ((lg_cmp_eq _ _).mpr rfl) ?_
          refine ar_go i_L_law_2310 ?_
          exact k S2 p2
      · refine ar_ift i_L_law_2288 rfl (hr) ?_
        refine ar_go i_L_law_2310 ?_
        exact k S2 p2
    refine ar_ld i_L_law_2263 rfl rfl ?_
    refine ar_ld i_L_law_2264 rfl rfl ?_
    refine ar_ld i_L_law_2265 rfl rfl ?_
    refine ar_push i_L_law_2267 ?_
    refine ar_ar i_L_law_2268 rfl ?_
    rw [nI_1]
    refine av_ldi i_L_law_2269 (h1) (by omega) (by omega) ?_
    refine av_cr i_L_law_2270 rfl ⟨_, _, _, rfl, o1⟩ (Nat.le_of_ble_eq_true rfl) (hM S1 p) (fun S2 p2 => ?_)
    have k3 := k2 S2 p2
    rcases hL6 with e | ⟨u, e⟩ | ⟨u, e⟩
    · subst e
      refine ar_st i_L_law_2273 rfl rfl ?_
      exact k3
    · subst e
      refine ar_st i_L_law_2273 rfl rfl ?_
      exact k3
    · subst e
      refine ar_st i_L_law_2273 rfl rfl ?_
      exact k3
  refine ar_ld i_L_law_2250 rfl rfl ?_
  refine ar_ld i_L_law_2251 rfl rfl ?_
  refine ar_ld i_L_law_2252 rfl rfl ?_
  refine ar_push i_L_law_2254 ?_
  refine ar_ar i_L_law_2255 rfl ?_
  rw [nI_1]
  refine av_ldi i_L_law_2256 (h0) (by omega) (by omega) ?_
  refine ar_ld i_L_law_2257 rfl rfl ?_
  refine av_cr i_L_law_2258 rfl trivial (Nat.le_of_ble_eq_true rfl) (hL) (fun S1 p => ?_)
  rcases hT with e | ⟨u, L6, e, hL6⟩
  · subst e
    refine ar_st i_L_law_2261 rfl rfl ?_
    exact k1 S1 [] p (Or.inl rfl)
  · subst e
    rcases hL6 with e | ⟨u, e⟩ | ⟨u, e⟩
    · subst e
      refine ar_st i_L_law_2261 rfl rfl ?_
      exact k1 S1 [] p (Or.inl rfl)
    · subst e
      refine ar_st i_L_law_2261 rfl rfl ?_
      exact k1 S1 [(6, .int u)] p (Or.inr (Or.inl ⟨_, rfl⟩))
    · subst e
      refine ar_st i_L_law_2261 rfl rfl ?_
      exact k1 S1 [(6, .long u)] p (Or.inr (Or.inr ⟨_, rfl⟩))
theorem b_isUnavoidable {d i : Nat} {Q : aq_F} {S : aq_S} {v : Int32} {vs : List Value} {P R : aq_S → Prop} {L : List (Nat × Value)} (h1 : S.2.2.2 1 = some (.inr (6, vs))) (hL : aX (d + 1) 99 [.ref 1] S (fun o S' => o = .inl (some (.int v)) ∧ P S')) (hP0 : ∀ S1, P S1 → ∃ fs, S1.2.2.2 52 = some (.inr (7, fs))) (hM : ∀ S1, P S1 → aX (d + 1) 191 [.ref 52] S1 (fun o S' => o = .inl (some (.int v)) ∧ R S')) (k : ∀ S2, R S2 → aG (d + 1) 251 Q 2846 ((0, .ref 0) :: (1, .ref 1) :: (2, .ref 52) :: (3, .ref 71) :: (4, .int (nI i)) :: L) [] S2) : aG (d + 1) 251 Q 2313 ((0, .ref 0) :: (1, .ref 1) :: (2, .ref 52) :: (3, .ref 71) :: (4, .int (nI i)) :: L) [] S := by
  refine ar_ld i_L_law_2313 rfl rfl ?_
  refine av_cr i_L_law_2314 rfl ⟨_, _, _, rfl, h1⟩ (Nat.le_of_ble_eq_true rfl) (hL) (fun S1 p => ?_)
  obtain ⟨fs, o1⟩ := hP0 S1 p
  refine ar_ld i_L_law_2317 rfl rfl ?_
  refine av_cr i_L_law_2318 rfl ⟨_, _, _, rfl, o1⟩ (Nat.le_of_ble_eq_true rfl) (hM S1 p) (fun S2 p2 => ?_)
  refine ar_ift i_L_law_2321 rfl (rfl) ?_
  exact k S2 p2
theorem b_isMinimal {d i : Nat} {Q : aq_F} {S : aq_S} {v : Int32} {vs : List Value} {P R : aq_S → Prop} {L : List (Nat × Value)} (h1 : S.2.2.2 1 = some (.inr (6, vs))) (hL : aX (d + 1) 100 [.ref 1] S (fun o S' => o = .inl (some (.int v)) ∧ P S')) (hP0 : ∀ S1, P S1 → ∃ fs, S1.2.2.2 52 = some (.inr (7, fs))) (hM : ∀ S1, P S1 → aX (d + 1) 192 [.ref 52] S1 (fun o S' => o = .inl (some (.int v)) ∧ R S')) (k : ∀ S2, R S2 → aG (d + 1) 251 Q 2846 ((0, .ref 0) :: (1, .ref 1) :: (2, .ref 52) :: (3, .ref 71) :: (4, .int (nI i)) :: L) [] S2) : aG (d + 1) 251 Q 2326 ((0, .ref 0) :: (1, .ref 1) :: (2, .ref 52) :: (3, .ref 71) :: (4, .int (nI i)) :: L) [] S := by
  refine ar_ld i_L_law_2326 rfl rfl ?_
  refine av_cr i_L_law_2327 rfl ⟨_, _, _, rfl, h1⟩ (Nat.le_of_ble_eq_true rfl) (hL) (fun S1 p => ?_)
  obtain ⟨fs, o1⟩ := hP0 S1 p
  refine ar_ld i_L_law_2330 rfl rfl ?_
  refine av_cr i_L_law_2331 rfl ⟨_, _, _, rfl, o1⟩ (Nat.le_of_ble_eq_true rfl) (hM S1 p) (fun S2 p2 => ?_)
  refine ar_ift i_L_law_2334 rfl (rfl) ?_
  exact k S2 p2
theorem b_longestAvoiding {d i n : Nat} {xs : Nat → Int32} {Q : aq_F} {S : aq_S} {r : Int32} {v : Int32} {P R : aq_S → Prop} {L : List (Nat × Value)} (hT : tl5 L) (h0 : S.2.2.2 0 = some (.inl (0, (n, .inl xs)))) (hi : i + 5 ≤ n) (hn : n ≤ 2560) (hL : aX (d + 1) 243 [.ref 1, .ref 71] S (fun o S' => o = .inl (some (.int r)) ∧ P S')) (hP0 : ∀ S1, P S1 → S1.2.2.2 0 = some (.inl (0, (n, .inl xs))) ∧ ∃ fs, S1.2.2.2 52 = some (.inr (7, fs))) (hM : ∀ S1, P S1 → aX (d + 1) 193 [.ref 52] S1 (fun o S' => o = .inl (some (.int v)) ∧ R S')) (hR : ∀ S2, R S2 → (∃ fs, S2.2.2.2 52 = some (.inr (7, .int r :: fs))) ∧ (r = 0 → oV S2 (v.toInt64))) (k : ∀ S2, R S2 → aG (d + 1) 251 Q 2846 [(0, .ref 0), (1, .ref 1), (2, .ref 52), (3, .ref 71), (4, .int (nI i)), (5, .int r), (6, .int v)] [] S2) : aG (d + 1) 251 Q 2339 ((0, .ref 0) :: (1, .ref 1) :: (2, .ref 52) :: (3, .ref 71) :: (4, .int (nI i)) :: L) [] S := by
  have k1 : ∀ (S1 : aq_S) (L6 : List (Nat × Value)), P S1 → tl6 L6 → aG (d + 1) 251 Q 2346 ((0, .ref 0) :: (1, .ref 1) :: (2, .ref 52) :: (3, .ref 71) :: (4, .int (nI i)) :: (5, .int r) :: L6) [] S1 := by
    intro S1 L6 p hL6
    obtain ⟨h1, fs1, o1⟩ := hP0 S1 p
    have k2 : ∀ S2, R S2 → aG (d + 1) 251 Q 2352 [(0, .ref 0), (1, .ref 1), (2, .ref 52), (3, .ref 71), (4, .int (nI i)), (5, .int r), (6, .int v)] [] S2 := by
      intro S2 p2
      obtain ⟨⟨fs, o2⟩, hv⟩ := hR S2 p2
      refine ar_ld i_L_law_2352 rfl rfl ?_
      refine ar_cr i_L_law_2353 rfl ⟨_, _, _, rfl, o2⟩ (Nat.le_of_ble_eq_true rfl) (m_thrown d o2) ?_
      refine ar_ld i_L_law_2356 rfl rfl ?_
      refine ar_ift i_L_law_2358 rfl (rfl) ?_
      refine ar_ld i_L_law_2363 rfl rfl ?_
      by_cases hr : r = 0
      · refine ar_iff i_L_law_2365 rfl (fun z => z hr) ?_
        obtain ⟨f, hf, hf0⟩ := hv hr
        refine ar_ld i_L_law_2368 rfl rfl ?_
        refine ar_push i_L_law_2369 ?_
        refine av_ldl (j := 0) i_L_law_2370 hf (by omega) (by omega) ?_
        rw [hf0]
        refine ar_ld i_L_law_2371 rfl rfl ?_
        refine ar_ar i_L_law_2373 rfl ?_
        refine ar_ar i_L_law_2374 rfl ?_
        refine ar_ift i_L_law_2375 rfl ((lg_cmp_eq _ _).mpr rfl) ?_
        refine ar_go i_L_law_2380 ?_
        exact k S2 p2
      · refine ar_ift i_L_law_2365 rfl (hr) ?_
        refine ar_go i_L_law_2380 ?_
        exact k S2 p2
    refine ar_ld i_L_law_2346 rfl rfl ?_
    refine av_cr i_L_law_2347 rfl ⟨_, _, _, rfl, o1⟩ (Nat.le_of_ble_eq_true rfl) (hM S1 p) (fun S2 p2 => ?_)
    have k3 := k2 S2 p2
    rcases hL6 with e | ⟨u, e⟩ | ⟨u, e⟩
    · subst e
      refine ar_st i_L_law_2350 rfl rfl ?_
      exact k3
    · subst e
      refine ar_st i_L_law_2350 rfl rfl ?_
      exact k3
    · subst e
      refine ar_st i_L_law_2350 rfl rfl ?_
      exact k3
  refine ar_ld i_L_law_2339 rfl rfl ?_
  refine ar_ld i_L_law_2340 rfl rfl ?_
  refine av_cr i_L_law_2341 rfl trivial (Nat.le_of_ble_eq_true rfl) (hL) (fun S1 p => ?_)
  rcases hT with e | ⟨u, L6, e, hL6⟩
  · subst e
    refine ar_st i_L_law_2344 rfl rfl ?_
    exact k1 S1 [] p (Or.inl rfl)
  · subst e
    rcases hL6 with e | ⟨u, e⟩ | ⟨u, e⟩
    · subst e
      refine ar_st i_L_law_2344 rfl rfl ?_
      exact k1 S1 [] p (Or.inl rfl)
    · subst e
      refine ar_st i_L_law_2344 rfl rfl ?_
      exact k1 S1 [(6, .int u)] p (Or.inr (Or.inl ⟨_, rfl⟩))
    · subst e
      refine ar_st i_L_law_2344 rfl rfl ?_
      exact k1 S1 [(6, .long u)] p (Or.inr (Or.inr ⟨_, rfl⟩))
theorem b_countAvoiding {d i n : Nat} {xs : Nat → Int32} {Q : aq_F} {S : aq_S} {r : Int32} {v : Int64} {P R : aq_S → Prop} {L : List (Nat × Value)} (hT : tl5 L) (h0 : S.2.2.2 0 = some (.inl (0, (n, .inl xs)))) (hi : i + 5 ≤ n) (hn : n ≤ 2560) (hL : aX (d + 1) 244 [.ref 1, .int (xs (i + 1)), .ref 71] S (fun o S' => o = .inl (some (.int r)) ∧ P S')) (hP0 : ∀ S1, P S1 → S1.2.2.2 0 = some (.inl (0, (n, .inl xs))) ∧ ∃ fs, S1.2.2.2 52 = some (.inr (7, fs))) (hM : ∀ S1, P S1 → aX (d + 1) 194 [.ref 52, .int (xs (i + 1))] S1 (fun o S' => o = .inl (some (.long v)) ∧ R S')) (hR : ∀ S2, R S2 → (∃ fs, S2.2.2.2 52 = some (.inr (7, .int r :: fs))) ∧ (r = 0 → oV S2 (v))) (k : ∀ S2, R S2 → aG (d + 1) 251 Q 2846 [(0, .ref 0), (1, .ref 1), (2, .ref 52), (3, .ref 71), (4, .int (nI i)), (5, .int r), (6, .long v)] [] S2) : aG (d + 1) 251 Q 2383 ((0, .ref 0) :: (1, .ref 1) :: (2, .ref 52) :: (3, .ref 71) :: (4, .int (nI i)) :: L) [] S := by
  have k1 : ∀ (S1 : aq_S) (L6 : List (Nat × Value)), P S1 → tl6 L6 → aG (d + 1) 251 Q 2396 ((0, .ref 0) :: (1, .ref 1) :: (2, .ref 52) :: (3, .ref 71) :: (4, .int (nI i)) :: (5, .int r) :: L6) [] S1 := by
    intro S1 L6 p hL6
    obtain ⟨h1, fs1, o1⟩ := hP0 S1 p
    have k2 : ∀ S2, R S2 → aG (d + 1) 251 Q 2408 [(0, .ref 0), (1, .ref 1), (2, .ref 52), (3, .ref 71), (4, .int (nI i)), (5, .int r), (6, .long v)] [] S2 := by
      intro S2 p2
      obtain ⟨⟨fs, o2⟩, hv⟩ := hR S2 p2
      refine ar_ld i_L_law_2408 rfl rfl ?_
      refine ar_cr i_L_law_2409 rfl ⟨_, _, _, rfl, o2⟩ (Nat.le_of_ble_eq_true rfl) (m_thrown d o2) ?_
      refine ar_ld i_L_law_2412 rfl rfl ?_
      refine ar_ift i_L_law_2414 rfl (rfl) ?_
      refine ar_ld i_L_law_2419 rfl rfl ?_
      by_cases hr : r = 0
      · refine ar_iff i_L_law_2421 rfl (fun z => z hr) ?_
        obtain ⟨f, hf, hf0⟩ := hv hr
        refine ar_ld i_L_law_2424 rfl rfl ?_
        refine ar_push i_L_law_2425 ?_
        refine av_ldl (j := 0) i_L_law_2426 hf (by omega) (by omega) ?_
        rw [hf0]
        refine ar_ld i_L_law_2427 rfl rfl ?_
        refine ar_ar i_L_law_2429 rfl ?_
        refine ar_ift i_L_law_2430 rfl ((lg_cmp_eq _ _).mpr rfl) ?_
        refine ar_go i_L_law_2435 ?_
        exact k S2 p2
      · refine ar_ift i_L_law_2421 rfl (hr) ?_
        refine ar_go i_L_law_2435 ?_
        exact k S2 p2
    refine ar_ld i_L_law_2396 rfl rfl ?_
    refine ar_ld i_L_law_2397 rfl rfl ?_
    refine ar_ld i_L_law_2398 rfl rfl ?_
    refine ar_push i_L_law_2400 ?_
    refine ar_ar i_L_law_2401 rfl ?_
    rw [nI_1]
    refine av_ldi i_L_law_2402 (h1) (by omega) (by omega) ?_
    refine av_cr i_L_law_2403 rfl ⟨_, _, _, rfl, o1⟩ (Nat.le_of_ble_eq_true rfl) (hM S1 p) (fun S2 p2 => ?_)
    have k3 := k2 S2 p2
    rcases hL6 with e | ⟨u, e⟩ | ⟨u, e⟩
    · subst e
      refine ar_st i_L_law_2406 rfl rfl ?_
      exact k3
    · subst e
      refine ar_st i_L_law_2406 rfl rfl ?_
      exact k3
    · subst e
      refine ar_st i_L_law_2406 rfl rfl ?_
      exact k3
  refine ar_ld i_L_law_2383 rfl rfl ?_
  refine ar_ld i_L_law_2384 rfl rfl ?_
  refine ar_ld i_L_law_2385 rfl rfl ?_
  refine ar_push i_L_law_2387 ?_
  refine ar_ar i_L_law_2388 rfl ?_
  rw [nI_1]
  refine av_ldi i_L_law_2389 (h0) (by omega) (by omega) ?_
  refine ar_ld i_L_law_2390 rfl rfl ?_
  refine av_cr i_L_law_2391 rfl trivial (Nat.le_of_ble_eq_true rfl) (hL) (fun S1 p => ?_)
  rcases hT with e | ⟨u, L6, e, hL6⟩
  · subst e
    refine ar_st i_L_law_2394 rfl rfl ?_
    exact k1 S1 [] p (Or.inl rfl)
  · subst e
    rcases hL6 with e | ⟨u, e⟩ | ⟨u, e⟩
    · subst e
      refine ar_st i_L_law_2394 rfl rfl ?_
      exact k1 S1 [] p (Or.inl rfl)
    · subst e
      refine ar_st i_L_law_2394 rfl rfl ?_
      exact k1 S1 [(6, .int u)] p (Or.inr (Or.inl ⟨_, rfl⟩))
    · subst e
      refine ar_st i_L_law_2394 rfl rfl ?_
      exact k1 S1 [(6, .long u)] p (Or.inr (Or.inr ⟨_, rfl⟩))
theorem b_avoidingCycle {d i n : Nat} {xs : Nat → Int32} {Q : aq_F} {S : aq_S} {r : Int32} {v : Int32} {P R : aq_S → Prop} {L : List (Nat × Value)} (hT : tl5 L) (h0 : S.2.2.2 0 = some (.inl (0, (n, .inl xs)))) (hi : i + 5 ≤ n) (hn : n ≤ 2560) (hL : aX (d + 1) 245 [.ref 1, .int (xs (i + 1)), .ref 71] S (fun o S' => o = .inl (some (.int r)) ∧ P S')) (hP0 : ∀ S1, P S1 → S1.2.2.2 0 = some (.inl (0, (n, .inl xs))) ∧ ∃ fs, S1.2.2.2 52 = some (.inr (7, fs))) (hM : ∀ S1, P S1 → aX (d + 1) 199 [.ref 52, .int (xs (i + 1))] S1 (fun o S' => o = .inl (some (.int v)) ∧ R S')) (hR : ∀ S2, R S2 → (∃ fs, S2.2.2.2 52 = some (.inr (7, .int r :: fs))) ∧ (r = 0 → oV S2 (v.toInt64))) (k : ∀ S2, R S2 → aG (d + 1) 251 Q 2846 [(0, .ref 0), (1, .ref 1), (2, .ref 52), (3, .ref 71), (4, .int (nI i)), (5, .int r), (6, .int v)] [] S2) : aG (d + 1) 251 Q 2438 ((0, .ref 0) :: (1, .ref 1) :: (2, .ref 52) :: (3, .ref 71) :: (4, .int (nI i)) :: L) [] S := by
  have k1 : ∀ (S1 : aq_S) (L6 : List (Nat × Value)), P S1 → tl6 L6 → aG (d + 1) 251 Q 2451 ((0, .ref 0) :: (1, .ref 1) :: (2, .ref 52) :: (3, .ref 71) :: (4, .int (nI i)) :: (5, .int r) :: L6) [] S1 := by
    intro S1 L6 p hL6
    obtain ⟨h1, fs1, o1⟩ := hP0 S1 p
    have k2 : ∀ S2, R S2 → aG (d + 1) 251 Q 2463 [(0, .ref 0), (1, .ref 1), (2, .ref 52), (3, .ref 71), (4, .int (nI i)), (5, .int r), (6, .int v)] [] S2 := by
      intro S2 p2
      obtain ⟨⟨fs, o2⟩, hv⟩ := hR S2 p2
      refine ar_ld i_L_law_2463 rfl rfl ?_
      refine ar_cr i_L_law_2464 rfl ⟨_, _, _, rfl, o2⟩ (Nat.le_of_ble_eq_true rfl) (m_thrown d o2) ?_
      refine ar_ld i_L_law_2467 rfl rfl ?_
      refine ar_ift i_L_law_2469 rfl (rfl) ?_
      refine ar_ld i_L_law_2474 rfl rfl ?_
      by_cases hr : r = 0
      · refine ar_iff i_L_law_2476 rfl (fun z => z hr) ?_
        obtain ⟨f, hf, hf0⟩ := hv hr
        refine ar_ld i_L_law_2479 rfl rfl ?_
        refine ar_push i_L_law_2480 ?_
        refine av_ldl (j := 0) i_L_law_2481 hf (by omega) (by omega) ?_
        rw [hf0]
        refine ar_ld i_L_law_2482 rfl rfl ?_
        refine ar_ar i_L_law_2484 rfl ?_
        refine ar_ar i_L_law_2485 rfl ?_
        refine ar_ift i_L_law_2486 rfl ((lg_cmp_eq _ _).mpr rfl) ?_
        refine ar_go i_L_law_2491 ?_
        exact k S2 p2
      · refine ar_ift i_L_law_2476 rfl (hr) ?_
        refine ar_go i_L_law_2491 ?_
        exact k S2 p2
    refine ar_ld i_L_law_2451 rfl rfl ?_
    refine ar_ld i_L_law_2452 rfl rfl ?_
    refine ar_ld i_L_law_2453 rfl rfl ?_
    refine ar_push i_L_law_2455 ?_
    refine ar_ar i_L_law_2456 rfl ?_
    rw [nI_1]
    refine av_ldi i_L_law_2457 (h1) (by omega) (by omega) ?_
    refine av_cr i_L_law_2458 rfl ⟨_, _, _, rfl, o1⟩ (Nat.le_of_ble_eq_true rfl) (hM S1 p) (fun S2 p2 => ?_)
    have k3 := k2 S2 p2
    rcases hL6 with e | ⟨u, e⟩ | ⟨u, e⟩
    · subst e
      refine ar_st i_L_law_2461 rfl rfl ?_
      exact k3
    · subst e
      refine ar_st i_L_law_2461 rfl rfl ?_
      exact k3
    · subst e
      refine ar_st i_L_law_2461 rfl rfl ?_
      exact k3
  refine ar_ld i_L_law_2438 rfl rfl ?_
  refine ar_ld i_L_law_2439 rfl rfl ?_
  refine ar_ld i_L_law_2440 rfl rfl ?_
  refine ar_push i_L_law_2442 ?_
  refine ar_ar i_L_law_2443 rfl ?_
  rw [nI_1]
  refine av_ldi i_L_law_2444 (h0) (by omega) (by omega) ?_
  refine ar_ld i_L_law_2445 rfl rfl ?_
  refine av_cr i_L_law_2446 rfl trivial (Nat.le_of_ble_eq_true rfl) (hL) (fun S1 p => ?_)
  rcases hT with e | ⟨u, L6, e, hL6⟩
  · subst e
    refine ar_st i_L_law_2449 rfl rfl ?_
    exact k1 S1 [] p (Or.inl rfl)
  · subst e
    rcases hL6 with e | ⟨u, e⟩ | ⟨u, e⟩
    · subst e
      refine ar_st i_L_law_2449 rfl rfl ?_
      exact k1 S1 [] p (Or.inl rfl)
    · subst e
      refine ar_st i_L_law_2449 rfl rfl ?_
      exact k1 S1 [(6, .int u)] p (Or.inr (Or.inl ⟨_, rfl⟩))
    · subst e
      refine ar_st i_L_law_2449 rfl rfl ?_
      exact k1 S1 [(6, .long u)] p (Or.inr (Or.inr ⟨_, rfl⟩))
theorem b_newRow {d i n : Nat} {xs : Nat → Int32} {Q : aq_F} {S : aq_S} {r : Int32} {v : Int32} {P R : aq_S → Prop} {L : List (Nat × Value)} (hT : tl5 L) (h0 : S.2.2.2 0 = some (.inl (0, (n, .inl xs)))) (hi : i + 5 ≤ n) (hn : n ≤ 2560) (hL : aX (d + 1) 246 [.ref 1, .int (xs (i + 1)), .int (xs (i + 2)), .int (xs (i + 3)), .ref 71] S (fun o S' => o = .inl (some (.int r)) ∧ P S')) (hP0 : ∀ S1, P S1 → S1.2.2.2 0 = some (.inl (0, (n, .inl xs))) ∧ ∃ fs, S1.2.2.2 52 = some (.inr (7, fs))) (hM : ∀ S1, P S1 → aX (d + 1) 202 [.ref 52, .int (xs (i + 1)), .int (xs (i + 2)), .int (xs (i + 3))] S1 (fun o S' => o = .inl (some (.int v)) ∧ R S')) (hR : ∀ S2, R S2 → (∃ fs, S2.2.2.2 52 = some (.inr (7, .int r :: fs))) ∧ (r = 0 → oV S2 (v.toInt64))) (k : ∀ S2, R S2 → aG (d + 1) 251 Q 2846 [(0, .ref 0), (1, .ref 1), (2, .ref 52), (3, .ref 71), (4, .int (nI i)), (5, .int r), (6, .int v)] [] S2) : aG (d + 1) 251 Q 2494 ((0, .ref 0) :: (1, .ref 1) :: (2, .ref 52) :: (3, .ref 71) :: (4, .int (nI i)) :: L) [] S := by
  have k1 : ∀ (S1 : aq_S) (L6 : List (Nat × Value)), P S1 → tl6 L6 → aG (d + 1) 251 Q 2519 ((0, .ref 0) :: (1, .ref 1) :: (2, .ref 52) :: (3, .ref 71) :: (4, .int (nI i)) :: (5, .int r) :: L6) [] S1 := by
    intro S1 L6 p hL6
    obtain ⟨h1, fs1, o1⟩ := hP0 S1 p
    have k2 : ∀ S2, R S2 → aG (d + 1) 251 Q 2543 [(0, .ref 0), (1, .ref 1), (2, .ref 52), (3, .ref 71), (4, .int (nI i)), (5, .int r), (6, .int v)] [] S2 := by
      intro S2 p2
      obtain ⟨⟨fs, o2⟩, hv⟩ := hR S2 p2
      refine ar_ld i_L_law_2543 rfl rfl ?_
      refine ar_cr i_L_law_2544 rfl ⟨_, _, _, rfl, o2⟩ (Nat.le_of_ble_eq_true rfl) (m_thrown d o2) ?_
      refine ar_ld i_L_law_2547 rfl rfl ?_
      refine ar_ift i_L_law_2549 rfl (rfl) ?_
      refine ar_ld i_L_law_2554 rfl rfl ?_
      by_cases hr : r = 0
      · refine ar_iff i_L_law_2556 rfl (fun z => z hr) ?_
        obtain ⟨f, hf, hf0⟩ := hv hr
        refine ar_ld i_L_law_2559 rfl rfl ?_
        refine ar_push i_L_law_2560 ?_
        refine av_ldl (j := 0) i_L_law_2561 hf (by omega) (by omega) ?_
        rw [hf0]
        refine ar_ld i_L_law_2562 rfl rfl ?_
        refine ar_ar i_L_law_2564 rfl ?_
        refine ar_ar i_L_law_2565 rfl ?_
        refine ar_ift i_L_law_2566 rfl ((lg_cmp_eq _ _).mpr rfl) ?_
        refine ar_go i_L_law_2571 ?_
        exact k S2 p2
      · refine ar_ift i_L_law_2556 rfl (hr) ?_
        refine ar_go i_L_law_2571 ?_
        exact k S2 p2
    refine ar_ld i_L_law_2519 rfl rfl ?_
    refine ar_ld i_L_law_2520 rfl rfl ?_
    refine ar_ld i_L_law_2521 rfl rfl ?_
    refine ar_push i_L_law_2523 ?_
    refine ar_ar i_L_law_2524 rfl ?_
    rw [nI_1]
    refine av_ldi i_L_law_2525 (h1) (by omega) (by omega) ?_
    refine ar_ld i_L_law_2526 rfl rfl ?_
    refine ar_ld i_L_law_2527 rfl rfl ?_
    refine ar_push i_L_law_2529 ?_
    refine ar_ar i_L_law_2530 rfl ?_
    rw [show (2 : Int32) = nI 2 from rfl, nI_add]
    refine av_ldi i_L_law_2531 (h1) (by omega) (by omega) ?_
    refine ar_ld i_L_law_2532 rfl rfl ?_
    refine ar_ld i_L_law_2533 rfl rfl ?_
    refine ar_push i_L_law_2535 ?_
    refine ar_ar i_L_law_2536 rfl ?_
    rw [show (3 : Int32) = nI 3 from rfl, nI_add]
    refine av_ldi i_L_law_2537 (h1) (by omega) (by omega) ?_
    refine av_cr i_L_law_2538 rfl ⟨_, _, _, rfl, o1⟩ (Nat.le_of_ble_eq_true rfl) (hM S1 p) (fun S2 p2 => ?_)
    have k3 := k2 S2 p2
    rcases hL6 with e | ⟨u, e⟩ | ⟨u, e⟩
    · subst e
      refine ar_st i_L_law_2541 rfl rfl ?_
      exact k3
    · subst e
      refine ar_st i_L_law_2541 rfl rfl ?_
      exact k3
    · subst e
      refine ar_st i_L_law_2541 rfl rfl ?_
      exact k3
  refine ar_ld i_L_law_2494 rfl rfl ?_
  refine ar_ld i_L_law_2495 rfl rfl ?_
  refine ar_ld i_L_law_2496 rfl rfl ?_
  refine ar_push i_L_law_2498 ?_
  refine ar_ar i_L_law_2499 rfl ?_
  rw [nI_1]
  refine av_ldi i_L_law_2500 (h0) (by omega) (by omega) ?_
  refine ar_ld i_L_law_2501 rfl rfl ?_
  refine ar_ld i_L_law_2502 rfl rfl ?_
  refine ar_push i_L_law_2504 ?_
  refine ar_ar i_L_law_2505 rfl ?_
  rw [show (2 : Int32) = nI 2 from rfl, nI_add]
  refine av_ldi i_L_law_2506 (h0) (by omega) (by omega) ?_
  refine ar_ld i_L_law_2507 rfl rfl ?_
  refine ar_ld i_L_law_2508 rfl rfl ?_
  refine ar_push i_L_law_2510 ?_
  refine ar_ar i_L_law_2511 rfl ?_
  rw [show (3 : Int32) = nI 3 from rfl, nI_add]
  refine av_ldi i_L_law_2512 (h0) (by omega) (by omega) ?_
  refine ar_ld i_L_law_2513 rfl rfl ?_
  refine av_cr i_L_law_2514 rfl trivial (Nat.le_of_ble_eq_true rfl) (hL) (fun S1 p => ?_)
  rcases hT with e | ⟨u, L6, e, hL6⟩
  · subst e
    refine ar_st i_L_law_2517 rfl rfl ?_
    exact k1 S1 [] p (Or.inl rfl)
  · subst e
    rcases hL6 with e | ⟨u, e⟩ | ⟨u, e⟩
    · subst e
      refine ar_st i_L_law_2517 rfl rfl ?_
      exact k1 S1 [] p (Or.inl rfl)
    · subst e
      refine ar_st i_L_law_2517 rfl rfl ?_
      exact k1 S1 [(6, .int u)] p (Or.inr (Or.inl ⟨_, rfl⟩))
    · subst e
      refine ar_st i_L_law_2517 rfl rfl ?_
      exact k1 S1 [(6, .long u)] p (Or.inr (Or.inr ⟨_, rfl⟩))
theorem b_fillDensities {d i n : Nat} {xs : Nat → Int32} {Q : aq_F} {S : aq_S} {r : Int32} {v : Int32} {P R : aq_S → Prop} {L : List (Nat × Value)} (hT : tl5 L) (h0 : S.2.2.2 0 = some (.inl (0, (n, .inl xs)))) (hi : i + 5 ≤ n) (hn : n ≤ 2560) (hL : aX (d + 1) 247 [.ref 1, .int (xs (i + 1)), .int (xs (i + 2)), .ref 71] S (fun o S' => o = .inl (some (.int r)) ∧ P S')) (hP0 : ∀ S1, P S1 → S1.2.2.2 0 = some (.inl (0, (n, .inl xs))) ∧ ∃ fs, S1.2.2.2 52 = some (.inr (7, fs))) (hM : ∀ S1, P S1 → aX (d + 1) 203 [.ref 52, .int (xs (i + 1)), .int (xs (i + 2))] S1 (fun o S' => o = .inl (some (.int v)) ∧ R S')) (hR : ∀ S2, R S2 → (∃ fs, S2.2.2.2 52 = some (.inr (7, .int r :: fs))) ∧ (r = 0 → oV S2 (v.toInt64))) (k : ∀ S2, R S2 → aG (d + 1) 251 Q 2846 [(0, .ref 0), (1, .ref 1), (2, .ref 52), (3, .ref 71), (4, .int (nI i)), (5, .int r), (6, .int v)] [] S2) : aG (d + 1) 251 Q 2574 ((0, .ref 0) :: (1, .ref 1) :: (2, .ref 52) :: (3, .ref 71) :: (4, .int (nI i)) :: L) [] S := by
  have k1 : ∀ (S1 : aq_S) (L6 : List (Nat × Value)), P S1 → tl6 L6 → aG (d + 1) 251 Q 2593 ((0, .ref 0) :: (1, .ref 1) :: (2, .ref 52) :: (3, .ref 71) :: (4, .int (nI i)) :: (5, .int r) :: L6) [] S1 := by
    intro S1 L6 p hL6
    obtain ⟨h1, fs1, o1⟩ := hP0 S1 p
    have k2 : ∀ S2, R S2 → aG (d + 1) 251 Q 2611 [(0, .ref 0), (1, .ref 1), (2, .ref 52), (3, .ref 71), (4, .int (nI i)), (5, .int r), (6, .int v)] [] S2 := by
      intro S2 p2
      obtain ⟨⟨fs, o2⟩, hv⟩ := hR S2 p2
      refine ar_ld i_L_law_2611 rfl rfl ?_
      refine ar_cr i_L_law_2612 rfl ⟨_, _, _, rfl, o2⟩ (Nat.le_of_ble_eq_true rfl) (m_thrown d o2) ?_
      refine ar_ld i_L_law_2615 rfl rfl ?_
      refine ar_ift i_L_law_2617 rfl (rfl) ?_
      refine ar_ld i_L_law_2622 rfl rfl ?_
      by_cases hr : r = 0
      · refine ar_iff i_L_law_2624 rfl (fun z => z hr) ?_
        obtain ⟨f, hf, hf0⟩ := hv hr
        refine ar_ld i_L_law_2627 rfl rfl ?_
        refine ar_push i_L_law_2628 ?_
        refine av_ldl (j := 0) i_L_law_2629 hf (by omega) (by omega) ?_
        rw [hf0]
        refine ar_ld i_L_law_2630 rfl rfl ?_
        refine ar_ar i_L_law_2632 rfl ?_
        refine ar_ar i_L_law_2633 rfl ?_
        refine ar_ift i_L_law_2634 rfl ((lg_cmp_eq _ _).mpr rfl) ?_
        refine ar_go i_L_law_2639 ?_
        exact k S2 p2
      · refine ar_ift i_L_law_2624 rfl (hr) ?_
        refine ar_go i_L_law_2639 ?_
        exact k S2 p2
    refine ar_ld i_L_law_2593 rfl rfl ?_
    refine ar_ld i_L_law_2594 rfl rfl ?_
    refine ar_ld i_L_law_2595 rfl rfl ?_
    refine ar_push i_L_law_2597 ?_
    refine ar_ar i_L_law_2598 rfl ?_
    rw [nI_1]
    refine av_ldi i_L_law_2599 (h1) (by omega) (by omega) ?_
    refine ar_ld i_L_law_2600 rfl rfl ?_
    refine ar_ld i_L_law_2601 rfl rfl ?_
    refine ar_push i_L_law_2603 ?_
    refine ar_ar i_L_law_2604 rfl ?_
    rw [show (2 : Int32) = nI 2 from rfl, nI_add]
    refine av_ldi i_L_law_2605 (h1) (by omega) (by omega) ?_
    refine av_cr i_L_law_2606 rfl ⟨_, _, _, rfl, o1⟩ (Nat.le_of_ble_eq_true rfl) (hM S1 p) (fun S2 p2 => ?_)
    have k3 := k2 S2 p2
    rcases hL6 with e | ⟨u, e⟩ | ⟨u, e⟩
    · subst e
      refine ar_st i_L_law_2609 rfl rfl ?_
      exact k3
    · subst e
      refine ar_st i_L_law_2609 rfl rfl ?_
      exact k3
    · subst e
      refine ar_st i_L_law_2609 rfl rfl ?_
      exact k3
  refine ar_ld i_L_law_2574 rfl rfl ?_
  refine ar_ld i_L_law_2575 rfl rfl ?_
  refine ar_ld i_L_law_2576 rfl rfl ?_
  refine ar_push i_L_law_2578 ?_
  refine ar_ar i_L_law_2579 rfl ?_
  rw [nI_1]
  refine av_ldi i_L_law_2580 (h0) (by omega) (by omega) ?_
  refine ar_ld i_L_law_2581 rfl rfl ?_
  refine ar_ld i_L_law_2582 rfl rfl ?_
  refine ar_push i_L_law_2584 ?_
  refine ar_ar i_L_law_2585 rfl ?_
  rw [show (2 : Int32) = nI 2 from rfl, nI_add]
  refine av_ldi i_L_law_2586 (h0) (by omega) (by omega) ?_
  refine ar_ld i_L_law_2587 rfl rfl ?_
  refine av_cr i_L_law_2588 rfl trivial (Nat.le_of_ble_eq_true rfl) (hL) (fun S1 p => ?_)
  rcases hT with e | ⟨u, L6, e, hL6⟩
  · subst e
    refine ar_st i_L_law_2591 rfl rfl ?_
    exact k1 S1 [] p (Or.inl rfl)
  · subst e
    rcases hL6 with e | ⟨u, e⟩ | ⟨u, e⟩
    · subst e
      refine ar_st i_L_law_2591 rfl rfl ?_
      exact k1 S1 [] p (Or.inl rfl)
    · subst e
      refine ar_st i_L_law_2591 rfl rfl ?_
      exact k1 S1 [(6, .int u)] p (Or.inr (Or.inl ⟨_, rfl⟩))
    · subst e
      refine ar_st i_L_law_2591 rfl rfl ?_
      exact k1 S1 [(6, .long u)] p (Or.inr (Or.inr ⟨_, rfl⟩))
theorem b_takeRemainder {d i n : Nat} {xs : Nat → Int32} {Q : aq_F} {S : aq_S} {r : Int32} {v : Int32} {P R : aq_S → Prop} {L : List (Nat × Value)} (hT : tl5 L) (h0 : S.2.2.2 0 = some (.inl (0, (n, .inl xs)))) (hi : i + 5 ≤ n) (hn : n ≤ 2560) (hL : aX (d + 1) 248 [.ref 1, .int (xs (i + 1)), .int (xs (i + 2)), .int (xs (i + 3)), .ref 71] S (fun o S' => o = .inl (some (.int r)) ∧ P S')) (hP0 : ∀ S1, P S1 → S1.2.2.2 0 = some (.inl (0, (n, .inl xs))) ∧ ∃ fs, S1.2.2.2 52 = some (.inr (7, fs))) (hM : ∀ S1, P S1 → aX (d + 1) 205 [.ref 52, .int (xs (i + 1)), .int (xs (i + 2)), .int (xs (i + 3))] S1 (fun o S' => o = .inl (some (.int v)) ∧ R S')) (hR : ∀ S2, R S2 → (∃ fs, S2.2.2.2 52 = some (.inr (7, .int r :: fs))) ∧ (r = 0 → oV S2 (v.toInt64))) (k : ∀ S2, R S2 → aG (d + 1) 251 Q 2846 [(0, .ref 0), (1, .ref 1), (2, .ref 52), (3, .ref 71), (4, .int (nI i)), (5, .int r), (6, .int v)] [] S2) : aG (d + 1) 251 Q 2642 ((0, .ref 0) :: (1, .ref 1) :: (2, .ref 52) :: (3, .ref 71) :: (4, .int (nI i)) :: L) [] S := by
  have k1 : ∀ (S1 : aq_S) (L6 : List (Nat × Value)), P S1 → tl6 L6 → aG (d + 1) 251 Q 2667 ((0, .ref 0) :: (1, .ref 1) :: (2, .ref 52) :: (3, .ref 71) :: (4, .int (nI i)) :: (5, .int r) :: L6) [] S1 := by
    intro S1 L6 p hL6
    obtain ⟨h1, fs1, o1⟩ := hP0 S1 p
    have k2 : ∀ S2, R S2 → aG (d + 1) 251 Q 2691 [(0, .ref 0), (1, .ref 1), (2, .ref 52), (3, .ref 71), (4, .int (nI i)), (5, .int r), (6, .int v)] [] S2 := by
      intro S2 p2
      obtain ⟨⟨fs, o2⟩, hv⟩ := hR S2 p2
      refine ar_ld i_L_law_2691 rfl rfl ?_
      refine ar_cr i_L_law_2692 rfl ⟨_, _, _, rfl, o2⟩ (Nat.le_of_ble_eq_true rfl) (m_thrown d o2) ?_
      refine ar_ld i_L_law_2695 rfl rfl ?_
      refine ar_ift i_L_law_2697 rfl (rfl) ?_
      refine ar_ld i_L_law_2702 rfl rfl ?_
      by_cases hr : r = 0
      · refine ar_iff i_L_law_2704 rfl (fun z => z hr) ?_
        obtain ⟨f, hf, hf0⟩ := hv hr
        refine ar_ld i_L_law_2707 rfl rfl ?_
        refine ar_push i_L_law_2708 ?_
        refine av_ldl (j := 0) i_L_law_2709 hf (by omega) (by omega) ?_
        rw [hf0]
        refine ar_ld i_L_law_2710 rfl rfl ?_
        refine ar_ar i_L_law_2712 rfl ?_
        refine ar_ar i_L_law_2713 rfl ?_
        refine ar_ift i_L_law_2714 rfl ((lg_cmp_eq _ _).mpr rfl) ?_
        refine ar_go i_L_law_2719 ?_
        exact k S2 p2
      · refine ar_ift i_L_law_2704 rfl (hr) ?_
        refine ar_go i_L_law_2719 ?_
        exact k S2 p2
    refine ar_ld i_L_law_2667 rfl rfl ?_
    refine ar_ld i_L_law_2668 rfl rfl ?_
    refine ar_ld i_L_law_2669 rfl rfl ?_
    refine ar_push i_L_law_2671 ?_
    refine ar_ar i_L_law_2672 rfl ?_
    rw [nI_1]
    refine av_ldi i_L_law_2673 (h1) (by omega) (by omega) ?_
    refine ar_ld i_L_law_2674 rfl rfl ?_
    refine ar_ld i_L_law_2675 rfl rfl ?_
    refine ar_push i_L_law_2677 ?_
    refine ar_ar i_L_law_2678 rfl ?_
    rw [show (2 : Int32) = nI 2 from rfl, nI_add]
    refine av_ldi i_L_law_2679 (h1) (by omega) (by omega) ?_
    refine ar_ld i_L_law_2680 rfl rfl ?_
    refine ar_ld i_L_law_2681 rfl rfl ?_
    refine ar_push i_L_law_2683 ?_
    refine ar_ar i_L_law_2684 rfl ?_
    rw [show (3 : Int32) = nI 3 from rfl, nI_add]
    refine av_ldi i_L_law_2685 (h1) (by omega) (by omega) ?_
    refine av_cr i_L_law_2686 rfl ⟨_, _, _, rfl, o1⟩ (Nat.le_of_ble_eq_true rfl) (hM S1 p) (fun S2 p2 => ?_)
    have k3 := k2 S2 p2
    rcases hL6 with e | ⟨u, e⟩ | ⟨u, e⟩
    · subst e
      refine ar_st i_L_law_2689 rfl rfl ?_
      exact k3
    · subst e
      refine ar_st i_L_law_2689 rfl rfl ?_
      exact k3
    · subst e
      refine ar_st i_L_law_2689 rfl rfl ?_
      exact k3
  refine ar_ld i_L_law_2642 rfl rfl ?_
  refine ar_ld i_L_law_2643 rfl rfl ?_
  refine ar_ld i_L_law_2644 rfl rfl ?_
  refine ar_push i_L_law_2646 ?_
  refine ar_ar i_L_law_2647 rfl ?_
  rw [nI_1]
  refine av_ldi i_L_law_2648 (h0) (by omega) (by omega) ?_
  refine ar_ld i_L_law_2649 rfl rfl ?_
  refine ar_ld i_L_law_2650 rfl rfl ?_
  refine ar_push i_L_law_2652 ?_
  refine ar_ar i_L_law_2653 rfl ?_
  rw [show (2 : Int32) = nI 2 from rfl, nI_add]
  refine av_ldi i_L_law_2654 (h0) (by omega) (by omega) ?_
  refine ar_ld i_L_law_2655 rfl rfl ?_
  refine ar_ld i_L_law_2656 rfl rfl ?_
  refine ar_push i_L_law_2658 ?_
  refine ar_ar i_L_law_2659 rfl ?_
  rw [show (3 : Int32) = nI 3 from rfl, nI_add]
  refine av_ldi i_L_law_2660 (h0) (by omega) (by omega) ?_
  refine ar_ld i_L_law_2661 rfl rfl ?_
  refine av_cr i_L_law_2662 rfl trivial (Nat.le_of_ble_eq_true rfl) (hL) (fun S1 p => ?_)
  rcases hT with e | ⟨u, L6, e, hL6⟩
  · subst e
    refine ar_st i_L_law_2665 rfl rfl ?_
    exact k1 S1 [] p (Or.inl rfl)
  · subst e
    rcases hL6 with e | ⟨u, e⟩ | ⟨u, e⟩
    · subst e
      refine ar_st i_L_law_2665 rfl rfl ?_
      exact k1 S1 [] p (Or.inl rfl)
    · subst e
      refine ar_st i_L_law_2665 rfl rfl ?_
      exact k1 S1 [(6, .int u)] p (Or.inr (Or.inl ⟨_, rfl⟩))
    · subst e
      refine ar_st i_L_law_2665 rfl rfl ?_
      exact k1 S1 [(6, .long u)] p (Or.inr (Or.inr ⟨_, rfl⟩))
theorem b_elementBits {d i n : Nat} {xs : Nat → Int32} {Q : aq_F} {S : aq_S} {r : Int32} {v : Int64} {P R : aq_S → Prop} {L : List (Nat × Value)} (hT : tl5 L) (h0 : S.2.2.2 0 = some (.inl (0, (n, .inl xs)))) (hi : i + 5 ≤ n) (hn : n ≤ 2560) (hL : aX (d + 1) 249 [.ref 1, .int (xs (i + 1)), .int (xs (i + 2)), .ref 71] S (fun o S' => o = .inl (some (.int r)) ∧ P S')) (hP0 : ∀ S1, P S1 → S1.2.2.2 0 = some (.inl (0, (n, .inl xs))) ∧ ∃ fs, S1.2.2.2 52 = some (.inr (7, fs))) (hM : ∀ S1, P S1 → aX (d + 1) 206 [.ref 52, .int (xs (i + 1)), .int (xs (i + 2))] S1 (fun o S' => o = .inl (some (.long v)) ∧ R S')) (hR : ∀ S2, R S2 → (∃ fs, S2.2.2.2 52 = some (.inr (7, .int r :: fs))) ∧ (r = 0 → oV S2 (v))) (k : ∀ S2, R S2 → aG (d + 1) 251 Q 2846 [(0, .ref 0), (1, .ref 1), (2, .ref 52), (3, .ref 71), (4, .int (nI i)), (5, .int r), (6, .long v)] [] S2) : aG (d + 1) 251 Q 2722 ((0, .ref 0) :: (1, .ref 1) :: (2, .ref 52) :: (3, .ref 71) :: (4, .int (nI i)) :: L) [] S := by
  have k1 : ∀ (S1 : aq_S) (L6 : List (Nat × Value)), P S1 → tl6 L6 → aG (d + 1) 251 Q 2741 ((0, .ref 0) :: (1, .ref 1) :: (2, .ref 52) :: (3, .ref 71) :: (4, .int (nI i)) :: (5, .int r) :: L6) [] S1 := by
    intro S1 L6 p hL6
    obtain ⟨h1, fs1, o1⟩ := hP0 S1 p
    have k2 : ∀ S2, R S2 → aG (d + 1) 251 Q 2759 [(0, .ref 0), (1, .ref 1), (2, .ref 52), (3, .ref 71), (4, .int (nI i)), (5, .int r), (6, .long v)] [] S2 := by
      intro S2 p2
      obtain ⟨⟨fs, o2⟩, hv⟩ := hR S2 p2
      refine ar_ld i_L_law_2759 rfl rfl ?_
      refine ar_cr i_L_law_2760 rfl ⟨_, _, _, rfl, o2⟩ (Nat.le_of_ble_eq_true rfl) (m_thrown d o2) ?_
      refine ar_ld i_L_law_2763 rfl rfl ?_
      refine ar_ift i_L_law_2765 rfl (rfl) ?_
      refine ar_ld i_L_law_2770 rfl rfl ?_
      by_cases hr : r = 0
      · refine ar_iff i_L_law_2772 rfl (fun z => z hr) ?_
        obtain ⟨f, hf, hf0⟩ := hv hr
        refine ar_ld i_L_law_2775 rfl rfl ?_
        refine ar_push i_L_law_2776 ?_
        refine av_ldl (j := 0) i_L_law_2777 hf (by omega) (by omega) ?_
        rw [hf0]
        refine ar_ld i_L_law_2778 rfl rfl ?_
        refine ar_ar i_L_law_2780 rfl ?_
        refine ar_ift i_L_law_2781 rfl ((lg_cmp_eq _ _).mpr rfl) ?_
        refine ar_go i_L_law_2786 ?_
        exact k S2 p2
      · refine ar_ift i_L_law_2772 rfl (hr) ?_
        refine ar_go i_L_law_2786 ?_
        exact k S2 p2
    refine ar_ld i_L_law_2741 rfl rfl ?_
    refine ar_ld i_L_law_2742 rfl rfl ?_
    refine ar_ld i_L_law_2743 rfl rfl ?_
    refine ar_push i_L_law_2745 ?_
    refine ar_ar i_L_law_2746 rfl ?_
    rw [nI_1]
    refine av_ldi i_L_law_2747 (h1) (by omega) (by omega) ?_
    refine ar_ld i_L_law_2748 rfl rfl ?_
    refine ar_ld i_L_law_2749 rfl rfl ?_
    refine ar_push i_L_law_2751 ?_
    refine ar_ar i_L_law_2752 rfl ?_
    rw [show (2 : Int32) = nI 2 from rfl, nI_add]
    refine av_ldi i_L_law_2753 (h1) (by omega) (by omega) ?_
    refine av_cr i_L_law_2754 rfl ⟨_, _, _, rfl, o1⟩ (Nat.le_of_ble_eq_true rfl) (hM S1 p) (fun S2 p2 => ?_)
    have k3 := k2 S2 p2
    rcases hL6 with e | ⟨u, e⟩ | ⟨u, e⟩
    · subst e
      refine ar_st i_L_law_2757 rfl rfl ?_
      exact k3
    · subst e
      refine ar_st i_L_law_2757 rfl rfl ?_
      exact k3
    · subst e
      refine ar_st i_L_law_2757 rfl rfl ?_
      exact k3
  refine ar_ld i_L_law_2722 rfl rfl ?_
  refine ar_ld i_L_law_2723 rfl rfl ?_
  refine ar_ld i_L_law_2724 rfl rfl ?_
  refine ar_push i_L_law_2726 ?_
  refine ar_ar i_L_law_2727 rfl ?_
  rw [nI_1]
  refine av_ldi i_L_law_2728 (h0) (by omega) (by omega) ?_
  refine ar_ld i_L_law_2729 rfl rfl ?_
  refine ar_ld i_L_law_2730 rfl rfl ?_
  refine ar_push i_L_law_2732 ?_
  refine ar_ar i_L_law_2733 rfl ?_
  rw [show (2 : Int32) = nI 2 from rfl, nI_add]
  refine av_ldi i_L_law_2734 (h0) (by omega) (by omega) ?_
  refine ar_ld i_L_law_2735 rfl rfl ?_
  refine av_cr i_L_law_2736 rfl trivial (Nat.le_of_ble_eq_true rfl) (hL) (fun S1 p => ?_)
  rcases hT with e | ⟨u, L6, e, hL6⟩
  · subst e
    refine ar_st i_L_law_2739 rfl rfl ?_
    exact k1 S1 [] p (Or.inl rfl)
  · subst e
    rcases hL6 with e | ⟨u, e⟩ | ⟨u, e⟩
    · subst e
      refine ar_st i_L_law_2739 rfl rfl ?_
      exact k1 S1 [] p (Or.inl rfl)
    · subst e
      refine ar_st i_L_law_2739 rfl rfl ?_
      exact k1 S1 [(6, .int u)] p (Or.inr (Or.inl ⟨_, rfl⟩))
    · subst e
      refine ar_st i_L_law_2739 rfl rfl ?_
      exact k1 S1 [(6, .long u)] p (Or.inr (Or.inr ⟨_, rfl⟩))
theorem b_saveSnapshot {d i : Nat} {Q : aq_F} {S : aq_S} {v : Int32} {vs : List Value} {P R : aq_S → Prop} {L : List (Nat × Value)} (h1 : S.2.2.2 1 = some (.inr (6, vs))) (hL : aX (d + 1) 108 [.ref 1] S (fun o S' => o = .inl (some (.int v)) ∧ P S')) (hP0 : ∀ S1, P S1 → ∃ fs, S1.2.2.2 52 = some (.inr (7, fs))) (hM : ∀ S1, P S1 → aX (d + 1) 210 [.ref 52] S1 (fun o S' => o = .inl (some (.int v)) ∧ R S')) (k : ∀ S2, R S2 → aG (d + 1) 251 Q 2846 ((0, .ref 0) :: (1, .ref 1) :: (2, .ref 52) :: (3, .ref 71) :: (4, .int (nI i)) :: L) [] S2) : aG (d + 1) 251 Q 2789 ((0, .ref 0) :: (1, .ref 1) :: (2, .ref 52) :: (3, .ref 71) :: (4, .int (nI i)) :: L) [] S := by
  refine ar_ld i_L_law_2789 rfl rfl ?_
  refine av_cr i_L_law_2790 rfl ⟨_, _, _, rfl, h1⟩ (Nat.le_of_ble_eq_true rfl) (hL) (fun S1 p => ?_)
  obtain ⟨fs, o1⟩ := hP0 S1 p
  refine ar_ld i_L_law_2793 rfl rfl ?_
  refine av_cr i_L_law_2794 rfl ⟨_, _, _, rfl, o1⟩ (Nat.le_of_ble_eq_true rfl) (hM S1 p) (fun S2 p2 => ?_)
  refine ar_ift i_L_law_2797 rfl (rfl) ?_
  exact k S2 p2
theorem b_restoreSnapshot {d i n : Nat} {xs : Nat → Int32} {Q : aq_F} {S : aq_S} {r : Int32} {v : Int32} {P R : aq_S → Prop} {L : List (Nat × Value)} (hT : tl5 L) (h0 : S.2.2.2 0 = some (.inl (0, (n, .inl xs)))) (hi : i + 5 ≤ n) (hn : n ≤ 2560) (hL : aX (d + 1) 250 [.ref 1, .ref 71] S (fun o S' => o = .inl (some (.int r)) ∧ P S')) (hP0 : ∀ S1, P S1 → S1.2.2.2 0 = some (.inl (0, (n, .inl xs))) ∧ ∃ fs, S1.2.2.2 52 = some (.inr (7, fs))) (hM : ∀ S1, P S1 → aX (d + 1) 211 [.ref 52] S1 (fun o S' => o = .inl (some (.int v)) ∧ R S')) (hR : ∀ S2, R S2 → (∃ fs, S2.2.2.2 52 = some (.inr (7, .int r :: fs))) ∧ (r = 0 → oV S2 (v.toInt64))) (k : ∀ S2, R S2 → aG (d + 1) 251 Q 2846 [(0, .ref 0), (1, .ref 1), (2, .ref 52), (3, .ref 71), (4, .int (nI i)), (5, .int r), (6, .int v)] [] S2) : aG (d + 1) 251 Q 2802 ((0, .ref 0) :: (1, .ref 1) :: (2, .ref 52) :: (3, .ref 71) :: (4, .int (nI i)) :: L) [] S := by
  have k1 : ∀ (S1 : aq_S) (L6 : List (Nat × Value)), P S1 → tl6 L6 → aG (d + 1) 251 Q 2809 ((0, .ref 0) :: (1, .ref 1) :: (2, .ref 52) :: (3, .ref 71) :: (4, .int (nI i)) :: (5, .int r) :: L6) [] S1 := by
    intro S1 L6 p hL6
    obtain ⟨h1, fs1, o1⟩ := hP0 S1 p
    have k2 : ∀ S2, R S2 → aG (d + 1) 251 Q 2815 [(0, .ref 0), (1, .ref 1), (2, .ref 52), (3, .ref 71), (4, .int (nI i)), (5, .int r), (6, .int v)] [] S2 := by
      intro S2 p2
      obtain ⟨⟨fs, o2⟩, hv⟩ := hR S2 p2
      refine ar_ld i_L_law_2815 rfl rfl ?_
      refine ar_cr i_L_law_2816 rfl ⟨_, _, _, rfl, o2⟩ (Nat.le_of_ble_eq_true rfl) (m_thrown d o2) ?_
      refine ar_ld i_L_law_2819 rfl rfl ?_
      refine ar_ift i_L_law_2821 rfl (rfl) ?_
      refine ar_ld i_L_law_2826 rfl rfl ?_
      by_cases hr : r = 0
      · refine ar_iff i_L_law_2828 rfl (fun z => z hr) ?_
        obtain ⟨f, hf, hf0⟩ := hv hr
        refine ar_ld i_L_law_2831 rfl rfl ?_
        refine ar_push i_L_law_2832 ?_
        refine av_ldl (j := 0) i_L_law_2833 hf (by omega) (by omega) ?_
        rw [hf0]
        refine ar_ld i_L_law_2834 rfl rfl ?_
        refine ar_ar i_L_law_2836 rfl ?_
        refine ar_ar i_L_law_2837 rfl ?_
        refine ar_ift i_L_law_2838 rfl ((lg_cmp_eq _ _).mpr rfl) ?_
        refine ar_go i_L_law_2843 ?_
        exact k S2 p2
      · refine ar_ift i_L_law_2828 rfl (hr) ?_
        refine ar_go i_L_law_2843 ?_
        exact k S2 p2
    refine ar_ld i_L_law_2809 rfl rfl ?_
    refine av_cr i_L_law_2810 rfl ⟨_, _, _, rfl, o1⟩ (Nat.le_of_ble_eq_true rfl) (hM S1 p) (fun S2 p2 => ?_)
    have k3 := k2 S2 p2
    rcases hL6 with e | ⟨u, e⟩ | ⟨u, e⟩
    · subst e
      refine ar_st i_L_law_2813 rfl rfl ?_
      exact k3
    · subst e
      refine ar_st i_L_law_2813 rfl rfl ?_
      exact k3
    · subst e
      refine ar_st i_L_law_2813 rfl rfl ?_
      exact k3
  refine ar_ld i_L_law_2802 rfl rfl ?_
  refine ar_ld i_L_law_2803 rfl rfl ?_
  refine av_cr i_L_law_2804 rfl trivial (Nat.le_of_ble_eq_true rfl) (hL) (fun S1 p => ?_)
  rcases hT with e | ⟨u, L6, e, hL6⟩
  · subst e
    refine ar_st i_L_law_2807 rfl rfl ?_
    exact k1 S1 [] p (Or.inl rfl)
  · subst e
    rcases hL6 with e | ⟨u, e⟩ | ⟨u, e⟩
    · subst e
      refine ar_st i_L_law_2807 rfl rfl ?_
      exact k1 S1 [] p (Or.inl rfl)
    · subst e
      refine ar_st i_L_law_2807 rfl rfl ?_
      exact k1 S1 [(6, .int u)] p (Or.inr (Or.inl ⟨_, rfl⟩))
    · subst e
      refine ar_st i_L_law_2807 rfl rfl ?_
      exact k1 S1 [(6, .long u)] p (Or.inr (Or.inr ⟨_, rfl⟩))
end
