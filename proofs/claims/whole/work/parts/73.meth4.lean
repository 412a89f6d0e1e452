/-! a right drawing in a row, both sides -/
theorem tell_cases {N r : Nat} {o : Of} {H : List Nat} {w : Wd} (hN : 1000 ≤ N) (hW : IW o H w) (hT : Itl w) (hr : r < 6) :
    (∃ f wa w2, 1 ≤ f ∧ f < 6 ∧ f_X4_rightDrawingIn N (nI r) w = some (ng f, wa) ∧ IW o H wa ∧ Itl wa ∧ f_X5_askedRight N (nI r) (cref f wa) = some (ng 3, mref f w2) ∧ ag SR (cref f wa) w2)
    ∨ ∃ d wa, Pm (oN o) d ∧ d ∈ rights o ∧ f_X4_rightDrawingIn N (nI r) w = some (nI (cd d), wa) ∧ IW o H wa ∧ RTC 0 (rights o) wa ∧ Itl wa ∧ ∀ w', ag [412] wa w' → ∃ w2, f_X5_askedRight N (nI r) w' = some (nI 0, w2) ∧ ag SR w' w2 ∧ RTS (oN o) (rights o) w2 ∧ ∀ x, x < oN o → gA w2 32 0 (40 * r + x) = nI (dg d x) := by
  obtain ⟨h1, h2, h3, h4, h5, h6, h7, h8, h9⟩ := id hW
  have hn := h1.1
  rcases draw_cases hW hr with ⟨d, hd⟩ | ⟨f, hf⟩
  · have hc1 := hd.1
    have hcd := Pm_cd hc1 hn
    have hL := LOk_r h1
    have hl := hL.2.1
    obtain ⟨wa, ea, u1, u2, hWa⟩ := IW_list (N := N) hN hW
    have h4a := hWa.2.2.2.1
    have hTa := Itl_ag hT u1
    have hda := DR_ag hd hr u1
    have ge : fst (ftf (rights o) (cd d) 4294967295) (rights o).length 0 = fst (fun k => decide (dr (rights o) k = d)) (rights o).length 0 := fst_congr _ _ (fun j _ hj => ftf_all hL (by omega) hc1)
    have ec : f_X4_rightDrawingIn N (nI r) w = if oi (fst (fun k => decide (dr (rights o) k = d)) (rights o).length 0) = ng 9 then some (ng 3, wa) else some (nI (cd d), wa) := by
      unfold f_X4_rightDrawingIn; rw [e_drawingIn_t hN h1 hr h3.1 hd]; simp only [bs, l0, l1, l2, l3, l4, l5, l6, l7, l8, l9, l10, l12, l15, l30, l31, l32, l40, l42, l48, l57, l60, l64, l98, l99, l100, l109, l110, l112, l115, l265, l1000, l518400, ngd, if_true, if_false, bn0, reduceCtorEq, n10, z1, z3, z0]; rw [iT (nI_le (by omega) (by omega)), ea]; simp only [bs, l0, l1, l2, l3, l4, l5, l6, l7, l8, l9, l10, l12, l15, l30, l31, l32, l40, l42, l48, l57, l60, l64, l98, l99, l100, l109, l110, l112, l115, l265, l1000, l518400, ngd, if_true, if_false, bn0, reduceCtorEq, n10, z1, z3, z0]; rw [ng1n, e_placeOf hN hL u2 hcd, ge]; simp only [bs, l0, l1, l2, l3, l4, l5, l6, l7, l8, l9, l10, l12, l15, l30, l31, l32, l40, l42, l48, l57, l60, l64, l98, l99, l100, l109, l110, l112, l115, l265, l1000, l518400, ngd, if_true, if_false, bn0, reduceCtorEq, n10, z1, z3, z0]
    have em : ∀ w' S, ag S wa w' → (∀ k ∈ [12, 31, 32, 11, 1011, 2011, 3011, 4011, 5011], k ∉ S) → (∀ k ∈ [510, 518, 511, 36, 37, 38, 39], k ∉ S) → ∃ w2 w3, f_X5_askedDrawing N (nI r) w' = some (nI 0, w2) ∧ ag [40] w' w2 ∧ f_X5_numberOf N (nI r) w2 = some (oi (fst (fun k => decide (dr (rights o) k = d)) (rights o).length 0), w3) ∧ ag SR w2 w3 ∧ RTS (oN o) (rights o) w3 ∧ ∀ x, x < oN o → gA w3 32 0 (40 * r + x) = nI (dg d x) := by
      intro w' S g hs1 hs2
      have hdw := DR_ag hda hr g hs1
      have hk : 11 + 1000 * r ∈ [12, 31, 32, 11, 1011, 2011, 3011, 4011, 5011] := by
        rcases (show r = 0 ∨ r = 1 ∨ r = 2 ∨ r = 3 ∨ r = 4 ∨ r = 5 by omega) with rfl | rfl | rfl | rfl | rfl | rfl <;> decide
      have h4w := RM_ag h4a g hs2
      obtain ⟨w2, e2, b1, b2⟩ := e_asked_t (N := N) hN h1 hr h4w.1 hdw (by rw [g.2.2 11 r (hs1 _ hk) (by decide), g.2.2 32 0 (hs1 32 (by decide)) (by decide)]; exact (hWa.2.2.2.2.1 r hr).2)
      have hdr := DR_ag hdw hr b1
      obtain ⟨w3, e3, d1, d2⟩ := e_numberOf (N := N) hN h1 (RM_ag h4w b1) hr hc1 hdr.2.2.2.2
      exact ⟨w2, w3, e2, b1, e3, d1, d2, fun x hx => by rw [agA d1 32 0]; exact hdr.2.2.2.2 x hx⟩
    cases e : fst (fun k => decide (dr (rights o) k = d)) (rights o).length 0 with
    | none =>
      obtain ⟨w2, w3, e2, b1, e3, d1, d2, d3⟩ := em (cref 3 wa) [415, 25] (cref_ag 3 wa) (by decide) (by decide)
      rw [e] at e3 ec
      refine Or.inl ⟨3, wa, w3, by omega, by omega, ?_, hWa, hTa, ?_, (b1.mono (by decide)).tr d1⟩
      · rw [ec, iT (show oi none = ng 9 from rfl)]
      · unfold f_X5_askedRight; rw [e2]; simp only [bs, l0, l1, l2, l3, l4, l5, l6, l7, l8, l9, l10, l12, l15, l30, l31, l32, l40, l42, l48, l57, l60, l64, l98, l99, l100, l109, l110, l112, l115, l265, l1000, l518400, ngd, if_true, if_false, bn0, reduceCtorEq, n10, z1, z3, z0]; rw [e3]; simp only [bs, l0, l1, l2, l3, l4, l5, l6, l7, l8, l9, l10, l12, l15, l30, l31, l32, l40, l42, l48, l57, l60, l64, l98, l99, l100, l109, l110, l112, l115, l265, l1000, l518400, ngd, if_true, if_false, bn0, reduceCtorEq, n10, z1, z3, z0]; rw [iT (show oi none = ng 9 from rfl), e_meet (by omega)]; simp only [bs, l0, l1, l2, l3, l4, l5, l6, l7, l8, l9, l10, l12, l15, l30, l31, l32, l40, l42, l48, l57, l60, l64, l98, l99, l100, l109, l110, l112, l115, l265, l1000, l518400, ngd, if_true, if_false, bn0, reduceCtorEq, n10, z1, z3, z0]
    | some j =>
      obtain ⟨j1, j2, j3, _⟩ := fst_some _ _ _ e
      have jd : dr (rights o) j = d := of_decide_eq_true j3
      have k9 : ¬ oi (some j) = ng 9 := by show ¬ nI j = ng 9; rw [nI_ng (by omega) (by omega) (by omega)]; simp
      refine Or.inr ⟨d, wa, hc1, by rw [← jd]; exact dr_mem (by omega), ?_, hWa, u2, hTa, fun w' g => ?_⟩
      · rw [ec, e, iF k9]
      · obtain ⟨w2, w3, e2, b1, e3, d1, d2, d3⟩ := em w' [412] g (by decide) (by decide)
        rw [e] at e3
        refine ⟨w3, ?_, (b1.mono (by decide)).tr d1, d2, d3⟩
        unfold f_X5_askedRight; rw [e2]; simp only [bs, l0, l1, l2, l3, l4, l5, l6, l7, l8, l9, l10, l12, l15, l30, l31, l32, l40, l42, l48, l57, l60, l64, l98, l99, l100, l109, l110, l112, l115, l265, l1000, l518400, ngd, if_true, if_false, bn0, reduceCtorEq, n10, z1, z3, z0]; rw [e3]; simp only [bs, l0, l1, l2, l3, l4, l5, l6, l7, l8, l9, l10, l12, l15, l30, l31, l32, l40, l42, l48, l57, l60, l64, l98, l99, l100, l109, l110, l112, l115, l265, l1000, l518400, ngd, if_true, if_false, bn0, reduceCtorEq, n10, z1, z3, z0]; rw [iF k9]
  · obtain ⟨f1, f2⟩ := FR_in hf
    obtain ⟨w2, e2, b1⟩ := e_asked_f (N := N) hN h1 hr (RM_ag h4 (cref_ag f w)).1 (FR_ag hf hr (cref_ag f w))
    refine Or.inl ⟨f, w, w2, f1, f2, ?_, hW, hT, ?_, b1.mono (by decide)⟩
    · unfold f_X4_rightDrawingIn; rw [e_drawingIn_f hN h1 hr h3.1 hf]; simp only [bs, l0, l1, l2, l3, l4, l5, l6, l7, l8, l9, l10, l12, l15, l30, l31, l32, l40, l42, l48, l57, l60, l64, l98, l99, l100, l109, l110, l112, l115, l265, l1000, l518400, ngd, if_true, if_false, bn0, reduceCtorEq, n10, z1, z3, z0]; rw [iF (by rw [ng_nn (by omega) (by omega) (by omega)]; simp)]
    · unfold f_X5_askedRight; rw [e2]; simp only [bs, l0, l1, l2, l3, l4, l5, l6, l7, l8, l9, l10, l12, l15, l30, l31, l32, l40, l42, l48, l57, l60, l64, l98, l99, l100, l109, l110, l112, l115, l265, l1000, l518400, ngd, if_true, if_false, bn0, reduceCtorEq, n10, z1, z3, z0]
theorem pow64 {n : Nat} (hn : n ≤ 6) : 2 ^ n ≤ 64 ∧ 1 ≤ 2 ^ n := by
  have h1 : (2 : Nat) ^ n ≤ 2 ^ 6 := Nat.pow_le_pow_right (by omega) hn
  have h2 : (2 : Nat) ^ 6 = 64 := by decide
  exact ⟨by omega, Nat.one_le_two_pow⟩
theorem e_isSet_f {N n : Nat} {a : Int32} {w : Wd} (hn : n ≤ 6) (hm : gI w 4 0 = nI n) (h : a.toInt < 0 ∨ ((2 ^ n : Nat) : Int) ≤ a.toInt) : f_X4_isSet N a w = some (nI 0, w) := by
  have hp := pow64 hn
  unfold f_X4_isSet
  simp only [bs, l0, l1, l2, l3, l4, l5, l6, l7, l8, l9, l10, l12, l15, l30, l31, l32, l40, l42, l48, l57, l60, l64, l98, l99, l100, l109, l110, l112, l115, l265, l1000, l518400, ngd]
  rw [hm, shl1c (by omega), Nat.one_shiftLeft]
  rcases h with h | h
  · rw [iT (neg0 h)]
  · rw [iF (fun q => by have := (clt (n := 0) (by omega)).mp q; omega), iT ((cge (by omega)).mpr h)]
theorem e_isSet_t {N n s : Nat} {w : Wd} (hn : n ≤ 6) (hm : gI w 4 0 = nI n) (h : s < 2 ^ n) : f_X4_isSet N (nI s) w = some (nI 1, w) := by
  have hp := pow64 hn
  unfold f_X4_isSet
  simp only [bs, l0, l1, l2, l3, l4, l5, l6, l7, l8, l9, l10, l12, l15, l30, l31, l32, l40, l42, l48, l57, l60, l64, l98, l99, l100, l109, l110, l112, l115, l265, l1000, l518400, ngd]
  rw [hm, shl1c (by omega), Nat.one_shiftLeft, iF (nI_nlt (by omega) (by omega)), iF (nI_ge h (by omega))]
theorem e_misSet_f {N n : Nat} {a : Int32} {w : Wd} (hn : n ≤ 6) (hm : gI w 510 0 = nI n) (h : a.toInt < 0 ∨ ((2 ^ n : Nat) : Int) ≤ a.toInt) : f_X5_isSet N a w = some (nI 0, w) := by
  have hp := pow64 hn
  unfold f_X5_isSet
  simp only [bs, l0, l1, l2, l3, l4, l5, l6, l7, l8, l9, l10, l12, l15, l30, l31, l32, l40, l42, l48, l57, l60, l64, l98, l99, l100, l109, l110, l112, l115, l265, l1000, l518400, ngd]
  rw [hm, shl1c (by omega), Nat.one_shiftLeft, e_in_f (n := 2 ^ n) (by omega) h (nn1 (by omega))]
  simp only [bs, l0, l1, l2, l3, l4, l5, l6, l7, l8, l9, l10, l12, l15, l30, l31, l32, l40, l42, l48, l57, l60, l64, l98, l99, l100, l109, l110, l112, l115, l265, l1000, l518400, ngd]
  exact gd_t (by simp)
theorem e_misSet_t {N n s : Nat} {w : Wd} (hn : n ≤ 6) (hm : gI w 510 0 = nI n) (h : s < 2 ^ n) : f_X5_isSet N (nI s) w = some (nI 1, w) := by
  have hp := pow64 hn
  unfold f_X5_isSet
  simp only [bs, l0, l1, l2, l3, l4, l5, l6, l7, l8, l9, l10, l12, l15, l30, l31, l32, l40, l42, l48, l57, l60, l64, l98, l99, l100, l109, l110, l112, l115, l265, l1000, l518400, ngd]
  rw [hm, shl1c (by omega), Nat.one_shiftLeft, e_in_t (n := 2 ^ n) (by omega) h (nn1 (by omega))]
  simp only [bs, l0, l1, l2, l3, l4, l5, l6, l7, l8, l9, l10, l12, l15, l30, l31, l32, l40, l42, l48, l57, l60, l64, l98, l99, l100, l109, l110, l112, l115, l265, l1000, l518400, ngd]
  exact gd_t (by simp)
theorem e_telling_f {N r s f : Nat} {o : Of} {w w2 : Wd} (hf : Wf o) (hm : gI w 510 0 = nI (oN o)) (hr : r < 6) (hs : s < 2 ^ oN o) (h : f_X5_askedRight N (nI r) w = some (ng 3, mref f w2)) : f_X5_askedTelling N (nI r) (nI s) w = some (ng 3, mref f w2) := by
  unfold f_X5_askedTelling; rw [e_misRow_t hr]; simp only [bs, l0, l1, l2, l3, l4, l5, l6, l7, l8, l9, l10, l12, l15, l30, l31, l32, l40, l42, l48, l57, l60, l64, l98, l99, l100, l109, l110, l112, l115, l265, l1000, l518400, ngd, if_true, if_false, bn0, reduceCtorEq, n10, z1, z3, z0]; rw [e_misSet_t hf.1 hm hs]; simp only [bs, l0, l1, l2, l3, l4, l5, l6, l7, l8, l9, l10, l12, l15, l30, l31, l32, l40, l42, l48, l57, l60, l64, l98, l99, l100, l109, l110, l112, l115, l265, l1000, l518400, ngd, if_true, if_false, bn0, reduceCtorEq, n10, z1, z3, z0]; rw [h]; simp only [bs, l0, l1, l2, l3, l4, l5, l6, l7, l8, l9, l10, l12, l15, l30, l31, l32, l40, l42, l48, l57, l60, l64, l98, l99, l100, l109, l110, l112, l115, l265, l1000, l518400, ngd, if_true, if_false, bn0, reduceCtorEq, n10, z1, z3, z0]
theorem e_telling_t {N r s : Nat} {o : Of} {w w2 : Wd} (hf : Wf o) (hm : gI w 510 0 = nI (oN o)) (hr : r < 6) (hs : s < 2 ^ oN o) (h : f_X5_askedRight N (nI r) w = some (nI 0, w2)) : f_X5_askedTelling N (nI r) (nI s) w = some (nI 0, w2) := by
  unfold f_X5_askedTelling; rw [e_misRow_t hr]; simp only [bs, l0, l1, l2, l3, l4, l5, l6, l7, l8, l9, l10, l12, l15, l30, l31, l32, l40, l42, l48, l57, l60, l64, l98, l99, l100, l109, l110, l112, l115, l265, l1000, l518400, ngd, if_true, if_false, bn0, reduceCtorEq, n10, z1, z3, z0]; rw [e_misSet_t hf.1 hm hs]; simp only [bs, l0, l1, l2, l3, l4, l5, l6, l7, l8, l9, l10, l12, l15, l30, l31, l32, l40, l42, l48, l57, l60, l64, l98, l99, l100, l109, l110, l112, l115, l265, l1000, l518400, ngd, if_true, if_false, bn0, reduceCtorEq, n10, z1, z3, z0]; rw [h]; simp only [bs, l0, l1, l2, l3, l4, l5, l6, l7, l8, l9, l10, l12, l15, l30, l31, l32, l40, l42, l48, l57, l60, l64, l98, l99, l100, l109, l110, l112, l115, l265, l1000, l518400, ngd, if_true, if_false, bn0, reduceCtorEq, n10, z1, z3, z0]
theorem ok_fits {N : Nat} (hN : 1000 ≤ N) : Ok_fits N Inv := fun a1 a2 w hI => by
  obtain ⟨o, H, hW, hT⟩ := hI
  have hf := hW.1
  have hn := hf.1
  have hp := pow64 hn
  have h3 := hW.2.2.1
  have h4 := hW.2.2.2.1
  rcases cix a1 (n := 6) (by omega) with h | ⟨r, hr, rfl⟩
  · refine ⟨ng 1, w, w, ?_, ?_, o, H, hW, hT⟩
    · unfold f_X4_fits; rw [e_isRow_f h]; simp only [bs, l0, l1, l2, l3, l4, l5, l6, l7, l8, l9, l10, l12, l15, l30, l31, l32, l40, l42, l48, l57, l60, l64, l98, l99, l100, l109, l110, l112, l115, l265, l1000, l518400, ngd, if_true, if_false, bn0, reduceCtorEq, n10, z1, z3, z0]
    · unfold f_X5_fits f_X5_askedTelling; rw [e_misRow_f h]; simp only [bs, l0, l1, l2, l3, l4, l5, l6, l7, l8, l9, l10, l12, l15, l30, l31, l32, l40, l42, l48, l57, l60, l64, l98, l99, l100, l109, l110, l112, l115, l265, l1000, l518400, ngd, if_true, if_false, bn0, reduceCtorEq, n10, z1, z3, z0]
  rcases cix a2 (n := 2 ^ oN o) (by omega) with h | ⟨s, hs, rfl⟩
  · refine ⟨ng 1, w, w, ?_, ?_, o, H, hW, hT⟩
    · unfold f_X4_fits; rw [e_isRow_t hr]; simp only [bs, l0, l1, l2, l3, l4, l5, l6, l7, l8, l9, l10, l12, l15, l30, l31, l32, l40, l42, l48, l57, l60, l64, l98, l99, l100, l109, l110, l112, l115, l265, l1000, l518400, ngd, if_true, if_false, bn0, reduceCtorEq, n10, z1, z3, z0]; rw [e_isSet_f hn h3.1 h]; simp only [bs, l0, l1, l2, l3, l4, l5, l6, l7, l8, l9, l10, l12, l15, l30, l31, l32, l40, l42, l48, l57, l60, l64, l98, l99, l100, l109, l110, l112, l115, l265, l1000, l518400, ngd, if_true, if_false, bn0, reduceCtorEq, n10, z1, z3, z0]
    · unfold f_X5_fits f_X5_askedTelling; rw [e_misRow_t hr]; simp only [bs, l0, l1, l2, l3, l4, l5, l6, l7, l8, l9, l10, l12, l15, l30, l31, l32, l40, l42, l48, l57, l60, l64, l98, l99, l100, l109, l110, l112, l115, l265, l1000, l518400, ngd, if_true, if_false, bn0, reduceCtorEq, n10, z1, z3, z0]; rw [e_misSet_f hn h4.1 h]; simp only [bs, l0, l1, l2, l3, l4, l5, l6, l7, l8, l9, l10, l12, l15, l30, l31, l32, l40, l42, l48, l57, l60, l64, l98, l99, l100, l109, l110, l112, l115, l265, l1000, l518400, ngd, if_true, if_false, bn0, reduceCtorEq, n10, z1, z3, z0]
  have hL := LOk_r hf
  rcases tell_cases hN hW hT hr with ⟨f, wa, w2, f1, f2, ec, hWa, hTa, em, gm⟩ | ⟨d, wa, hd, hmem, ec, hWa, hC, hTa, em⟩
  · refine ⟨ng 3, cref f wa, mref f w2, ?_, ?_, Inv_ref hWa hTa gm⟩
    · unfold f_X4_fits; rw [e_isRow_t hr]; simp only [bs, l0, l1, l2, l3, l4, l5, l6, l7, l8, l9, l10, l12, l15, l30, l31, l32, l40, l42, l48, l57, l60, l64, l98, l99, l100, l109, l110, l112, l115, l265, l1000, l518400, ngd, if_true, if_false, bn0, reduceCtorEq, n10, z1, z3, z0]; rw [e_isSet_t hn h3.1 hs]; simp only [bs, l0, l1, l2, l3, l4, l5, l6, l7, l8, l9, l10, l12, l15, l30, l31, l32, l40, l42, l48, l57, l60, l64, l98, l99, l100, l109, l110, l112, l115, l265, l1000, l518400, ngd, if_true, if_false, bn0, reduceCtorEq, n10, z1, z3, z0]; rw [ec]; simp only [bs, l0, l1, l2, l3, l4, l5, l6, l7, l8, l9, l10, l12, l15, l30, l31, l32, l40, l42, l48, l57, l60, l64, l98, l99, l100, l109, l110, l112, l115, l265, l1000, l518400, ngd, if_true, if_false, bn0, reduceCtorEq, n10, z1, z3, z0]; rw [iF (by rw [ng_nn (by omega) (by omega) (by omega)]; simp), ng_neg, e_refuse f2]; simp only [bs, l0, l1, l2, l3, l4, l5, l6, l7, l8, l9, l10, l12, l15, l30, l31, l32, l40, l42, l48, l57, l60, l64, l98, l99, l100, l109, l110, l112, l115, l265, l1000, l518400, ngd, if_true, if_false, bn0, reduceCtorEq, n10, z1, z3, z0]
    · unfold f_X5_fits; rw [e_telling_f hf (RM_ag hWa.2.2.2.1 (cref_ag f wa)).1 hr hs em]; simp only [bs, l0, l1, l2, l3, l4, l5, l6, l7, l8, l9, l10, l12, l15, l30, l31, l32, l40, l42, l48, l57, l60, l64, l98, l99, l100, l109, l110, l112, l115, l265, l1000, l518400, ngd, if_true, if_false, bn0, reduceCtorEq, n10, z1, z3, z0]
  · have hcd := Pm_cd hd hn
    obtain ⟨w2, e2, b1, b2, b3⟩ := em wa (ag.rf _ _)
    obtain ⟨w3, e3, d1, d2⟩ := e_knownOf (N := N) hN hL hr hd (show s < 64 by omega) b2 (RM_ag hWa.2.2.2.1 b1).1 b3
    refine ⟨nI (fitc (oN o) s (rights o) d), wa, w3, ?_, ?_, o, H, IW_ag (IW_ag hWa b1) d1, Itl_ag (Itl_ag hTa b1) d1⟩
    · unfold f_X4_fits; rw [e_isRow_t hr]; simp only [bs, l0, l1, l2, l3, l4, l5, l6, l7, l8, l9, l10, l12, l15, l30, l31, l32, l40, l42, l48, l57, l60, l64, l98, l99, l100, l109, l110, l112, l115, l265, l1000, l518400, ngd, if_true, if_false, bn0, reduceCtorEq, n10, z1, z3, z0]; rw [e_isSet_t hn h3.1 hs]; simp only [bs, l0, l1, l2, l3, l4, l5, l6, l7, l8, l9, l10, l12, l15, l30, l31, l32, l40, l42, l48, l57, l60, l64, l98, l99, l100, l109, l110, l112, l115, l265, l1000, l518400, ngd, if_true, if_false, bn0, reduceCtorEq, n10, z1, z3, z0]; rw [ec]; simp only [bs, l0, l1, l2, l3, l4, l5, l6, l7, l8, l9, l10, l12, l15, l30, l31, l32, l40, l42, l48, l57, l60, l64, l98, l99, l100, l109, l110, l112, l115, l265, l1000, l518400, ngd, if_true, if_false, bn0, reduceCtorEq, n10, z1, z3, z0]; rw [iT (nI_le (by omega) (by omega)), e_papersOf hN hn hWa.2.2.1.1 (by omega)]; simp only [bs, l0, l1, l2, l3, l4, l5, l6, l7, l8, l9, l10, l12, l15, l30, l31, l32, l40, l42, l48, l57, l60, l64, l98, l99, l100, l109, l110, l112, l115, l265, l1000, l518400, ngd, if_true, if_false, bn0, reduceCtorEq, n10, z1, z3, z0]; rw [e_fitS hN hL hC hd]; simp only [bs, l0, l1, l2, l3, l4, l5, l6, l7, l8, l9, l10, l12, l15, l30, l31, l32, l40, l42, l48, l57, l60, l64, l98, l99, l100, l109, l110, l112, l115, l265, l1000, l518400, ngd, if_true, if_false, bn0, reduceCtorEq, n10, z1, z3, z0]
    · unfold f_X5_fits; rw [e_telling_t hf hWa.2.2.2.1.1 hr hs e2]; simp only [bs, l0, l1, l2, l3, l4, l5, l6, l7, l8, l9, l10, l12, l15, l30, l31, l32, l40, l42, l48, l57, l60, l64, l98, l99, l100, l109, l110, l112, l115, l265, l1000, l518400, ngd, if_true, if_false, bn0, reduceCtorEq, n10, z1, z3, z0]; rw [e3]; simp only [bs, l0, l1, l2, l3, l4, l5, l6, l7, l8, l9, l10, l12, l15, l30, l31, l32, l40, l42, l48, l57, l60, l64, l98, l99, l100, l109, l110, l112, l115, l265, l1000, l518400, ngd, if_true, if_false, bn0, reduceCtorEq, n10, z1, z3, z0]; rw [d2]
/-! known -/
def dfo (L : List (List Nat)) (e M : Nat) : Nat → Nat → Nat → Nat
  | 0, _, u => u
  | m + 1, k, u => dfo L e M m (k + 1) (if ftf L e M k = true then u ||| (cd (dr L k) ^^^ e) else u)
theorem dfo_lt {n e M : Nat} {L : List (List Nat)} (hL : LOk n L) (he : e < 262144) : ∀ (m k u : Nat), k + m ≤ L.length → u < 262144 → dfo L e M m k u < 262144 := by
  intro m
  induction m with
  | zero => intro k u _ h; exact h
  | succ m ih =>
    intro k u hk hu
    rw [dfo]
    refine ih _ _ (by omega) ?_
    split
    · exact Nat.or_lt_two_pow (n := 18) hu (xor_lt (Pm_cd (LOk_at hL (by omega)) hL.1) he)
    · exact hu
theorem pp_or (a b x : Nat) : pp (a ||| b) x = 0 ↔ pp a x = 0 ∧ pp b x = 0 := by
  unfold pp
  rw [Nat.shiftRight_or_distrib, show (8 : Nat) = 2 ^ 3 from rfl, Nat.or_mod_two_pow, Nat.or_eq_zero_iff]
theorem dfo_pp {L : List (List Nat)} {e M x : Nat} : ∀ (m k u : Nat), pp (dfo L e M m k u) x = 0 ↔ pp u x = 0 ∧ ∀ i, k ≤ i → i < k + m → ftf L e M i = true → pp (cd (dr L i)) x = pp e x := by
  intro m
  induction m with
  | zero => intro k u; exact ⟨fun h => ⟨h, fun i a b => by omega⟩, fun h => h.1⟩
  | succ m ih =>
    intro k u
    rw [dfo, ih]
    cases c : ftf L e M k with
    | false =>
      simp only [Bool.false_eq_true, if_false]
      constructor
      · rintro ⟨h1, h2⟩
        refine ⟨h1, fun i a b hs => ?_⟩
        rcases Nat.eq_or_lt_of_le a with q | q
        · subst q; rw [c] at hs; cases hs
        · exact h2 i (by omega) (by omega) hs
      · rintro ⟨h1, h2⟩; exact ⟨h1, fun i a b => h2 i (by omega) (by omega)⟩
    | true =>
      simp only [if_true]
      rw [pp_or, pp_xor]
      constructor
      · rintro ⟨⟨h1, h3⟩, h2⟩
        refine ⟨h1, fun i a b hs => ?_⟩
        rcases Nat.eq_or_lt_of_le a with q | q
        · subst q; exact h3
        · exact h2 i (by omega) (by omega) hs
      · rintro ⟨h1, h2⟩; exact ⟨⟨h1, h2 k (by omega) (by omega) c⟩, fun i a b => h2 i (by omega) (by omega)⟩
theorem e_differing_L {N n e M : Nat} {L : List (List Nat)} {w : Wd} (hL : LOk n L) (h : RTC 0 L w) (he : e < 262144) : ∀ (m k u F : Nat), k + m = L.length → m < F → X2_differing_L1 N 0 (nI e) (nI M) F (nI u) (nI k) w = some (nI (dfo L e M m k u), w) := by
  have hl := hL.2.1
  intro m
  induction m with
  | zero =>
    intro k u F hk hF
    obtain ⟨F, rfl, _⟩ := fuel_s hF
    rw [X2_differing_L1, h.1, iT (nI_le (by omega) (by omega)), dfo]
  | succ m ih =>
    intro k u F hk hF
    obtain ⟨F, rfl, hF'⟩ := fuel_s hF
    rw [X2_differing_L1, h.1, iF (nI_ge (by omega) (by omega)), e_fitsAt hL h (by omega) he, dfo]
    simp only [bs, l0, l1, l2, l3, l4, l5, l6, l7, l8, l9, l10, l12, l15, l30, l31, l32, l40, l42, l48, l57, l60, l64, l98, l99, l100, l109, l110, l112, l115, l265, l1000, l518400, ngd]
    cases q : ftf L e M k with
    | false => rw [iT bnFc, nI_add, ih (k + 1) _ F (by omega) (by omega)]; simp
    | true => rw [iF bnTc, gd_in (by omega) (by omega), nI_clamp (by omega), h.2 k (by omega), nx_xor, nx_or, nI_add, ih (k + 1) _ F (by omega) (by omega)]; simp
theorem e_knownC_L {N n s u : Nat} {w : Wd} (hn : n ≤ 6) (hm : gI w 4 0 = nI n) (hs : s < 64) (hu : u < 262144) : ∀ (m k A F : Nat), k + m = n → m < F → X4_known_L1 N (nI s) (nI u) F (nI A) (nI k) w = some (nI (opl (fun x => !s.testBit x && decide (pp u x = 0)) m k A), w) := by
  intro m
  induction m with
  | zero =>
    intro k A F hk hF
    obtain ⟨F, rfl, _⟩ := fuel_s hF
    rw [X4_known_L1, hm, iT (nI_le (by omega) (by omega)), opl]
  | succ m ih =>
    intro k A F hk hF
    obtain ⟨F, rfl, hF'⟩ := fuel_s hF
    have hpl := pp_lt u k
    rw [X4_known_L1, hm, iF (nI_ge (by omega) (by omega)), e_paper (by omega) (by omega), opl]
    simp only [bs, l0, l1, l2, l3, l4, l5, l6, l7, l8, l9, l10, l12, l15, l30, l31, l32, l40, l42, l48, l57, l60, l64, l98, l99, l100, l109, l110, l112, l115, l265, l1000, l518400, ngd]
    rw [nI_add, shl1c (by omega), nx_or]
    cases e : s.testBit k with
    | false =>
      rw [iT (by rw [bit0c (by omega) (by omega), e])]
      by_cases c : pp u k = 0
      · rw [iT (by rw [c]), ih (k + 1) _ F (by omega) (by omega)]; simp [c]
      · rw [iF (fun q => c ((nI_eq (by omega) (by omega)).mp q)), ih (k + 1) _ F (by omega) (by omega)]; simp [c]
    | true => rw [iF (by rw [bit0c (by omega) (by omega), e]; simp), ih (k + 1) _ F (by omega) (by omega)]; simp
theorem kn_bit {n s x : Nat} {L : List (List Nat)} {d : List Nat} : ∀ (m k a : Nat), (kn n s L d m k a).testBit x = true ↔ a.testBit x = true ∧ ∀ i, k ≤ i → i < k + m → als s (dr L i) d n 0 = true → (alm n L d i).testBit x = true := by
  intro m
  induction m with
  | zero => intro k a; exact ⟨fun h => ⟨h, fun i a b => by omega⟩, fun h => h.1⟩
  | succ m ih =>
    intro k a
    rw [kn, ih]
    cases c : als s (dr L k) d n 0 with
    | false =>
      simp only [Bool.false_eq_true, if_false]
      constructor
      · rintro ⟨h1, h2⟩
        refine ⟨h1, fun i a b hs => ?_⟩
        rcases Nat.eq_or_lt_of_le a with q | q
        · subst q; rw [c] at hs; cases hs
        · exact h2 i (by omega) (by omega) hs
      · rintro ⟨h1, h2⟩; exact ⟨h1, fun i a b => h2 i (by omega) (by omega)⟩
    | true =>
      simp only [if_true]
      rw [Nat.testBit_and, Bool.and_eq_true]
      constructor
      · rintro ⟨⟨h1, h3⟩, h2⟩
        refine ⟨h1, fun i a b hs => ?_⟩
        rcases Nat.eq_or_lt_of_le a with q | q
        · subst q; exact h3
        · exact h2 i (by omega) (by omega) hs
      · rintro ⟨h1, h2⟩; exact ⟨⟨h1, h2 k (by omega) (by omega) c⟩, fun i a b => h2 i (by omega) (by omega)⟩
theorem kn_le {n s : Nat} {L : List (List Nat)} {d : List Nat} : ∀ (m k a : Nat), kn n s L d m k a ≤ a := by
  intro m
  induction m with
  | zero => intro k a; exact Nat.le_refl _
  | succ m ih =>
    intro k a
    rw [kn]
    refine Nat.le_trans (ih _ _) ?_
    split
    · exact Nat.and_le_left
    · exact Nat.le_refl _
theorem known_eq {n s : Nat} {L : List (List Nat)} {d : List Nat} (hL : LOk n L) (hd : Pm n d) : opl (fun x => !s.testBit x && decide (pp (dfo L (cd d) (ppo s n 0 0) L.length 0 0) x = 0)) n 0 0 = knf n s L d &&& (s ^^^ 4294967295) := by
  have hn := hL.1
  have hp := pow64 hn
  apply Nat.eq_of_testBit_eq
  intro j
  rw [opl_bit]
  by_cases c : j < n
  · rw [andnot (by omega)]
    have key : (knf n s L d).testBit j = decide (pp (dfo L (cd d) (ppo s n 0 0) L.length 0 0) j = 0) := by
      rw [Bool.eq_iff_iff, decide_eq_true_eq]
      unfold knf
      rw [kn_bit, dfo_pp, Nat.testBit_two_pow_sub_one]
      constructor
      · rintro ⟨_, h⟩
        refine ⟨by unfold pp; simp, fun i a b hi => ?_⟩
        rw [ftf_pap hL (by omega) hd] at hi
        have := h i a b hi
        unfold alm at this
        rw [opl_bit] at this
        rw [Pm_pp (LOk_at hL (by omega)) hn, Pm_pp hd hn]
        simpa [c] using this
      · rintro ⟨_, h⟩
        refine ⟨by simp [c], fun i a b hi => ?_⟩
        rw [← ftf_pap hL (by omega) hd] at hi
        have := h i a b hi
        rw [Pm_pp (LOk_at hL (by omega)) hn, Pm_pp hd hn] at this
        unfold alm
        rw [opl_bit]
        simp [c, this]
    rw [key]
    cases s.testBit j <;> simp [c]
  · have h0 : (knf n s L d).testBit j = false := by
      refine Nat.testBit_lt_two_pow (Nat.lt_of_le_of_lt (kn_le _ _ _) ?_)
      have : (2 : Nat) ^ n ≤ 2 ^ j := Nat.pow_le_pow_right (by omega) (by omega)
      omega
    rw [Nat.testBit_and, h0]
    simp [c]
theorem ok_known {N : Nat} (hN : 1000 ≤ N) : Ok_known N Inv := fun a1 a2 w hI => by
  obtain ⟨o, H, hW, hT⟩ := hI
  have hf := hW.1
  have hn := hf.1
  have hp := pow64 hn
  have h3 := hW.2.2.1
  have h4 := hW.2.2.2.1
  rcases cix a1 (n := 6) (by omega) with h | ⟨r, hr, rfl⟩
  · refine ⟨ng 1, w, w, ?_, ?_, o, H, hW, hT⟩
    · unfold f_X4_known; rw [e_isRow_f h]; simp only [bs, l0, l1, l2, l3, l4, l5, l6, l7, l8, l9, l10, l12, l15, l30, l31, l32, l40, l42, l48, l57, l60, l64, l98, l99, l100, l109, l110, l112, l115, l265, l1000, l518400, ngd, if_true, if_false, bn0, reduceCtorEq, n10, z1, z3, z0]
    · unfold f_X5_known f_X5_askedTelling; rw [e_misRow_f h]; simp only [bs, l0, l1, l2, l3, l4, l5, l6, l7, l8, l9, l10, l12, l15, l30, l31, l32, l40, l42, l48, l57, l60, l64, l98, l99, l100, l109, l110, l112, l115, l265, l1000, l518400, ngd, if_true, if_false, bn0, reduceCtorEq, n10, z1, z3, z0]
  rcases cix a2 (n := 2 ^ oN o) (by omega) with h | ⟨s, hs, rfl⟩
  · refine ⟨ng 1, w, w, ?_, ?_, o, H, hW, hT⟩
    · unfold f_X4_known; rw [e_isRow_t hr]; simp only [bs, l0, l1, l2, l3, l4, l5, l6, l7, l8, l9, l10, l12, l15, l30, l31, l32, l40, l42, l48, l57, l60, l64, l98, l99, l100, l109, l110, l112, l115, l265, l1000, l518400, ngd, if_true, if_false, bn0, reduceCtorEq, n10, z1, z3, z0]; rw [e_isSet_f hn h3.1 h]; simp only [bs, l0, l1, l2, l3, l4, l5, l6, l7, l8, l9, l10, l12, l15, l30, l31, l32, l40, l42, l48, l57, l60, l64, l98, l99, l100, l109, l110, l112, l115, l265, l1000, l518400, ngd, if_true, if_false, bn0, reduceCtorEq, n10, z1, z3, z0]
    · unfold f_X5_known f_X5_askedTelling; rw [e_misRow_t hr]; simp only [bs, l0, l1, l2, l3, l4, l5, l6, l7, l8, l9, l10, l12, l15, l30, l31, l32, l40, l42, l48, l57, l60, l64, l98, l99, l100, l109, l110, l112, l115, l265, l1000, l518400, ngd, if_true, if_false, bn0, reduceCtorEq, n10, z1, z3, z0]; rw [e_misSet_f hn h4.1 h]; simp only [bs, l0, l1, l2, l3, l4, l5, l6, l7, l8, l9, l10, l12, l15, l30, l31, l32, l40, l42, l48, l57, l60, l64, l98, l99, l100, l109, l110, l112, l115, l265, l1000, l518400, ngd, if_true, if_false, bn0, reduceCtorEq, n10, z1, z3, z0]
  have hL := LOk_r hf
  have hll := hL.2.1
  rcases tell_cases hN hW hT hr with ⟨f, wa, w2, f1, f2, ec, hWa, hTa, em, gm⟩ | ⟨d, wa, hd, hmem, ec, hWa, hC, hTa, em⟩
  · refine ⟨ng 3, cref f wa, mref f w2, ?_, ?_, Inv_ref hWa hTa gm⟩
    · unfold f_X4_known; rw [e_isRow_t hr]; simp only [bs, l0, l1, l2, l3, l4, l5, l6, l7, l8, l9, l10, l12, l15, l30, l31, l32, l40, l42, l48, l57, l60, l64, l98, l99, l100, l109, l110, l112, l115, l265, l1000, l518400, ngd, if_true, if_false, bn0, reduceCtorEq, n10, z1, z3, z0]; rw [e_isSet_t hn h3.1 hs]; simp only [bs, l0, l1, l2, l3, l4, l5, l6, l7, l8, l9, l10, l12, l15, l30, l31, l32, l40, l42, l48, l57, l60, l64, l98, l99, l100, l109, l110, l112, l115, l265, l1000, l518400, ngd, if_true, if_false, bn0, reduceCtorEq, n10, z1, z3, z0]; rw [ec]; simp only [bs, l0, l1, l2, l3, l4, l5, l6, l7, l8, l9, l10, l12, l15, l30, l31, l32, l40, l42, l48, l57, l60, l64, l98, l99, l100, l109, l110, l112, l115, l265, l1000, l518400, ngd, if_true, if_false, bn0, reduceCtorEq, n10, z1, z3, z0]; rw [iF (by rw [ng_nn (by omega) (by omega) (by omega)]; simp), ng_neg, e_refuse f2]; simp only [bs, l0, l1, l2, l3, l4, l5, l6, l7, l8, l9, l10, l12, l15, l30, l31, l32, l40, l42, l48, l57, l60, l64, l98, l99, l100, l109, l110, l112, l115, l265, l1000, l518400, ngd, if_true, if_false, bn0, reduceCtorEq, n10, z1, z3, z0]
    · unfold f_X5_known; rw [e_telling_f hf (RM_ag hWa.2.2.2.1 (cref_ag f wa)).1 hr hs em]; simp only [bs, l0, l1, l2, l3, l4, l5, l6, l7, l8, l9, l10, l12, l15, l30, l31, l32, l40, l42, l48, l57, l60, l64, l98, l99, l100, l109, l110, l112, l115, l265, l1000, l518400, ngd, if_true, if_false, bn0, reduceCtorEq, n10, z1, z3, z0]
  · have hcd := Pm_cd hd hn
    have hdf := dfo_lt (M := ppo s (oN o) 0 0) hL hcd (rights o).length 0 0 (by omega) (by omega)
    obtain ⟨w2, e2, b1, b2, b3⟩ := em wa (ag.rf _ _)
    obtain ⟨w3, e3, d1, d2⟩ := e_knownOf (N := N) hN hL hr hd (show s < 64 by omega) b2 (RM_ag hWa.2.2.2.1 b1).1 b3
    refine ⟨nI (knf (oN o) s (rights o) d &&& (s ^^^ 4294967295)), wa, w3, ?_, ?_, o, H, IW_ag (IW_ag hWa b1) d1, Itl_ag (Itl_ag hTa b1) d1⟩
    · unfold f_X4_known; rw [e_isRow_t hr]; simp only [bs, l0, l1, l2, l3, l4, l5, l6, l7, l8, l9, l10, l12, l15, l30, l31, l32, l40, l42, l48, l57, l60, l64, l98, l99, l100, l109, l110, l112, l115, l265, l1000, l518400, ngd, if_true, if_false, bn0, reduceCtorEq, n10, z1, z3, z0]; rw [e_isSet_t hn h3.1 hs]; simp only [bs, l0, l1, l2, l3, l4, l5, l6, l7, l8, l9, l10, l12, l15, l30, l31, l32, l40, l42, l48, l57, l60, l64, l98, l99, l100, l109, l110, l112, l115, l265, l1000, l518400, ngd, if_true, if_false, bn0, reduceCtorEq, n10, z1, z3, z0]; rw [ec]; simp only [bs, l0, l1, l2, l3, l4, l5, l6, l7, l8, l9, l10, l12, l15, l30, l31, l32, l40, l42, l48, l57, l60, l64, l98, l99, l100, l109, l110, l112, l115, l265, l1000, l518400, ngd, if_true, if_false, bn0, reduceCtorEq, n10, z1, z3, z0]; rw [iT (nI_le (by omega) (by omega)), e_papersOf hN hn hWa.2.2.1.1 (by omega)]; unfold f_X2_differing; simp only [bs, l0, l1, l2, l3, l4, l5, l6, l7, l8, l9, l10, l12, l15, l30, l31, l32, l40, l42, l48, l57, l60, l64, l98, l99, l100, l109, l110, l112, l115, l265, l1000, l518400, ngd, if_true, if_false, bn0, reduceCtorEq, n10, z1, z3, z0]; rw [e_differing_L hL hC hcd (rights o).length 0 0 N (by omega) (by omega)]; simp only [bs, l0, l1, l2, l3, l4, l5, l6, l7, l8, l9, l10, l12, l15, l30, l31, l32, l40, l42, l48, l57, l60, l64, l98, l99, l100, l109, l110, l112, l115, l265, l1000, l518400, ngd, if_true, if_false, bn0, reduceCtorEq, n10, z1, z3, z0]; rw [e_knownC_L hn hWa.2.2.1.1 (by omega) hdf (oN o) 0 0 N (by omega) (by omega), known_eq hL hd]; simp only [bs, l0, l1, l2, l3, l4, l5, l6, l7, l8, l9, l10, l12, l15, l30, l31, l32, l40, l42, l48, l57, l60, l64, l98, l99, l100, l109, l110, l112, l115, l265, l1000, l518400, ngd, if_true, if_false, bn0, reduceCtorEq, n10, z1, z3, z0]
    · unfold f_X5_known; rw [e_telling_t hf hWa.2.2.2.1.1 hr hs e2]; simp only [bs, l0, l1, l2, l3, l4, l5, l6, l7, l8, l9, l10, l12, l15, l30, l31, l32, l40, l42, l48, l57, l60, l64, l98, l99, l100, l109, l110, l112, l115, l265, l1000, l518400, ngd, if_true, if_false, bn0, reduceCtorEq, n10, z1, z3, z0]; rw [e3]; simp only [bs, l0, l1, l2, l3, l4, l5, l6, l7, l8, l9, l10, l12, l15, l30, l31, l32, l40, l42, l48, l57, l60, l64, l98, l99, l100, l109, l110, l112, l115, l265, l1000, l518400, ngd, if_true, if_false, bn0, reduceCtorEq, n10, z1, z3, z0]; rw [notc, nx_and]
