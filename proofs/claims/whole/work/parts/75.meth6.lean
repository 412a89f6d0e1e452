/-! year -/
theorem e_addYear {N i c : Nat} {d : List Nat} {w : Wd} (hc : c < 42) (h : gI w 5 i = nI c) : f_X0_addYear N i (nI (cd d)) w = some (sI (sA w 19 i (upd (gA w 19 i) c (nI (cd d)))) 5 i (nI (c + 1))) := by
  unfold f_X0_addYear
  simp only [bs, l0, l1, l2, l3, l4, l5, l6, l7, l8, l9, l10, l12, l15, l30, l31, l32, l40, l42, l48, l57, l60, l64, l98, l99, l100, l109, l110, l112, l115, l265, l1000, l518400, ngd]
  rw [h, iF (nI_ge (by omega) (by omega)), gd_in (by omega) (by omega), nI_clamp (by omega), show gI (sA w 19 i (upd (gA w 19 i) c (nI (cd d)))) 5 i = nI c from h, nI_add]
theorem e_year_L {N n c : Nat} {d : List Nat} (hn : n ≤ 6) (hc : c < 42) : ∀ (m k F : Nat) (w : Wd), gI w 510 0 = nI n → gI w 518 0 = nI c → One n d w → k + m = n → m < F → ∃ w', X5_year_L1 N F (nI k) w = some w' ∧ ag [39] w w' ∧ (∀ x, k ≤ x → x < n → gA w' 39 0 (6 * c + x) = nI (dg d x)) ∧ ∀ j, j < 6 * c + k → gA w' 39 0 j = gA w 39 0 j := by
  intro m
  induction m with
  | zero =>
    intro k F w hm h5 hO hk hF
    obtain ⟨F, rfl, _⟩ := fuel_s hF
    rw [X5_year_L1, hm, iT (nI_le (by omega) (by omega))]
    exact ⟨w, rfl, ag.rf _ _, fun x a b => by omega, fun _ _ => rfl⟩
  | succ m ih =>
    intro k F w hm h5 hO hk hF
    obtain ⟨F, rfl, hF'⟩ := fuel_s hF
    rw [X5_year_L1, hm, iF (nI_ge (by omega) (by omega)), h5]
    simp only [bs, l0, l1, l2, l3, l4, l5, l6, l7, l8, l9, l10, l12, l15, l30, l31, l32, l40, l42, l48, l57, l60, l64, l98, l99, l100, l109, l110, l112, l115, l265, l1000, l518400, ngd]
    rw [gd_in (by omega) (by omega), pk_mul, nI_add, gd_in (by omega) (by omega), nI_clamp (by omega), nI_clamp (by omega), nI_add, hO k (by omega)]
    obtain ⟨w', e, a1, a2, a3⟩ := ih (k + 1) F (sA w 39 0 (upd (gA w 39 0) (6 * c + k) (nI (dg d k)))) hm h5 hO (by omega) (by omega)
    refine ⟨w', e, ((ag.rf _ w).sA (by simp)).tr a1, fun x b1 b2 => ?_, fun j hj => ?_⟩
    · rcases Nat.eq_or_lt_of_le b1 with q | q
      · subst q
        rw [a3 _ (by omega), gA_sA, if_pos ⟨rfl, rfl⟩, pk_us]
      · exact a2 x (by omega) b2
    · rw [a3 j (by omega), gA_sA, if_pos ⟨rfl, rfl⟩, pk_un (by omega)]
theorem Wf_year {o : Of} {d : List Nat} (hf : Wf o) (hd : Pm (oN o) d) (hc : oC o < 42) : Wf (setY o (oY o ++ [d])) ∧ oC (setY o (oY o ++ [d])) = oC o + 1 := by
  have h1 : oC (setY o (oY o ++ [d])) = oC o + 1 := by
    show (oY o ++ [d]).length = _
    rw [List.length_append, List.length_singleton]; rfl
  refine ⟨⟨hf.1, hf.2.1, hf.2.2.1, by rw [h1]; omega, fun e he => ?_⟩, h1⟩
  have he : e ∈ oY o ++ [d] := he
  rcases List.mem_append.mp he with q | q
  · exact hf.2.2.2.2 e q
  · rw [List.mem_singleton.mp q]; exact hd
theorem RO_year {i : Nat} {o : Of} {d : List Nat} {w w' : Wd} (h : RO i o w) (hf : Wf o) (hd : Pm (oN o) d) (hc : oC o < 42) (e4 : gI w' 4 i = gI w 4 i) (e6 : gI w' 6 i = gI w 6 i) (e5 : gI w' 5 i = nI (oC o + 1)) (e16 : gA w' 16 i = gA w 16 i) (e17 : gA w' 17 i = gA w 17 i) (e18 : gA w' 18 i = gA w 18 i) (e19 : gA w' 19 i = upd (gA w 19 i) (oC o) (nI (cd d))) : RO i (setY o (oY o ++ [d])) w' := by
  have hc1 := (Wf_year hf hd hc).2
  refine ⟨e4.trans h.1, by rw [hc1]; exact e5, e6.trans h.2.2.1, fun x hx => by rw [e16, e17, e18]; exact h.2.2.2.1 x hx, fun k hk => ?_⟩
  rw [hc1] at hk
  rw [e19]
  show _ = nI (cd (dr (oY o ++ [d]) k))
  by_cases q : k = oC o
  · rw [q, pk_us, show oC o = (oY o).length from rfl, dr_r]
  · rw [pk_un q, dr_l (show k < (oY o).length from by show k < oC o; omega)]; exact h.2.2.2.2 k (by omega)
theorem RM_year {o : Of} {d : List Nat} {w w' : Wd} (h : RM o w) (hf : Wf o) (hd : Pm (oN o) d) (hc : oC o < 42) (e4 : gI w' 510 0 = gI w 510 0) (e6 : gI w' 511 0 = gI w 511 0) (e5 : gI w' 518 0 = nI (oC o + 1)) (e16 : gA w' 36 0 = gA w 36 0) (e17 : gA w' 37 0 = gA w 37 0) (e18 : gA w' 38 0 = gA w 38 0) (e19 : ∀ x, x < oN o → gA w' 39 0 (6 * oC o + x) = nI (dg d x)) (e20 : ∀ j, j < 6 * oC o → gA w' 39 0 j = gA w 39 0 j) : RM (setY o (oY o ++ [d])) w' := by
  have hc1 := (Wf_year hf hd hc).2
  have hn := hf.1
  refine ⟨e4.trans h.1, by rw [hc1]; exact e5, e6.trans h.2.2.1, fun x hx => by rw [e16, e17, e18]; exact h.2.2.2.1 x hx, fun k hk x hx => ?_⟩
  rw [hc1] at hk
  have hx : x < oN o := hx
  show _ = nI (dg (dr (oY o ++ [d]) k) x)
  by_cases q : k = oC o
  · rw [q, e19 x hx, show oC o = (oY o).length from rfl, dr_r]
  · rw [e20 _ (by omega), dr_l (show k < (oY o).length from by show k < oC o; omega)]; exact h.2.2.2.2 k (by omega) x hx
theorem ok_year {N : Nat} (hN : 1000 ≤ N) : Ok_year N Inv := fun a1 w hI => by
  obtain ⟨o, H, hW, hT⟩ := hI
  obtain ⟨h1, h2, h3, h4, h5, h6, h7, h8, h9⟩ := id hW
  have hn := h1.1
  rcases cix a1 (n := 6) (by omega) with h | ⟨r, hr, rfl⟩
  · refine ⟨ng 1, w, w, ?_, ?_, o, H, hW, hT⟩
    · unfold f_X4_year; rw [e_isRow_f h]; simp only [bs, l0, l1, l2, l3, l4, l5, l6, l7, l8, l9, l10, l12, l15, l30, l31, l32, l40, l42, l48, l57, l60, l64, l98, l99, l100, l109, l110, l112, l115, l265, l1000, l518400, ngd, if_true, if_false, bn0, reduceCtorEq, n10, z1, z3, z0]
    · unfold f_X5_year; rw [e_misRow_f h]; simp only [bs, l0, l1, l2, l3, l4, l5, l6, l7, l8, l9, l10, l12, l15, l30, l31, l32, l40, l42, l48, l57, l60, l64, l98, l99, l100, l109, l110, l112, l115, l265, l1000, l518400, ngd, if_true, if_false, bn0, reduceCtorEq, n10, z1, z3, z0]
  by_cases c : oC o = 12
  · refine ⟨ng 2, w, w, ?_, ?_, o, H, hW, hT⟩
    · unfold f_X4_year; rw [e_isRow_t hr]; simp only [bs, l0, l1, l2, l3, l4, l5, l6, l7, l8, l9, l10, l12, l15, l30, l31, l32, l40, l42, l48, l57, l60, l64, l98, l99, l100, l109, l110, l112, l115, l265, l1000, l518400, ngd, if_true, if_false, bn0, reduceCtorEq, n10, z1, z3, z0]; rw [h3.2.1, iF (nI_nlt (by omega) (by omega))]
    · unfold f_X5_year; rw [e_misRow_t hr]; simp only [bs, l0, l1, l2, l3, l4, l5, l6, l7, l8, l9, l10, l12, l15, l30, l31, l32, l40, l42, l48, l57, l60, l64, l98, l99, l100, l109, l110, l112, l115, l265, l1000, l518400, ngd, if_true, if_false, bn0, reduceCtorEq, n10, z1, z3, z0]; rw [h4.2.1, iT (by rw [c])]
  have c' : ¬ nI (oC o) = nI 12 := fun q => c ((nI_eq (by omega) (by omega)).mp q)
  by_cases c2 : oN o = 0
  · refine ⟨ng 4, w, w, ?_, ?_, o, H, hW, hT⟩
    · unfold f_X4_year; rw [e_isRow_t hr]; simp only [bs, l0, l1, l2, l3, l4, l5, l6, l7, l8, l9, l10, l12, l15, l30, l31, l32, l40, l42, l48, l57, l60, l64, l98, l99, l100, l109, l110, l112, l115, l265, l1000, l518400, ngd, if_true, if_false, bn0, reduceCtorEq, n10, z1, z3, z0]; rw [h3.2.1, iT (nI_lt (by omega) (by omega)), h3.1, iT (by rw [c2])]
    · unfold f_X5_year; rw [e_misRow_t hr]; simp only [bs, l0, l1, l2, l3, l4, l5, l6, l7, l8, l9, l10, l12, l15, l30, l31, l32, l40, l42, l48, l57, l60, l64, l98, l99, l100, l109, l110, l112, l115, l265, l1000, l518400, ngd, if_true, if_false, bn0, reduceCtorEq, n10, z1, z3, z0]; rw [h4.2.1, iF c', h4.1, iT (by rw [c2])]
  have c2' : ¬ nI (oN o) = nI 0 := fun q => c2 ((nI_eq (by omega) (by omega)).mp q)
  rcases draw_cases hW hr with ⟨d, hd⟩ | ⟨f, hf⟩
  · have hc1 := hd.1
    have hcd := Pm_cd hc1 hn
    obtain ⟨w1, hw1⟩ : ∃ w1, w1 = sI (sI (sA w 19 0 (upd (gA w 19 0) (oC o) (nI (cd d)))) 5 0 (nI (oC o + 1))) 411 0 (nI 1) := ⟨_, rfl⟩
    have g1 : ag [19, 5, 411] w w1 := by rw [hw1]; exact (((ag.rf _ w).sA (by simp)).sI (by simp)).sI (by simp)
    have h41 : RM o w1 := RM_ag h4 g1
    obtain ⟨w2, e2, b1, b2⟩ := e_asked_t (N := N) hN h1 hr h41.1 (DR_ag hd hr g1) (by rw [g1.2.2 11 r (by simp; omega) (by decide), agA g1 32 0]; exact (h5 r hr).2)
    have h42 := RM_ag h41 b1
    obtain ⟨w3, e3, d1, d2, d3⟩ := e_year_L (N := N) hn (show oC o < 42 by omega) (oN o) 0 N w2 h42.1 h42.2.1 b2 (by omega) (by omega)
    have gx : ag [40, 39] w1 w3 := (b1.mono (by decide)).tr (d1.mono (by decide))
    have gy : ag [40, 39, 518] w1 (sI w3 518 0 (nI (oC o + 1))) := (gx.mono (by decide)).sI (by simp)
    have g : ag [19, 5, 411, 40, 39, 518] w (sI w3 518 0 (nI (oC o + 1))) := (g1.mono (by decide)).tr (gy.mono (by decide))
    obtain ⟨hwf, hc3⟩ := Wf_year h1 hc1 (show oC o < 42 by omega)
    have e5 : gI w1 5 0 = nI (oC o + 1) := by rw [hw1, gI_sI, if_neg (by decide), gI_sI, if_pos ⟨rfl, rfl⟩]
    have e19 : gA w1 19 0 = upd (gA w 19 0) (oC o) (nI (cd d)) := by rw [hw1, gA_sI, gA_sI, gA_sA, if_pos ⟨rfl, rfl⟩]
    have h5182 : gI w3 518 0 = nI (oC o) := by rw [agI d1 518 0]; exact h42.2.1
    refine ⟨nI (oC o), w1, sI w3 518 0 (nI (oC o + 1)), ?_, ?_, setY o (oY o ++ [d]), H, ⟨hwf, by rw [hc3]; omega, ?_, ?_, Iro_ag h5 g, Itx_ag h6 g, ?_, ?_, Or.inl ?_⟩, Itl_ag hT g⟩
    · unfold f_X4_year; rw [e_isRow_t hr]; simp only [bs, l0, l1, l2, l3, l4, l5, l6, l7, l8, l9, l10, l12, l15, l30, l31, l32, l40, l42, l48, l57, l60, l64, l98, l99, l100, l109, l110, l112, l115, l265, l1000, l518400, ngd, if_true, if_false, bn0, reduceCtorEq, n10, z1, z3, z0]; rw [h3.2.1, iT (nI_lt (by omega) (by omega)), h3.1, iF c2', e_drawingIn_t hN h1 hr h3.1 hd]; simp only [bs, l0, l1, l2, l3, l4, l5, l6, l7, l8, l9, l10, l12, l15, l30, l31, l32, l40, l42, l48, l57, l60, l64, l98, l99, l100, l109, l110, l112, l115, l265, l1000, l518400, ngd, if_true, if_false, bn0, reduceCtorEq, n10, z1, z3, z0]; rw [iT (nI_le (by omega) (by omega)), e_addYear (by omega) h3.2.1]; simp only [bs, l0, l1, l2, l3, l4, l5, l6, l7, l8, l9, l10, l12, l15, l30, l31, l32, l40, l42, l48, l57, l60, l64, l98, l99, l100, l109, l110, l112, l115, l265, l1000, l518400, ngd, if_true, if_false, bn0, reduceCtorEq, n10, z1, z3, z0]; rw [← hw1, e5, pk_sub (by omega)]; rfl
    · unfold f_X5_year; rw [e_misRow_t hr]; simp only [bs, l0, l1, l2, l3, l4, l5, l6, l7, l8, l9, l10, l12, l15, l30, l31, l32, l40, l42, l48, l57, l60, l64, l98, l99, l100, l109, l110, l112, l115, l265, l1000, l518400, ngd, if_true, if_false, bn0, reduceCtorEq, n10, z1, z3, z0]; rw [h41.2.1, iF c', h41.1, iF c2', e2]; simp only [bs, l0, l1, l2, l3, l4, l5, l6, l7, l8, l9, l10, l12, l15, l30, l31, l32, l40, l42, l48, l57, l60, l64, l98, l99, l100, l109, l110, l112, l115, l265, l1000, l518400, ngd, if_true, if_false, bn0, reduceCtorEq, n10, z1, z3, z0]; rw [e3]; simp only [bs, l0, l1, l2, l3, l4, l5, l6, l7, l8, l9, l10, l12, l15, l30, l31, l32, l40, l42, l48, l57, l60, l64, l98, l99, l100, l109, l110, l112, l115, l265, l1000, l518400, ngd, if_true, if_false, bn0, reduceCtorEq, n10, z1, z3, z0]; rw [h5182, nI_add, gI_sI, iT ⟨rfl, rfl⟩, pk_sub (by omega)]; rfl
    · refine RO_year h3 h1 hc1 (by omega) (by rw [agI g 4 0]) (by rw [agI g 6 0]) (by rw [gI_sI, if_neg (by decide), agI gx 5 0, e5]) (by rw [agA g 16 0]) (by rw [agA g 17 0]) (by rw [agA g 18 0]) (by rw [gA_sI, agA gx 19 0, e19])
    · refine RM_year h4 h1 hc1 (by omega) (by rw [agI g 510 0]) (by rw [agI g 511 0]) (by rw [gI_sI, if_pos ⟨rfl, rfl⟩]) (by rw [agA g 36 0]) (by rw [agA g 37 0]) (by rw [agA g 38 0]) (fun x hx => by rw [gA_sI]; exact d2 x (by omega) hx) (fun j hj => by rw [gA_sI, d3 j (by omega), agA b1 39 0, agA g1 39 0])
    · exact Iht_ag h7 g
    · exact Ikp_ag h8 g
    · rw [gI_sI, if_neg (by decide), agI gx 411 0, hw1]; rfl
  · obtain ⟨f1, f2⟩ := FR_in hf
    have h4c := RM_ag h4 (cref_ag f w)
    obtain ⟨w2, e2, b1⟩ := e_asked_f (N := N) hN h1 hr h4c.1 (FR_ag hf hr (cref_ag f w))
    refine ⟨ng 3, cref f w, mref f w2, ?_, ?_, Inv_ref hW hT b1⟩
    · unfold f_X4_year; rw [e_isRow_t hr]; simp only [bs, l0, l1, l2, l3, l4, l5, l6, l7, l8, l9, l10, l12, l15, l30, l31, l32, l40, l42, l48, l57, l60, l64, l98, l99, l100, l109, l110, l112, l115, l265, l1000, l518400, ngd, if_true, if_false, bn0, reduceCtorEq, n10, z1, z3, z0]; rw [h3.2.1, iT (nI_lt (by omega) (by omega)), h3.1, iF c2', e_drawingIn_f hN h1 hr h3.1 hf]; simp only [bs, l0, l1, l2, l3, l4, l5, l6, l7, l8, l9, l10, l12, l15, l30, l31, l32, l40, l42, l48, l57, l60, l64, l98, l99, l100, l109, l110, l112, l115, l265, l1000, l518400, ngd, if_true, if_false, bn0, reduceCtorEq, n10, z1, z3, z0]; rw [iF (by rw [ng_nn (by omega) (by omega) (by omega)]; simp), ng_neg, e_refuse f2]; simp only [bs, l0, l1, l2, l3, l4, l5, l6, l7, l8, l9, l10, l12, l15, l30, l31, l32, l40, l42, l48, l57, l60, l64, l98, l99, l100, l109, l110, l112, l115, l265, l1000, l518400, ngd, if_true, if_false, bn0, reduceCtorEq, n10, z1, z3, z0]
    · unfold f_X5_year; rw [e_misRow_t hr]; simp only [bs, l0, l1, l2, l3, l4, l5, l6, l7, l8, l9, l10, l12, l15, l30, l31, l32, l40, l42, l48, l57, l60, l64, l98, l99, l100, l109, l110, l112, l115, l265, l1000, l518400, ngd, if_true, if_false, bn0, reduceCtorEq, n10, z1, z3, z0]; rw [h4c.2.1, iF c', h4c.1, iF c2', e2]; simp only [bs, l0, l1, l2, l3, l4, l5, l6, l7, l8, l9, l10, l12, l15, l30, l31, l32, l40, l42, l48, l57, l60, l64, l98, l99, l100, l109, l110, l112, l115, l265, l1000, l518400, ngd, if_true, if_false, bn0, reduceCtorEq, n10, z1, z3, z0]
/-! the office for trials -/
abbrev ST : List Nat := [1016, 1017, 1018, 1019, 1004, 1005, 1006]
theorem e_become {N : Nat} {o : Of} {w : Wd} (h : RO 0 o w) (hf : Wf o) : ∃ w', f_X0_become N 1 0 w = some w' ∧ ag ST w w' ∧ RO 1 o w' := by
  have hn := hf.1
  have hc := hf.2.2.2.1
  unfold f_X0_become
  rw [gd_t (by decide), gd_t (by decide), gd_t (by decide), gd_t (by decide)]
  refine ⟨_, rfl, ?_, ?_⟩
  · refine ((((((((ag.rf ST w).sA ?_).sA ?_).sA ?_).sA ?_).sI ?_).sI ?_).sI ?_) <;> decide
  · simp only [sb_cl0, show (6 : Int32).toNatClampNeg = 6 from by decide, show (42 : Int32).toNatClampNeg = 42 from by decide]
    refine ⟨?_, ?_, ?_, fun x hx => ⟨?_, ?_, ?_⟩, fun k hk => ?_⟩
    · simp only [gI_sI, gI_sA]; exact h.1
    · simp only [gI_sI, gI_sA]; exact h.2.1
    · simp only [gI_sI, gI_sA]; exact h.2.2.1
    · simp only [gA_sI, gA_sA]
      simp
      rw [sb_cpy0 (by omega)]; exact (h.2.2.2.1 x hx).1
    · simp only [gA_sI, gA_sA]
      simp
      rw [sb_cpy0 (by omega)]; exact (h.2.2.2.1 x hx).2.1
    · simp only [gA_sI, gA_sA]
      simp
      rw [sb_cpy0 (by omega)]; exact (h.2.2.2.1 x hx).2.2
    · simp only [gA_sI, gA_sA]
      simp
      rw [sb_cpy0 (by omega)]; exact h.2.2.2.2 k hk
/-! drop -/
theorem Wf_R {o : Of} {q : Nat} (hf : Wf o) (hq : q ≤ 15) : Wf (setR o q) := ⟨hf.1, hq, hf.2.2⟩
theorem RO_R {i q q' : Nat} {o : Of} {w : Wd} (h : RO i (setR o q) w) : RO i (setR o q') (sI w 6 i (nI q')) := ⟨h.1, h.2.1, by rw [gI_sI, if_pos ⟨rfl, rfl⟩]; rfl, h.2.2.2⟩
theorem RM_R {q q' : Nat} {o : Of} {w : Wd} (h : RM (setR o q) w) : RM (setR o q') (sI w 511 0 (nI q')) := ⟨h.1, h.2.1, by rw [gI_sI, if_pos ⟨rfl, rfl⟩]; rfl, h.2.2.2⟩
/-- may the rules be cut to q -/
def dmb (R : Nat) (b : Option Nat) (q : Nat) : Bool := decide (q &&& (R ^^^ 4294967295) = 0) && (match b with | none => true | some z => decide (pc z < pc q))
def drf (o : Of) : Nat → Option Nat → Option Nat
  | 0, b => b
  | m + 1, b => drf o m (if dmb (oR o) b m = true ∧ 0 < (rights (setR o m)).length then some m else b)
theorem n1n (m : Nat) : nI (m + 1) + ng 1 = nI m := by
  rw [show ng 1 = (-1 : Int32) from by decide]; exact pk_m1 m
theorem taken {L : List (List Nat)} : (L.take 1).length ≤ 0 ↔ ¬ 0 < L.length := by rw [List.length_take]; omega
abbrev SQ : List Nat := [1006, 1020, 1201, 1204, 1205, 1021]
theorem e_drop_L {N : Nat} {o : Of} (hN : 1000 ≤ N) (hf : Wf o) : ∀ (m F : Nat) (b : Option Nat) (w : Wd), m ≤ 16 → m < F → gI w 6 0 = nI (oR o) → (∃ q, RO 1 (setR o q) w) → (∀ z, b = some z → z < 16) → ∃ w', X4_drop_L1 N F (oi b) (nI m + ng 1) w = some (oi (drf o m b), w') ∧ ag SQ w w' := by
  have hn := hf.1
  have hr := hf.2.1
  intro m
  induction m with
  | zero =>
    intro F b w hm hF h6 hR hb
    obtain ⟨F, rfl, _⟩ := fuel_s hF
    rw [X4_drop_L1]
    simp only [bs, l0, l1, l2, l3, l4, l5, l6, l7, l8, l9, l10, l12, l15, l30, l31, l32, l40, l42, l48, l57, l60, l64, l98, l99, l100, l109, l110, l112, l115, l265, l1000, l518400, ngd]
    rw [iT (by decide)]
    exact ⟨w, rfl, ag.rf _ _⟩
  | succ m ih =>
    intro F b w hm hF h6 hR hb
    obtain ⟨F, rfl, hF'⟩ := fuel_s hF
    obtain ⟨q, hq⟩ := hR
    have p1 := pc_le m (by omega)
    have hand : m &&& (oR o ^^^ 4294967295) ≤ m := Nat.and_le_left
    -- the step itself
    have step : ∀ b', dmb (oR o) b m = b' → ∃ w', (X4_drop_J63 N (X4_drop_L1 N F) (oi b) (nI m) (nI (bn (decide (m &&& (oR o ^^^ 4294967295) = 0)))) (nI (bn (match b with | none => true | some z => decide (pc z < pc m)))) w = some (oi (drf o (m + 1) b), w')) ∧ ag SQ w w' := by
      intro b' hb'
      unfold X4_drop_J63
      rw [drf]
      simp only [bs, l0, l1, l2, l3, l4, l5, l6, l7, l8, l9, l10, l12, l15, l30, l31, l32, l40, l42, l48, l57, l60, l64, l98, l99, l100, l109, l110, l112, l115, l265, l1000, l518400, ngd]
      by_cases d1 : m &&& (oR o ^^^ 4294967295) = 0
      · rw [iF (by simp only [d1, decide_true]; exact bnTc)]
        cases d2 : (match b with | none => true | some z => decide (pc z < pc m)) with
        | false =>
          have e0 : dmb (oR o) b m = false := by unfold dmb; rw [d2, Bool.and_false]
          obtain ⟨w', e, a1⟩ := ih F b w (by omega) (by omega) h6 ⟨q, hq⟩ hb
          rw [iT bnFc, e0, if_neg (by simp)]
          exact ⟨w', e, a1⟩
        | true =>
          have e0 : dmb (oR o) b m = true := by unfold dmb; rw [d2]; simp [d1]
          have g1 : ag SQ w (sI w 6 1 (nI m)) := (ag.rf _ w).sI (by decide)
          have hR1 := RO_R (q' := m) hq
          obtain ⟨w2, e2, b1, b2⟩ := e_list (N := N) (i := 1) (a := 1) (nw := false) (w := sI w 6 1 (nI m)) hN (Wf_R hf (show m ≤ 15 by omega)) (by omega) hR1
          have e2' : f_X2_list N 1 (nI 1) (nI 0) (sI w 6 1 (nI m)) = _ := e2
          rw [qf_false] at e2' b2
          have b1' : ag SQ (sI w 6 1 (nI m)) w2 := b1.mono (by decide)
          rw [iF bnTc, e2', e0]
          simp only [bs, l0, l1, l2, l3, l4, l5, l6, l7, l8, l9, l10, l12, l15, l30, l31, l32, l40, l42, l48, l57, l60, l64, l98, l99, l100, l109, l110, l112, l115, l265, l1000, l518400, ngd]
          have hR2 : RO 1 (setR o m) w2 := RO_ag hR1 b1 (by decide)
          have h62 : gI w2 6 0 = nI (oR o) := by rw [agI b1 6 0, gI_sI, if_neg (by decide)]; exact h6
          by_cases d3 : 0 < (rights (setR o m)).length
          · obtain ⟨w', e, a1⟩ := ih F (some m) w2 (by omega) (by omega) h62 ⟨m, hR2⟩ (fun z e => by obtain rfl := Option.some.inj e; omega)
            rw [iF (nI_ge (by rw [List.length_take]; omega) (by rw [List.length_take]; omega)), if_pos ⟨trivial, d3⟩]
            exact ⟨w', e, (g1.tr b1').tr a1⟩
          · obtain ⟨w', e, a1⟩ := ih F b w2 (by omega) (by omega) h62 ⟨m, hR2⟩ hb
            rw [iT (nI_le (taken.mpr d3) (by omega)), if_neg (fun z => d3 z.2)]
            exact ⟨w', e, (g1.tr b1').tr a1⟩
      · have e0 : dmb (oR o) b m = false := by unfold dmb; simp [d1]
        obtain ⟨w', e, a1⟩ := ih F b w (by omega) (by omega) h6 ⟨q, hq⟩ hb
        rw [iT (by simp only [d1, decide_false]; exact bnFc), e0, if_neg (by simp)]
        exact ⟨w', e, a1⟩
    obtain ⟨w', e, a1⟩ := step _ rfl
    refine ⟨w', ?_, a1⟩
    have j40 : ∀ t, t = nI (bn (decide (m &&& (oR o ^^^ 4294967295) = 0))) → X4_drop_J40 N (X4_drop_L1 N F) (oi b) (nI m) t w = some (oi (drf o (m + 1) b), w') := by
      intro t ht
      rw [← e, ht]
      unfold X4_drop_J40 X4_drop_J58
      simp only [bsn, l0, l1, l2, l3, l4, l5, l6, l7, l8, l9, l10, l12, l15, l30, l31, l32, l40, l42, l48, l57, l60, l64, l98, l99, l100, l109, l110, l112, l115, l265, l1000, l518400, ngd]
      cases b with
      | none => rw [iT (show oi none = ng 9 from rfl)]; rfl
      | some z =>
        have hz := hb z rfl
        have p2 := pc_le z (by omega)
        rw [iF (show ¬ oi (some z) = ng 9 from by show ¬ nI z = ng 9; rw [nI_ng (by omega) (by omega) (by omega)]; simp), e_bitCount (by omega)]
        simp only [bsn, l0, l1, l2, l3, l4, l5, l6, l7, l8, l9, l10, l12, l15, l30, l31, l32, l40, l42, l48, l57, l60, l64, l98, l99, l100, l109, l110, l112, l115, l265, l1000, l518400, ngd]
        rw [show oi (some z) = nI z from rfl, e_bitCount (by omega)]
        simp only [bsn, l0, l1, l2, l3, l4, l5, l6, l7, l8, l9, l10, l12, l15, l30, l31, l32, l40, l42, l48, l57, l60, l64, l98, l99, l100, l109, l110, l112, l115, l265, l1000, l518400, ngd]
        by_cases c : pc m ≤ pc z
        · have c' : ¬ pc z < pc m := by omega
          rw [iT (nI_le c (by omega))]
          simp [c', bn]
        · have c' : pc z < pc m := by omega
          rw [iF (nI_ge (by omega) (by omega))]
          simp [c', bn]
    rw [X4_drop_L1]
    simp only [bsn, l0, l1, l2, l3, l4, l5, l6, l7, l8, l9, l10, l12, l15, l30, l31, l32, l40, l42, l48, l57, l60, l64, l98, l99, l100, l109, l110, l112, l115, l265, l1000, l518400, ngd]
    rw [n1n, iF (nI_nlt (by omega) (by omega)), h6, notc, nx_and]
    by_cases d1 : m &&& (oR o ^^^ 4294967295) = 0
    · rw [iT (by rw [d1])]; exact j40 _ (by simp [d1, bn])
    · rw [iF (fun z => d1 ((nI_eq (by omega) (by omega)).mp z))]; exact j40 _ (by simp [d1, bn])
theorem e_mdrop_L {N : Nat} {o : Of} (hN : 1000 ≤ N) (hf : Wf o) : ∀ (m F : Nat) (b : Option Nat) (w : Wd), m ≤ 16 → m < F → (∃ q, RM (setR o q) w) → (∀ z, b = some z → z < 16) → ∃ w', X5_drop_L1 N (nI (oR o)) F (oi b) (nI m + ng 1) w = some (oi (drf o m b), w') ∧ ag [40, 41, 520, 522, 523, 511] w w' := by
  have hn := hf.1
  have hr := hf.2.1
  intro m
  induction m with
  | zero =>
    intro F b w hm hF hR hb
    obtain ⟨F, rfl, _⟩ := fuel_s hF
    rw [X5_drop_L1]
    simp only [bs, l0, l1, l2, l3, l4, l5, l6, l7, l8, l9, l10, l12, l15, l30, l31, l32, l40, l42, l48, l57, l60, l64, l98, l99, l100, l109, l110, l112, l115, l265, l1000, l518400, ngd]
    rw [iT (by decide)]
    exact ⟨w, rfl, ag.rf _ _⟩
  | succ m ih =>
    intro F b w hm hF hR hb
    obtain ⟨F, rfl, hF'⟩ := fuel_s hF
    obtain ⟨q, hq⟩ := hR
    have p1 := pc_le m (by omega)
    have hand : m &&& (oR o ^^^ 4294967295) ≤ m := Nat.and_le_left
    have skip : dmb (oR o) b m = false → ∃ w', X5_drop_L1 N (nI (oR o)) F (oi b) (nI m + ng 1) w = some (oi (drf o (m + 1) b), w') ∧ ag [40, 41, 520, 522, 523, 511] w w' := fun e0 => by
      obtain ⟨w', e, a1⟩ := ih F b w (by omega) (by omega) ⟨q, hq⟩ hb
      rw [drf, e0, if_neg (by simp)]
      exact ⟨w', e, a1⟩
    have j40 : dmb (oR o) b m = true → ∃ w', X5_drop_J40 N (X5_drop_L1 N (nI (oR o)) F) (nI (oR o)) (oi b) (nI m) w = some (oi (drf o (m + 1) b), w') ∧ ag [40, 41, 520, 522, 523, 511] w w' := fun e0 => by
      have g1 : ag [40, 41, 520, 522, 523, 511] w (sI w 511 0 (nI m)) := (ag.rf _ w).sI (by decide)
      have hR1 := RM_R (q' := m) hq
      have hwf := Wf_R hf (show m ≤ 15 by omega)
      have hlen := rights_len hwf
      obtain ⟨w2, e2, b1, b2⟩ := e_setRights (N := N) hN hwf hR1
      have b1' : ag [40, 41, 520, 522, 523, 511] (sI w 511 0 (nI m)) w2 := b1.mono (by decide)
      have hR2 := RM_ag hR1 b1
      unfold X5_drop_J40
      rw [e2, drf, e0]
      simp only [bs, l0, l1, l2, l3, l4, l5, l6, l7, l8, l9, l10, l12, l15, l30, l31, l32, l40, l42, l48, l57, l60, l64, l98, l99, l100, l109, l110, l112, l115, l265, l1000, l518400, ngd]
      rw [b2.1]
      by_cases d3 : 0 < (rights (setR o m)).length
      · obtain ⟨w', e, a1⟩ := ih F (some m) w2 (by omega) (by omega) ⟨m, hR2⟩ (fun z e => by obtain rfl := Option.some.inj e; omega)
        rw [iF (nI_ge d3 (by omega)), if_pos ⟨trivial, d3⟩]
        exact ⟨w', e, (g1.tr b1').tr a1⟩
      · obtain ⟨w', e, a1⟩ := ih F b w2 (by omega) (by omega) ⟨m, hR2⟩ hb
        rw [iT (nI_le (by omega) (by omega)), if_neg (fun z => d3 z.2)]
        exact ⟨w', e, (g1.tr b1').tr a1⟩
    rw [X5_drop_L1]
    simp only [bs, l0, l1, l2, l3, l4, l5, l6, l7, l8, l9, l10, l12, l15, l30, l31, l32, l40, l42, l48, l57, l60, l64, l98, l99, l100, l109, l110, l112, l115, l265, l1000, l518400, ngd]
    rw [n1n, iF (nI_nlt (by omega) (by omega)), notc, nx_and]
    by_cases d1 : m &&& (oR o ^^^ 4294967295) = 0
    · rw [iT (by rw [d1])]
      cases b with
      | none => rw [iT (show oi none = ng 9 from rfl)]; exact j40 (by unfold dmb; simp [d1])
      | some z =>
        have hz := hb z rfl
        have p2 := pc_le z (by omega)
        rw [iF (show ¬ oi (some z) = ng 9 from by show ¬ nI z = ng 9; rw [nI_ng (by omega) (by omega) (by omega)]; simp), e_sizeOf hN (by omega)]
        simp only [bs, l0, l1, l2, l3, l4, l5, l6, l7, l8, l9, l10, l12, l15, l30, l31, l32, l40, l42, l48, l57, l60, l64, l98, l99, l100, l109, l110, l112, l115, l265, l1000, l518400, ngd]
        have es : f_X5_sizeOf N (oi (some z)) w = some (nI (pc z), w) := e_sizeOf hN (by omega)
        rw [es]
        simp only [bs, l0, l1, l2, l3, l4, l5, l6, l7, l8, l9, l10, l12, l15, l30, l31, l32, l40, l42, l48, l57, l60, l64, l98, l99, l100, l109, l110, l112, l115, l265, l1000, l518400, ngd]
        by_cases c : pc m ≤ pc z
        · rw [iT (nI_le c (by omega))]
          exact skip (by unfold dmb; simp [d1]; omega)
        · rw [iF (nI_ge (by omega) (by omega))]
          exact j40 (by unfold dmb; simp [d1]; omega)
    · rw [iF (fun z => d1 ((nI_eq (by omega) (by omega)).mp z))]
      exact skip (by unfold dmb; simp [d1])
theorem drf_lt {o : Of} : ∀ (m : Nat) (b : Option Nat), m ≤ 16 → (∀ z, b = some z → z < 16) → ∀ z, drf o m b = some z → z < 16 := by
  intro m
  induction m with
  | zero => intro b _ h z e; exact h z e
  | succ m ih =>
    intro b hm h z e
    rw [drf] at e
    refine ih _ (by omega) (fun y hy => ?_) z e
    split at hy
    · obtain rfl := Option.some.inj hy; omega
    · exact h y hy
theorem setR_self (o : Of) : setR o (oR o) = o := rfl
theorem ok_drop {N : Nat} (hN : 1000 ≤ N) : Ok_drop N Inv := fun w hI => by
  obtain ⟨o, H, hW, hT⟩ := hI
  obtain ⟨h1, h2, h3, h4, h5, h6, h7, h8, h9⟩ := id hW
  have hn := h1.1
  have hr := h1.2.1
  obtain ⟨wa, ea, u1, u2⟩ := e_become (N := N) h3 h1
  have h6a : gI wa 6 0 = nI (oR o) := by rw [agI u1 6 0]; exact h3.2.2.1
  obtain ⟨wb, eb, v1⟩ := e_drop_L (N := N) hN h1 16 N none wa (by omega) (by omega) h6a ⟨oR o, u2⟩ (fun z e => by cases e)
  have eb' : X4_drop_L1 N N (ng 9) (nI 15) wa = _ := eb
  have gab : ag [1016, 1017, 1018, 1019, 1004, 1005, 1006, 1020, 1201, 1204, 1205, 1021] w wb := (u1.mono (by decide)).tr (v1.mono (by decide))
  have hWb : IW o H wb := IW_ag hW gab
  have hTb := Itl_ag hT gab
  have hz := drf_lt (o := o) 16 none (by omega) (fun z e => by cases e)
  -- the model's end restores the rules
  have fin : ∀ (w0 w2 : Wd) (S : List Nat), IW o H w0 → ag [40, 41, 520, 522, 523, 511] w0 w2 → IW o H (sI w2 511 0 (nI (oR o))) := fun w0 w2 S hW0 g => by
    obtain ⟨k1, k2, k3, k4, k5, k6, k7, k8, k9⟩ := hW0
    have g2 : ag [40, 41, 520, 522, 523, 511] w0 (sI w2 511 0 (nI (oR o))) := g.sI (by simp)
    refine ⟨k1, k2, RO_ag k3 g2, ⟨?_, ?_, rfl, fun x hx => ?_, fun k hk x hx => ?_⟩, Iro_ag k5 g2, Itx_ag k6 g2, Iht_ag k7 g2, Ikp_ag k8 g2, Ist_ag k9 g2⟩
    · rw [agI g2 510 0]; exact k4.1
    · rw [agI g2 518 0]; exact k4.2.1
    · rw [agA g2 36 0, agA g2 37 0, agA g2 38 0]; exact k4.2.2.2.1 x hx
    · rw [agA g2 39 0]; exact k4.2.2.2.2 k hk x hx
  cases hb : drf o 16 none with
  | none =>
    obtain ⟨wc, ec, x1⟩ := e_mdrop_L (N := N) hN h1 16 N none wb (by omega) (by omega) ⟨oR o, hWb.2.2.2.1⟩ (fun z e => by cases e)
    have ec' : X5_drop_L1 N (nI (oR o)) N (ng 9) (nI 15) wb = _ := ec
    rw [hb] at eb' ec'
    refine ⟨ng 9, wb, sI wc 511 0 (nI (oR o)), ?_, ?_, o, H, fin wb wc [] hWb x1, Itl_ag hTb (x1.sI (by simp))⟩
    · unfold f_X4_drop; rw [ea]; simp only [bsn, l0, l1, l2, l3, l4, l5, l6, l7, l8, l9, l10, l12, l15, l30, l31, l32, l40, l42, l48, l57, l60, l64, l98, l99, l100, l109, l110, l112, l115, l265, l1000, l518400, ngd, if_true, if_false, bn0, reduceCtorEq, n10, z1, z3, z0]; rw [eb']; simp only [bsn, l0, l1, l2, l3, l4, l5, l6, l7, l8, l9, l10, l12, l15, l30, l31, l32, l40, l42, l48, l57, l60, l64, l98, l99, l100, l109, l110, l112, l115, l265, l1000, l518400, ngd, if_true, if_false, bn0, reduceCtorEq, n10, z1, z3, z0]; rw [iT (show oi none = ng 9 from rfl)]
    · unfold f_X5_drop; simp only [bs, l0, l1, l2, l3, l4, l5, l6, l7, l8, l9, l10, l12, l15, l30, l31, l32, l40, l42, l48, l57, l60, l64, l98, l99, l100, l109, l110, l112, l115, l265, l1000, l518400, ngd, if_true, if_false, bn0, reduceCtorEq, n10, z1, z3, z0]; rw [hWb.2.2.2.1.2.2.1, ec']; simp only [bs, l0, l1, l2, l3, l4, l5, l6, l7, l8, l9, l10, l12, l15, l30, l31, l32, l40, l42, l48, l57, l60, l64, l98, l99, l100, l109, l110, l112, l115, l265, l1000, l518400, ngd, if_true, if_false, bn0, reduceCtorEq, n10, z1, z3, z0]; rw [iT (show oi none = ng 9 from rfl)]
  | some z =>
    have hz' := hz z hb
    have p1 := pc_le z (by omega)
    have p2 := pc_le (oR o) (by omega)
    have k9 : ¬ oi (some z) = ng 9 := by show ¬ nI z = ng 9; rw [nI_ng (by omega) (by omega) (by omega)]; simp
    obtain ⟨v, hv⟩ : ∃ v, v = nI z := ⟨_, rfl⟩
    have g1 : ag [412] wb (sI wb 412 0 v) := (ag.rf _ wb).sI (by simp)
    have h4c := RM_ag hWb.2.2.2.1 g1
    obtain ⟨wc, ec, x1⟩ := e_mdrop_L (N := N) hN h1 16 N none (sI wb 412 0 v) (by omega) (by omega) ⟨oR o, h4c⟩ (fun z e => by cases e)
    have ec' : X5_drop_L1 N (nI (oR o)) N (ng 9) (nI 15) (sI wb 412 0 v) = _ := ec
    rw [hb] at eb' ec'
    obtain ⟨a, ha⟩ : ∃ a, a = nI (pc (oR o)) - nI (pc z) := ⟨_, rfl⟩
    have gx : ag [40, 41, 520, 522, 523, 511] (sI wb 412 0 v) (sI wc 511 0 (nI (oR o))) := x1.sI (by simp)
    refine ⟨a, sI wb 412 0 v, sI (sI wc 511 0 (nI (oR o))) 502 0 v, ?_, ?_, o, H, ?_, Itl_ask hTb gx⟩
    · unfold f_X4_drop; rw [ea]; simp only [bsn, l0, l1, l2, l3, l4, l5, l6, l7, l8, l9, l10, l12, l15, l30, l31, l32, l40, l42, l48, l57, l60, l64, l98, l99, l100, l109, l110, l112, l115, l265, l1000, l518400, ngd, if_true, if_false, bn0, reduceCtorEq, n10, z1, z3, z0]; rw [eb']; simp only [bsn, l0, l1, l2, l3, l4, l5, l6, l7, l8, l9, l10, l12, l15, l30, l31, l32, l40, l42, l48, l57, l60, l64, l98, l99, l100, l109, l110, l112, l115, l265, l1000, l518400, ngd, if_true, if_false, bn0, reduceCtorEq, n10, z1, z3, z0]; rw [iF k9, show oi (some z) = nI z from rfl, ← hv, show gI (sI wb 412 0 v) 6 0 = nI (oR o) from hWb.2.2.1.2.2.1, e_bitCount (by omega)]; simp only [bsn, l0, l1, l2, l3, l4, l5, l6, l7, l8, l9, l10, l12, l15, l30, l31, l32, l40, l42, l48, l57, l60, l64, l98, l99, l100, l109, l110, l112, l115, l265, l1000, l518400, ngd, if_true, if_false, bn0, reduceCtorEq, n10, z1, z3, z0]; rw [hv, e_bitCount (by omega)]; simp only [bsn, l0, l1, l2, l3, l4, l5, l6, l7, l8, l9, l10, l12, l15, l30, l31, l32, l40, l42, l48, l57, l60, l64, l98, l99, l100, l109, l110, l112, l115, l265, l1000, l518400, ngd, if_true, if_false, bn0, reduceCtorEq, n10, z1, z3, z0]; rw [ha]
    · unfold f_X5_drop; simp only [bs, l0, l1, l2, l3, l4, l5, l6, l7, l8, l9, l10, l12, l15, l30, l31, l32, l40, l42, l48, l57, l60, l64, l98, l99, l100, l109, l110, l112, l115, l265, l1000, l518400, ngd, if_true, if_false, bn0, reduceCtorEq, n10, z1, z3, z0]; rw [h4c.2.2.1, ec']; simp only [bs, l0, l1, l2, l3, l4, l5, l6, l7, l8, l9, l10, l12, l15, l30, l31, l32, l40, l42, l48, l57, l60, l64, l98, l99, l100, l109, l110, l112, l115, l265, l1000, l518400, ngd, if_true, if_false, bn0, reduceCtorEq, n10, z1, z3, z0]; rw [iF k9, show oi (some z) = nI z from rfl, e_sizeOf hN (by omega)]; simp only [bs, l0, l1, l2, l3, l4, l5, l6, l7, l8, l9, l10, l12, l15, l30, l31, l32, l40, l42, l48, l57, l60, l64, l98, l99, l100, l109, l110, l112, l115, l265, l1000, l518400, ngd, if_true, if_false, bn0, reduceCtorEq, n10, z1, z3, z0]; rw [e_sizeOf hN (by omega)]; simp only [bs, l0, l1, l2, l3, l4, l5, l6, l7, l8, l9, l10, l12, l15, l30, l31, l32, l40, l42, l48, l57, l60, l64, l98, l99, l100, l109, l110, l112, l115, l265, l1000, l518400, ngd, if_true, if_false, bn0, reduceCtorEq, n10, z1, z3, z0]; rw [e_ask, ha, hv]; simp only [bs, l0, l1, l2, l3, l4, l5, l6, l7, l8, l9, l10, l12, l15, l30, l31, l32, l40, l42, l48, l57, l60, l64, l98, l99, l100, l109, l110, l112, l115, l265, l1000, l518400, ngd, if_true, if_false, bn0, reduceCtorEq, n10, z1, z3, z0]
    · exact IW_ag (fin _ wc [] (IW_ag hWb g1) x1) ((ag.rf [502] _).sI (by simp))
