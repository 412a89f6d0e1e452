/-! rings, gain -/
theorem ok_rings {N : Nat} (hN : 1000 ≤ N) : Ok_rings N Inv := fun a1 w hI => by
  obtain ⟨o, H, hW, hT⟩ := hI
  obtain ⟨h1, h2, h3, h4, h5, h6, h7, h8, h9⟩ := id hW
  have hn := h1.1
  rcases cix a1 (n := 6) (by omega) with h | ⟨r, hr, rfl⟩
  · refine ⟨ng 1, w, w, ?_, ?_, o, H, hW, hT⟩
    · unfold f_X4_rings; rw [e_isRow_f h]; simp only [bs, l0, l1, l2, l3, l4, l5, l6, l7, l8, l9, l10, l12, l15, l30, l31, l32, l40, l42, l48, l57, l60, l64, l98, l99, l100, l109, l110, l112, l115, l265, l1000, l518400, ngd, if_true, if_false, bn0, reduceCtorEq, n10, z1, z3, z0]
    · unfold f_X5_rings f_X5_askedDrawing; rw [e_askedRow_f h]; simp only [bs, l0, l1, l2, l3, l4, l5, l6, l7, l8, l9, l10, l12, l15, l30, l31, l32, l40, l42, l48, l57, l60, l64, l98, l99, l100, l109, l110, l112, l115, l265, l1000, l518400, ngd, if_true, if_false, bn0, reduceCtorEq, n10, z1, z3, z0]
  rcases draw_cases hW hr with ⟨d, hd⟩ | ⟨f, hf⟩
  · obtain ⟨v, hv⟩ : ∃ v, v = (if oN o = 0 then nI 0 else nI (rl d)) := ⟨_, rfl⟩
    have g1 : ag [412] w (sI w 412 0 v) := (ag.rf _ w).sI (by simp)
    have hc1 := hd.1
    have hcd := Pm_cd hc1 hn
    obtain ⟨w2, e2, b1, b2⟩ := e_asked_t (N := N) hN h1 hr (RM_ag h4 g1).1 (DR_ag hd hr g1) (h5 r hr).2
    have hm2 : gI w2 510 0 = nI (oN o) := by rw [agI b1 510 0]; exact h4.1
    refine ⟨nI (rc d), sI w 412 0 v, sI w2 502 0 v, ?_, ?_, Inv_ask hW hT b1⟩
    · unfold f_X4_rings; rw [e_isRow_t hr]; simp only [bs, l0, l1, l2, l3, l4, l5, l6, l7, l8, l9, l10, l12, l15, l30, l31, l32, l40, l42, l48, l57, l60, l64, l98, l99, l100, l109, l110, l112, l115, l265, l1000, l518400, ngd, if_true, if_false, bn0, reduceCtorEq, n10, z1, z3, z0]; rw [e_drawingIn_t hN h1 hr h3.1 hd]; simp only [bs, l0, l1, l2, l3, l4, l5, l6, l7, l8, l9, l10, l12, l15, l30, l31, l32, l40, l42, l48, l57, l60, l64, l98, l99, l100, l109, l110, l112, l115, l265, l1000, l518400, ngd, if_true, if_false, bn0, reduceCtorEq, n10, z1, z3, z0]; rw [iT (nI_le (by omega) (by omega)), h3.1]
      by_cases c : oN o = 0
      · rw [iT (by rw [c]), show gI (sI w 412 0 (nI 0)) 4 0 = nI (oN o) from h3.1, e_ringCount hN hn hc1, hv, if_pos c]
        simp only [bs, l0, l1, l2, l3, l4, l5, l6, l7, l8, l9, l10, l12, l15, l30, l31, l32, l40, l42, l48, l57, l60, l64, l98, l99, l100, l109, l110, l112, l115, l265, l1000, l518400, ngd]
      · rw [iF (fun q => c ((nI_eq (by omega) (by omega)).mp q)), e_ringOf hN hn hc1 (by omega)]
        simp only [bs, l0, l1, l2, l3, l4, l5, l6, l7, l8, l9, l10, l12, l15, l30, l31, l32, l40, l42, l48, l57, l60, l64, l98, l99, l100, l109, l110, l112, l115, l265, l1000, l518400, ngd]
        rw [e_bitCount (rgO_lt hn hc1 6 0 0 (by omega) (by omega))]
        simp only [bs, l0, l1, l2, l3, l4, l5, l6, l7, l8, l9, l10, l12, l15, l30, l31, l32, l40, l42, l48, l57, l60, l64, l98, l99, l100, l109, l110, l112, l115, l265, l1000, l518400, ngd]
        rw [show gI (sI w 412 0 (nI (pc (rgO d 6 0 0)))) 4 0 = nI (oN o) from h3.1, e_ringCount hN hn hc1, hv, if_neg c]
        simp only [bs, l0, l1, l2, l3, l4, l5, l6, l7, l8, l9, l10, l12, l15, l30, l31, l32, l40, l42, l48, l57, l60, l64, l98, l99, l100, l109, l110, l112, l115, l265, l1000, l518400, ngd]
        rfl
    · unfold f_X5_rings; rw [e2]; simp only [bs, l0, l1, l2, l3, l4, l5, l6, l7, l8, l9, l10, l12, l15, l30, l31, l32, l40, l42, l48, l57, l60, l64, l98, l99, l100, l109, l110, l112, l115, l265, l1000, l518400, ngd, if_true, if_false, bn0, reduceCtorEq, n10, z1, z3, z0]; rw [hm2]
      by_cases c : oN o = 0
      · rw [iT (by rw [c]), e_ringsOf hN hn hc1 b2 hm2, hv, if_pos c]
        simp only [bs, l0, l1, l2, l3, l4, l5, l6, l7, l8, l9, l10, l12, l15, l30, l31, l32, l40, l42, l48, l57, l60, l64, l98, l99, l100, l109, l110, l112, l115, l265, l1000, l518400, ngd]
        rw [e_ask]; simp only [bs, l0, l1, l2, l3, l4, l5, l6, l7, l8, l9, l10, l12, l15, l30, l31, l32, l40, l42, l48, l57, l60, l64, l98, l99, l100, l109, l110, l112, l115, l265, l1000, l518400, ngd]
      · rw [iF (fun q => c ((nI_eq (by omega) (by omega)).mp q)), e_mringOf hN hn hc1 c b2]
        simp only [bs, l0, l1, l2, l3, l4, l5, l6, l7, l8, l9, l10, l12, l15, l30, l31, l32, l40, l42, l48, l57, l60, l64, l98, l99, l100, l109, l110, l112, l115, l265, l1000, l518400, ngd]
        rw [e_ringsOf hN hn hc1 b2 hm2, hv, if_neg c]
        simp only [bs, l0, l1, l2, l3, l4, l5, l6, l7, l8, l9, l10, l12, l15, l30, l31, l32, l40, l42, l48, l57, l60, l64, l98, l99, l100, l109, l110, l112, l115, l265, l1000, l518400, ngd]
        rw [e_ask]; simp only [bs, l0, l1, l2, l3, l4, l5, l6, l7, l8, l9, l10, l12, l15, l30, l31, l32, l40, l42, l48, l57, l60, l64, l98, l99, l100, l109, l110, l112, l115, l265, l1000, l518400, ngd]
  · obtain ⟨f1, f2⟩ := FR_in hf
    obtain ⟨w2, e2, b1⟩ := e_asked_f (N := N) hN h1 hr (RM_ag h4 (cref_ag f w)).1 (FR_ag hf hr (cref_ag f w))
    refine ⟨ng 3, cref f w, mref f w2, ?_, ?_, Inv_ref hW hT b1⟩
    · unfold f_X4_rings; rw [e_isRow_t hr]; simp only [bs, l0, l1, l2, l3, l4, l5, l6, l7, l8, l9, l10, l12, l15, l30, l31, l32, l40, l42, l48, l57, l60, l64, l98, l99, l100, l109, l110, l112, l115, l265, l1000, l518400, ngd, if_true, if_false, bn0, reduceCtorEq, n10, z1, z3, z0]; rw [e_drawingIn_f hN h1 hr h3.1 hf]; simp only [bs, l0, l1, l2, l3, l4, l5, l6, l7, l8, l9, l10, l12, l15, l30, l31, l32, l40, l42, l48, l57, l60, l64, l98, l99, l100, l109, l110, l112, l115, l265, l1000, l518400, ngd, if_true, if_false, bn0, reduceCtorEq, n10, z1, z3, z0]; rw [iF (by rw [ng_nn (by omega) (by omega) (by omega)]; simp), ng_neg, e_refuse f2]; simp only [bs, l0, l1, l2, l3, l4, l5, l6, l7, l8, l9, l10, l12, l15, l30, l31, l32, l40, l42, l48, l57, l60, l64, l98, l99, l100, l109, l110, l112, l115, l265, l1000, l518400, ngd, if_true, if_false, bn0, reduceCtorEq, n10, z1, z3, z0]
    · unfold f_X5_rings; rw [e2]; simp only [bs, l0, l1, l2, l3, l4, l5, l6, l7, l8, l9, l10, l12, l15, l30, l31, l32, l40, l42, l48, l57, l60, l64, l98, l99, l100, l109, l110, l112, l115, l265, l1000, l518400, ngd, if_true, if_false, bn0, reduceCtorEq, n10, z1, z3, z0]
set_option maxRecDepth 100000 in
theorem sur_all : ∀ n, n < 7 → ∀ d ∈ exl n n [], ∀ x, x < n → x ∈ d := by decide +kernel
theorem Pm_sur {n x : Nat} {d : List Nat} (hn : n ≤ 6) (h : Pm n d) (hx : x < n) : ∃ g, g < n ∧ dg d g = x := by
  obtain ⟨i, hi, e⟩ := List.getElem_of_mem (sur_all n (by omega) d (Pm_exl h) x hx)
  refine ⟨i, by rw [← h.1]; exact hi, ?_⟩
  unfold dg; rw [List.getD_eq_getElem?_getD, List.getElem?_eq_getElem hi]; exact e
theorem Pm_inj {n a b : Nat} {d : List Nat} (h : Pm n d) (ha : a < n) (hb : b < n) (e : dg d a = dg d b) : a = b := by
  have ha' : a < d.length := by rw [h.1]; exact ha
  have hb' : b < d.length := by rw [h.1]; exact hb
  unfold dg at e
  rw [List.getD_eq_getElem?_getD, List.getElem?_eq_getElem ha', List.getD_eq_getElem?_getD, List.getElem?_eq_getElem hb'] at e
  exact (List.getElem_inj (h₀ := ha') (h₁ := hb') h.2.2).mp e
theorem e_gain_L {N g x : Nat} {o : Of} {d : List Nat} (hf : Wf o) (hd : Pm (oN o) d) (hg : g < oN o) (hx : x < oN o) (e : dg d g = x) : ∀ (m k F : Nat) (w : Wd), RO 0 o w → k + m = oN o → m < F → X4_gain_L1 N (nI x) (nI (cd d)) F (nI k) w = some (if k ≤ g then sI w 412 0 (nI (oW o g) - nI (oW o x)) else w) := by
  have hn := hf.1
  have hcd := Pm_cd hd hn
  intro m
  induction m with
  | zero =>
    intro k F w h hk hF
    obtain ⟨F, rfl, _⟩ := fuel_s hF
    rw [X4_gain_L1, h.1, iT (nI_le (by omega) (by omega)), if_neg (by omega)]
  | succ m ih =>
    intro k F w h hk hF
    obtain ⟨F, rfl, hF'⟩ := fuel_s hF
    have hlt := Pm_dg hd (x := k) (by omega)
    rw [X4_gain_L1, h.1, iF (nI_ge (by omega) (by omega)), e_paper (by omega) (by omega), Pm_pp hd hn]
    simp only [bs, l0, l1, l2, l3, l4, l5, l6, l7, l8, l9, l10, l12, l15, l30, l31, l32, l40, l42, l48, l57, l60, l64, l98, l99, l100, l109, l110, l112, l115, l265, l1000, l518400, ngd]
    by_cases c : k = g
    · subst c
      rw [iT (by rw [e]), gd_in (by omega) (by omega), gd_in (by omega) (by omega), nI_clamp (by omega), nI_clamp (by omega), (h.2.2.2.1 k hg).2.2, (h.2.2.2.1 x hx).2.2, nI_add, ih (k + 1) F _ (RO_ag h ((ag.rf [412] w).sI (by simp))) (by omega) (by omega), if_neg (by omega), if_pos (by omega)]
    · have hne : ¬ dg d k = x := fun q => c (Pm_inj hd (by omega) hg (q.trans e.symm))
      rw [iF (fun q => hne ((nI_eq (by omega) (by omega)).mp q)), nI_add, ih (k + 1) F w h (by omega) (by omega)]
      by_cases q : k + 1 ≤ g
      · rw [if_pos q, if_pos (by omega)]
      · rw [if_neg q, if_neg (by omega)]
theorem e_mgain_L {N g x n : Nat} {d : List Nat} {w : Wd} (hn : n ≤ 6) (hd : Pm n d) (hg : g < n) (hx : x < n) (e : dg d g = x) (hO : One n d w) : ∀ (m k F : Nat), k + m = g → m < F → X5_gain_L1 N (nI x) F (nI k) w = some (nI g, w) := by
  intro m
  induction m with
  | zero =>
    intro k F hk hF
    obtain ⟨F, rfl, _⟩ := fuel_s hF
    obtain rfl : k = g := by omega
    rw [X5_gain_L1, gd_in (by omega) (by omega), nI_clamp (by omega), hO k hg, iT (by rw [e])]
  | succ m ih =>
    intro k F hk hF
    obtain ⟨F, rfl, hF'⟩ := fuel_s hF
    have hlt := Pm_dg hd (x := k) (by omega)
    have hne : ¬ dg d k = x := fun q => by have := Pm_inj hd (by omega) hg (q.trans e.symm); omega
    rw [X5_gain_L1, gd_in (by omega) (by omega), nI_clamp (by omega), hO k (by omega), iF (fun q => hne ((nI_eq (by omega) (by omega)).mp q)), nI_add1]
    exact ih (k + 1) F (by omega) (by omega)
theorem ok_gain {N : Nat} (hN : 1000 ≤ N) : Ok_gain N Inv := fun a1 a2 w hI => by
  obtain ⟨o, H, hW, hT⟩ := hI
  obtain ⟨h1, h2, h3, h4, h5, h6, h7, h8, h9⟩ := id hW
  have hn := h1.1
  rcases cix a1 (n := 6) (by omega) with h | ⟨r, hr, rfl⟩
  · refine ⟨ng 1, w, w, ?_, ?_, o, H, hW, hT⟩
    · unfold f_X4_gain; rw [e_isRow_f h]; simp only [bs, l0, l1, l2, l3, l4, l5, l6, l7, l8, l9, l10, l12, l15, l30, l31, l32, l40, l42, l48, l57, l60, l64, l98, l99, l100, l109, l110, l112, l115, l265, l1000, l518400, ngd, if_true, if_false, bn0, reduceCtorEq, n10, z1, z3, z0]
    · unfold f_X5_gain; rw [e_misRow_f h]; simp only [bs, l0, l1, l2, l3, l4, l5, l6, l7, l8, l9, l10, l12, l15, l30, l31, l32, l40, l42, l48, l57, l60, l64, l98, l99, l100, l109, l110, l112, l115, l265, l1000, l518400, ngd, if_true, if_false, bn0, reduceCtorEq, n10, z1, z3, z0]
  rcases cix a2 (n := oN o) (by omega) with h | ⟨x, hx, rfl⟩
  · refine ⟨ng 1, w, w, ?_, ?_, o, H, hW, hT⟩
    · unfold f_X4_gain; rw [e_isRow_t hr]; simp only [bs, l0, l1, l2, l3, l4, l5, l6, l7, l8, l9, l10, l12, l15, l30, l31, l32, l40, l42, l48, l57, l60, l64, l98, l99, l100, l109, l110, l112, l115, l265, l1000, l518400, ngd, if_true, if_false, bn0, reduceCtorEq, n10, z1, z3, z0]; rw [e_isMate_f hn h3.1 h]; simp only [bs, l0, l1, l2, l3, l4, l5, l6, l7, l8, l9, l10, l12, l15, l30, l31, l32, l40, l42, l48, l57, l60, l64, l98, l99, l100, l109, l110, l112, l115, l265, l1000, l518400, ngd, if_true, if_false, bn0, reduceCtorEq, n10, z1, z3, z0]
    · unfold f_X5_gain; rw [e_misRow_t hr]; simp only [bs, l0, l1, l2, l3, l4, l5, l6, l7, l8, l9, l10, l12, l15, l30, l31, l32, l40, l42, l48, l57, l60, l64, l98, l99, l100, l109, l110, l112, l115, l265, l1000, l518400, ngd, if_true, if_false, bn0, reduceCtorEq, n10, z1, z3, z0]; rw [e_misMate_f hn h4.1 h]; simp only [bs, l0, l1, l2, l3, l4, l5, l6, l7, l8, l9, l10, l12, l15, l30, l31, l32, l40, l42, l48, l57, l60, l64, l98, l99, l100, l109, l110, l112, l115, l265, l1000, l518400, ngd, if_true, if_false, bn0, reduceCtorEq, n10, z1, z3, z0]
  rcases draw_cases hW hr with ⟨d, hd⟩ | ⟨f, hf⟩
  · have hc1 := hd.1
    have hcd := Pm_cd hc1 hn
    obtain ⟨g, hg, e⟩ := Pm_sur hn hc1 hx
    obtain ⟨v, hv⟩ : ∃ v, v = nI (oW o g) - nI (oW o x) := ⟨_, rfl⟩
    have g1 : ag [412] w (sI w 412 0 v) := (ag.rf _ w).sI (by simp)
    have h4' := RM_ag h4 g1
    obtain ⟨w2, e2, b1, b2⟩ := e_asked_t (N := N) hN h1 hr h4'.1 (DR_ag hd hr g1) (h5 r hr).2
    have h42 := RM_ag h4' b1
    refine ⟨nI 1, sI w 412 0 v, sI w2 502 0 v, ?_, ?_, Inv_ask hW hT b1⟩
    · unfold f_X4_gain; rw [e_isRow_t hr]; simp only [bs, l0, l1, l2, l3, l4, l5, l6, l7, l8, l9, l10, l12, l15, l30, l31, l32, l40, l42, l48, l57, l60, l64, l98, l99, l100, l109, l110, l112, l115, l265, l1000, l518400, ngd, if_true, if_false, bn0, reduceCtorEq, n10, z1, z3, z0]; rw [e_isMate_t hn h3.1 hx]; simp only [bs, l0, l1, l2, l3, l4, l5, l6, l7, l8, l9, l10, l12, l15, l30, l31, l32, l40, l42, l48, l57, l60, l64, l98, l99, l100, l109, l110, l112, l115, l265, l1000, l518400, ngd, if_true, if_false, bn0, reduceCtorEq, n10, z1, z3, z0]; rw [e_drawingIn_t hN h1 hr h3.1 hd]; simp only [bs, l0, l1, l2, l3, l4, l5, l6, l7, l8, l9, l10, l12, l15, l30, l31, l32, l40, l42, l48, l57, l60, l64, l98, l99, l100, l109, l110, l112, l115, l265, l1000, l518400, ngd, if_true, if_false, bn0, reduceCtorEq, n10, z1, z3, z0]; rw [iT (nI_le (by omega) (by omega)), e_gain_L h1 hc1 hg hx e (oN o) 0 N w h3 (by omega) (by omega), if_pos (by omega), hv]; simp only [bs, l0, l1, l2, l3, l4, l5, l6, l7, l8, l9, l10, l12, l15, l30, l31, l32, l40, l42, l48, l57, l60, l64, l98, l99, l100, l109, l110, l112, l115, l265, l1000, l518400, ngd, if_true, if_false, bn0, reduceCtorEq, n10, z1, z3, z0]
    · unfold f_X5_gain; rw [e_misRow_t hr]; simp only [bs, l0, l1, l2, l3, l4, l5, l6, l7, l8, l9, l10, l12, l15, l30, l31, l32, l40, l42, l48, l57, l60, l64, l98, l99, l100, l109, l110, l112, l115, l265, l1000, l518400, ngd, if_true, if_false, bn0, reduceCtorEq, n10, z1, z3, z0]; rw [e_misMate_t hn h4'.1 hx]; simp only [bs, l0, l1, l2, l3, l4, l5, l6, l7, l8, l9, l10, l12, l15, l30, l31, l32, l40, l42, l48, l57, l60, l64, l98, l99, l100, l109, l110, l112, l115, l265, l1000, l518400, ngd, if_true, if_false, bn0, reduceCtorEq, n10, z1, z3, z0]; rw [e2]; simp only [bs, l0, l1, l2, l3, l4, l5, l6, l7, l8, l9, l10, l12, l15, l30, l31, l32, l40, l42, l48, l57, l60, l64, l98, l99, l100, l109, l110, l112, l115, l265, l1000, l518400, ngd, if_true, if_false, bn0, reduceCtorEq, n10, z1, z3, z0]; rw [e_mgain_L hn hc1 hg hx e b2 g 0 N (by omega) (by omega)]; simp only [bs, l0, l1, l2, l3, l4, l5, l6, l7, l8, l9, l10, l12, l15, l30, l31, l32, l40, l42, l48, l57, l60, l64, l98, l99, l100, l109, l110, l112, l115, l265, l1000, l518400, ngd, if_true, if_false, bn0, reduceCtorEq, n10, z1, z3, z0]; rw [gd_in (by omega) (by omega), gd_in (by omega) (by omega), nI_clamp (by omega), nI_clamp (by omega), (h42.2.2.2.1 g hg).2.2, (h42.2.2.2.1 x hx).2.2, e_ask, hv]; simp only [bs, l0, l1, l2, l3, l4, l5, l6, l7, l8, l9, l10, l12, l15, l30, l31, l32, l40, l42, l48, l57, l60, l64, l98, l99, l100, l109, l110, l112, l115, l265, l1000, l518400, ngd, if_true, if_false, bn0, reduceCtorEq, n10, z1, z3, z0]
  · obtain ⟨f1, f2⟩ := FR_in hf
    obtain ⟨w2, e2, b1⟩ := e_asked_f (N := N) hN h1 hr (RM_ag h4 (cref_ag f w)).1 (FR_ag hf hr (cref_ag f w))
    refine ⟨ng 3, cref f w, mref f w2, ?_, ?_, Inv_ref hW hT b1⟩
    · unfold f_X4_gain; rw [e_isRow_t hr]; simp only [bs, l0, l1, l2, l3, l4, l5, l6, l7, l8, l9, l10, l12, l15, l30, l31, l32, l40, l42, l48, l57, l60, l64, l98, l99, l100, l109, l110, l112, l115, l265, l1000, l518400, ngd, if_true, if_false, bn0, reduceCtorEq, n10, z1, z3, z0]; rw [e_isMate_t hn h3.1 hx]; simp only [bs, l0, l1, l2, l3, l4, l5, l6, l7, l8, l9, l10, l12, l15, l30, l31, l32, l40, l42, l48, l57, l60, l64, l98, l99, l100, l109, l110, l112, l115, l265, l1000, l518400, ngd, if_true, if_false, bn0, reduceCtorEq, n10, z1, z3, z0]; rw [e_drawingIn_f hN h1 hr h3.1 hf]; simp only [bs, l0, l1, l2, l3, l4, l5, l6, l7, l8, l9, l10, l12, l15, l30, l31, l32, l40, l42, l48, l57, l60, l64, l98, l99, l100, l109, l110, l112, l115, l265, l1000, l518400, ngd, if_true, if_false, bn0, reduceCtorEq, n10, z1, z3, z0]; rw [iF (by rw [ng_nn (by omega) (by omega) (by omega)]; simp), ng_neg, e_refuse f2]; simp only [bs, l0, l1, l2, l3, l4, l5, l6, l7, l8, l9, l10, l12, l15, l30, l31, l32, l40, l42, l48, l57, l60, l64, l98, l99, l100, l109, l110, l112, l115, l265, l1000, l518400, ngd, if_true, if_false, bn0, reduceCtorEq, n10, z1, z3, z0]
    · unfold f_X5_gain; rw [e_misRow_t hr]; simp only [bs, l0, l1, l2, l3, l4, l5, l6, l7, l8, l9, l10, l12, l15, l30, l31, l32, l40, l42, l48, l57, l60, l64, l98, l99, l100, l109, l110, l112, l115, l265, l1000, l518400, ngd, if_true, if_false, bn0, reduceCtorEq, n10, z1, z3, z0]; rw [e_misMate_t hn (RM_ag h4 (cref_ag f w)).1 hx]; simp only [bs, l0, l1, l2, l3, l4, l5, l6, l7, l8, l9, l10, l12, l15, l30, l31, l32, l40, l42, l48, l57, l60, l64, l98, l99, l100, l109, l110, l112, l115, l265, l1000, l518400, ngd, if_true, if_false, bn0, reduceCtorEq, n10, z1, z3, z0]; rw [e2]; simp only [bs, l0, l1, l2, l3, l4, l5, l6, l7, l8, l9, l10, l12, l15, l30, l31, l32, l40, l42, l48, l57, l60, l64, l98, l99, l100, l109, l110, l112, l115, l265, l1000, l518400, ngd, if_true, if_false, bn0, reduceCtorEq, n10, z1, z3, z0]
/-! ways, nth, number, lot -/
theorem ok_ways {N : Nat} (hN : 1000 ≤ N) : Ok_ways N Inv := fun w hI => by
  obtain ⟨o, H, hW, hT⟩ := hI
  obtain ⟨w1, e1, a1, a2, a3⟩ := IW_list (N := N) hN hW
  obtain ⟨w2, e2, b1, b2⟩ := e_setRights (N := N) hN a3.1 a3.2.2.2.1
  refine ⟨nI (rights o).length, w1, w2, ?_, ?_, o, H, IW_ag a3 b1, Itl_ag (Itl_ag hT a1) b1⟩
  · unfold f_X4_ways; rw [e1]; simp only [bs, l0, l1, l2, l3, l4, l5, l6, l7, l8, l9, l10, l12, l15, l30, l31, l32, l40, l42, l48, l57, l60, l64, l98, l99, l100, l109, l110, l112, l115, l265, l1000, l518400, ngd, if_true, if_false, bn0, reduceCtorEq, n10, z1, z3, z0]; rw [a2.1]
  · unfold f_X5_ways; rw [e2]; simp only [bs, l0, l1, l2, l3, l4, l5, l6, l7, l8, l9, l10, l12, l15, l30, l31, l32, l40, l42, l48, l57, l60, l64, l98, l99, l100, l109, l110, l112, l115, l265, l1000, l518400, ngd, if_true, if_false, bn0, reduceCtorEq, n10, z1, z3, z0]; rw [b2.1]
theorem e_layD_L {N r n : Nat} {d : List Nat} (hn : n ≤ 6) (hr : r < 6) (hd : Pm n d) : ∀ (m k F : Nat) (w : Wd), gI w 4 0 = nI n → k + m = n → m < F → (∀ j, j < k → gA w 11 r j = nI (dg d j)) → ∃ w', X4_layDrawing_L1 N (nI r) (nI (cd d)) F (nI k) w = some w' ∧ ag [11 + 1000 * r] w w' ∧ (∀ j, j < n → gA w' 11 r j = nI (dg d j)) ∧ ∀ j, n ≤ j → gA w' 11 r j = gA w 11 r j := by
  have hcd := Pm_cd hd hn
  intro m
  induction m with
  | zero =>
    intro k F w hm hk hF h0
    obtain ⟨F, rfl, _⟩ := fuel_s hF
    rw [X4_layDrawing_L1, hm, iT (nI_le (by omega) (by omega))]
    exact ⟨w, rfl, ag.rf _ _, fun j hj => h0 j (by omega), fun _ _ => rfl⟩
  | succ m ih =>
    intro k F w hm hk hF h0
    obtain ⟨F, rfl, hF'⟩ := fuel_s hF
    rw [X4_layDrawing_L1, hm, iF (nI_ge (by omega) (by omega)), gd_in hr (by omega), e_paper (by omega) (by omega), Pm_pp hd hn]
    simp only [bs, l0, l1, l2, l3, l4, l5, l6, l7, l8, l9, l10, l12, l15, l30, l31, l32, l40, l42, l48, l57, l60, l64, l98, l99, l100, l109, l110, l112, l115, l265, l1000, l518400, ngd]
    rw [gd_in (by omega) (by omega), nI_clamp (by omega), nI_clamp (by omega), nI_add]
    obtain ⟨w', e, a1, a2, a3⟩ := ih (k + 1) F (sA w 11 r (upd (gA w 11 r) k (nI (dg d k)))) hm (by omega) (by omega) (fun j hj => by
      rw [gA_sA, if_pos ⟨rfl, rfl⟩]
      by_cases q : j = k
      · rw [q, pk_us]
      · rw [pk_un q]; exact h0 j (by omega))
    refine ⟨w', e, ((ag.rf _ w).sA (by simp)).tr a1, a2, fun j hj => ?_⟩
    rw [a3 j hj, gA_sA, if_pos ⟨rfl, rfl⟩, pk_un (by omega)]
theorem e_layD {N r : Nat} {o : Of} {d : List Nat} {w : Wd} (hN : 1000 ≤ N) (hf : Wf o) (hr : r < 6) (hm : gI w 4 0 = nI (oN o)) (hd : Pm (oN o) d) : ∃ w', f_X4_layDrawing N (nI r) (nI (cd d)) w = some w' ∧ ag [11 + 1000 * r, 12] w w' ∧ gA w' 12 0 = upd (gA w 12 0) r (nI (oN o)) ∧ (∀ j, j < oN o → gA w' 11 r j = nI (dg d j)) ∧ ∀ j, oN o ≤ j → j < 40 → gA w' 11 r j = nI 0 := by
  have hn := hf.1
  obtain ⟨w1, e1, a1, a2, a3⟩ := e_renew (N := N) (n := oN o) (w := w) hN hr
  have hm1 : gI w1 4 0 = nI (oN o) := by rw [a1.1 4 0 (by simp; omega) (by decide)]; exact hm
  obtain ⟨w2, e2, b1, b2, b3⟩ := e_layD_L (N := N) hn hr hd (oN o) 0 N w1 hm1 (by omega) (by omega) (fun j hj => by omega)
  unfold f_X4_layDrawing
  rw [hm, e1]
  simp only [bs, l0, l1, l2, l3, l4, l5, l6, l7, l8, l9, l10, l12, l15, l30, l31, l32, l40, l42, l48, l57, l60, l64, l98, l99, l100, l109, l110, l112, l115, l265, l1000, l518400, ngd]
  rw [e2]
  refine ⟨w2, rfl, a1.tr (b1.mono (by simp)), ?_, b2, fun j h1 h2 => by rw [b3 j h1]; exact a2 j h2⟩
  rw [b1.2.2 12 0 (by simp; omega) (by decide), a3]
theorem e_layR_L {N r n k : Nat} {L : List (List Nat)} (hL : LOk n L) (hr : r < 6) (hk : k < L.length) : ∀ (m x F : Nat) (w : Wd), RTS n L w → gI w 510 0 = nI n → x + m = n → m < F → (∀ j, j < x → gA w 32 0 (40 * r + j) = nI (dg (dr L k) j)) → ∃ w', X5_layRight_L1 N (nI k) (nI r) F (nI x) w = some w' ∧ ag [32] w w' ∧ (∀ j, j < n → gA w' 32 0 (40 * r + j) = nI (dg (dr L k) j)) ∧ ∀ j, (j < 40 * r ∨ 40 * r + n ≤ j) → gA w' 32 0 j = gA w 32 0 j := by
  have hn := hL.1
  intro m
  induction m with
  | zero =>
    intro x F w hT hm hx hF h0
    obtain ⟨F, rfl, _⟩ := fuel_s hF
    rw [X5_layRight_L1, hm, iT (nI_le (by omega) (by omega))]
    exact ⟨w, rfl, ag.rf _ _, fun j hj => h0 j (by omega), fun _ _ => rfl⟩
  | succ m ih =>
    intro x F w hT hm hx hF h0
    obtain ⟨F, rfl, hF'⟩ := fuel_s hF
    rw [X5_layRight_L1, hm, iF (nI_ge (by omega) (by omega)), e_right hL hT hk (by omega)]
    simp only [bs, l0, l1, l2, l3, l4, l5, l6, l7, l8, l9, l10, l12, l15, l30, l31, l32, l40, l42, l48, l57, l60, l64, l98, l99, l100, l109, l110, l112, l115, l265, l1000, l518400, ngd]
    rw [e_setRow hr (by omega)]
    simp only [bs, l0, l1, l2, l3, l4, l5, l6, l7, l8, l9, l10, l12, l15, l30, l31, l32, l40, l42, l48, l57, l60, l64, l98, l99, l100, l109, l110, l112, l115, l265, l1000, l518400, ngd]
    rw [nI_add]
    have g : ag [32] w (sA w 32 0 (upd (gA w 32 0) (40 * r + x) (nI (dg (dr L k) x)))) := (ag.rf _ w).sA (by simp)
    obtain ⟨w', e, a1, a2, a3⟩ := ih (x + 1) F _ (RTS_ag hT g) (by rw [agI g 510 0]; exact hm) (by omega) (by omega) (fun j hj => by
      rw [gA_sA, if_pos ⟨rfl, rfl⟩]
      by_cases q : j = x
      · rw [q, pk_us]
      · rw [pk_un (by omega)]; exact h0 j (by omega))
    refine ⟨w', e, g.tr a1, a2, fun j hj => ?_⟩
    rw [a3 j hj, gA_sA, if_pos ⟨rfl, rfl⟩, pk_un (by omega)]
theorem e_layR {N r n k : Nat} {L : List (List Nat)} {w : Wd} (hN : 1000 ≤ N) (hL : LOk n L) (hr : r < 6) (hk : k < L.length) (hT : RTS n L w) (hm : gI w 510 0 = nI n) : ∃ w', f_X5_layRight N (nI k) (nI r) w = some w' ∧ ag [31, 32] w w' ∧ gA w' 31 0 = upd (gA w 31 0) r (nI n) ∧ (∀ j, j < n → gA w' 32 0 (40 * r + j) = nI (dg (dr L k) j)) ∧ (∀ j, n ≤ j → j < 40 → gA w' 32 0 (40 * r + j) = nI 0) ∧ ∀ j, (j < 40 * r ∨ 40 * r + 40 ≤ j) → gA w' 32 0 j = gA w 32 0 j := by
  have hn := hL.1
  obtain ⟨w1, e1, a1, a2, a3, a4⟩ := e_mrow (N := N) (w := w) hN hr (show n ≤ 40 by omega)
  obtain ⟨w2, e2, b1, b2, b3⟩ := e_layR_L (N := N) hL hr hk n 0 N w1 (RTS_ag hT a1) (by rw [agI a1 510 0]; exact hm) (by omega) (by omega) (fun j hj => by omega)
  unfold f_X5_layRight
  rw [hm, e1]
  simp only [bs, l0, l1, l2, l3, l4, l5, l6, l7, l8, l9, l10, l12, l15, l30, l31, l32, l40, l42, l48, l57, l60, l64, l98, l99, l100, l109, l110, l112, l115, l265, l1000, l518400, ngd]
  rw [e2]
  refine ⟨w2, rfl, a1.tr (b1.mono (by simp)), by rw [agA b1 31 0, a4], b2, fun j h1 h2 => by rw [b3 _ (by omega)]; exact a2 j h2, fun j hj => by rw [b3 _ (by omega), a3 j hj]⟩
/-- a right drawing laid in a row, both sides: class w to w1, model w1 to w2 -/
theorem IW_lay {r : Nat} {o : Of} {H : List Nat} {d : List Nat} {w w1 w2 : Wd} (hW : IW o H w) (hr : r < 6) (c1 : ag [11 + 1000 * r, 12] w w1) (c2 : gA w1 12 0 = upd (gA w 12 0) r (nI (oN o))) (c3 : ∀ j, j < oN o → gA w1 11 r j = nI (dg d j)) (c4 : ∀ j, oN o ≤ j → j < 40 → gA w1 11 r j = nI 0)
    (m1 : ag ([40, 41, 520, 522, 523, 31, 32, 526, 530] : List Nat) w1 w2) (m2 : gA w2 31 0 = upd (gA w 31 0) r (nI (oN o))) (m3 : ∀ j, j < oN o → gA w2 32 0 (40 * r + j) = nI (dg d j)) (m4 : ∀ j, oN o ≤ j → j < 40 → gA w2 32 0 (40 * r + j) = nI 0) (m5 : ∀ j, (j < 40 * r ∨ 40 * r + 40 ≤ j) → gA w2 32 0 j = gA w 32 0 j) : IW o H w2 := by
  obtain ⟨h1, h2, h3, h4, h5, h6, h7, h8, h9⟩ := hW
  have hn := h1.1
  have hro : Iro w2 := Iro_renew h5 hr (show oN o ≤ 40 by omega) c1 c2 m1 (by decide) (fun j hj => by
    rcases Nat.lt_or_ge j (oN o) with q | q
    · rw [c3 j q, m3 j q]
    · rw [c4 j q hj, m4 j q hj]) m5 m2
  have g : ag ([11, 1011, 2011, 3011, 4011, 5011, 12, 40, 41, 520, 522, 523, 31, 32, 526, 530] : List Nat) w w2 := (c1.mono (fun k hk => by
    simp only [List.mem_cons, List.not_mem_nil, or_false] at hk ⊢; omega)).tr (m1.mono (by decide))
  exact ⟨h1, h2, RO_ag h3 g, RM_ag h4 g, hro, Itx_ag h6 g, Iht_ag h7 g, Ikp_ag h8 g, Ist_ag h9 g⟩
theorem lay_tl {r : Nat} {w w1 w2 : Wd} (hT : Itl w) (hr : r < 6) (c1 : ag [11 + 1000 * r, 12] w w1) (m1 : ag ([40, 41, 520, 522, 523, 31, 32, 526, 530] : List Nat) w1 w2) : Itl w2 := by
  refine Itl_ag (Itl_ag hT c1 (fun k hk => ?_)) m1
  simp only [List.mem_cons, List.not_mem_nil, or_false] at hk ⊢; omega
theorem ok_nth {N : Nat} (hN : 1000 ≤ N) : Ok_nth N Inv := fun a1 a2 w hI => by
  obtain ⟨o, H, hW, hT⟩ := hI
  have hn := hW.1.1
  by_cases c0 : a1.toInt < 0
  · refine ⟨ng 1, w, w, ?_, ?_, o, H, hW, hT⟩
    · unfold f_X4_nth; simp only [bs, l0, l1, l2, l3, l4, l5, l6, l7, l8, l9, l10, l12, l15, l30, l31, l32, l40, l42, l48, l57, l60, l64, l98, l99, l100, l109, l110, l112, l115, l265, l1000, l518400, ngd, if_true, if_false, bn0, reduceCtorEq, n10, z1, z3, z0]; rw [iT (neg0 c0)]
    · unfold f_X5_nth; simp only [bs, l0, l1, l2, l3, l4, l5, l6, l7, l8, l9, l10, l12, l15, l30, l31, l32, l40, l42, l48, l57, l60, l64, l98, l99, l100, l109, l110, l112, l115, l265, l1000, l518400, ngd, if_true, if_false, bn0, reduceCtorEq, n10, z1, z3, z0]; rw [iT (neg0 c0)]
  have c0' : ¬ a1 < nI 0 := fun q => by have := (clt (n := 0) (by omega)).mp q; omega
  rcases cix a2 (n := 6) (by omega) with h | ⟨r, hr, rfl⟩
  · refine ⟨ng 1, w, w, ?_, ?_, o, H, hW, hT⟩
    · unfold f_X4_nth; simp only [bs, l0, l1, l2, l3, l4, l5, l6, l7, l8, l9, l10, l12, l15, l30, l31, l32, l40, l42, l48, l57, l60, l64, l98, l99, l100, l109, l110, l112, l115, l265, l1000, l518400, ngd, if_true, if_false, bn0, reduceCtorEq, n10, z1, z3, z0]; rw [iF c0', e_isRow_f h]; simp only [bs, l0, l1, l2, l3, l4, l5, l6, l7, l8, l9, l10, l12, l15, l30, l31, l32, l40, l42, l48, l57, l60, l64, l98, l99, l100, l109, l110, l112, l115, l265, l1000, l518400, ngd, if_true, if_false, bn0, reduceCtorEq, n10, z1, z3, z0]
    · unfold f_X5_nth; simp only [bs, l0, l1, l2, l3, l4, l5, l6, l7, l8, l9, l10, l12, l15, l30, l31, l32, l40, l42, l48, l57, l60, l64, l98, l99, l100, l109, l110, l112, l115, l265, l1000, l518400, ngd, if_true, if_false, bn0, reduceCtorEq, n10, z1, z3, z0]; rw [iF c0', e_misRow_f h]; simp only [bs, l0, l1, l2, l3, l4, l5, l6, l7, l8, l9, l10, l12, l15, l30, l31, l32, l40, l42, l48, l57, l60, l64, l98, l99, l100, l109, l110, l112, l115, l265, l1000, l518400, ngd, if_true, if_false, bn0, reduceCtorEq, n10, z1, z3, z0]
  obtain ⟨wa, ea, u1, u2, hWa⟩ := IW_list (N := N) hN hW
  obtain ⟨h1, h2, h3, h4, h5, h6, h7, h8, h9⟩ := id hWa
  have hL := LOk_r h1
  have hl := hL.2.1
  have hTa := Itl_ag hT u1
  rcases cix a1 (n := (rights o).length) (by omega) with h | ⟨k, hk, rfl⟩
  · have hk : (((rights o).length : Nat) : Int) ≤ a1.toInt := by omega
    obtain ⟨w2, e2, b1, b2⟩ := e_setRights (N := N) hN h1 (RM_ag h4 (cref_ag 4 wa))
    refine ⟨ng 3, cref 4 wa, mref 4 w2, ?_, ?_, Inv_ref hWa hTa b1⟩
    · unfold f_X4_nth; simp only [bs, l0, l1, l2, l3, l4, l5, l6, l7, l8, l9, l10, l12, l15, l30, l31, l32, l40, l42, l48, l57, l60, l64, l98, l99, l100, l109, l110, l112, l115, l265, l1000, l518400, ngd, if_true, if_false, bn0, reduceCtorEq, n10, z1, z3, z0]; rw [iF c0', e_isRow_t hr]; simp only [bs, l0, l1, l2, l3, l4, l5, l6, l7, l8, l9, l10, l12, l15, l30, l31, l32, l40, l42, l48, l57, l60, l64, l98, l99, l100, l109, l110, l112, l115, l265, l1000, l518400, ngd, if_true, if_false, bn0, reduceCtorEq, n10, z1, z3, z0]; rw [ea]; simp only [bs, l0, l1, l2, l3, l4, l5, l6, l7, l8, l9, l10, l12, l15, l30, l31, l32, l40, l42, l48, l57, l60, l64, l98, l99, l100, l109, l110, l112, l115, l265, l1000, l518400, ngd, if_true, if_false, bn0, reduceCtorEq, n10, z1, z3, z0]; rw [u2.1, iF (fun q => by have := (clt (by omega)).mp q; omega), e_refuse (by omega)]; simp only [bs, l0, l1, l2, l3, l4, l5, l6, l7, l8, l9, l10, l12, l15, l30, l31, l32, l40, l42, l48, l57, l60, l64, l98, l99, l100, l109, l110, l112, l115, l265, l1000, l518400, ngd, if_true, if_false, bn0, reduceCtorEq, n10, z1, z3, z0]
    · unfold f_X5_nth; simp only [bs, l0, l1, l2, l3, l4, l5, l6, l7, l8, l9, l10, l12, l15, l30, l31, l32, l40, l42, l48, l57, l60, l64, l98, l99, l100, l109, l110, l112, l115, l265, l1000, l518400, ngd, if_true, if_false, bn0, reduceCtorEq, n10, z1, z3, z0]; rw [iF c0', e_misRow_t hr]; simp only [bs, l0, l1, l2, l3, l4, l5, l6, l7, l8, l9, l10, l12, l15, l30, l31, l32, l40, l42, l48, l57, l60, l64, l98, l99, l100, l109, l110, l112, l115, l265, l1000, l518400, ngd, if_true, if_false, bn0, reduceCtorEq, n10, z1, z3, z0]; rw [e2]; simp only [bs, l0, l1, l2, l3, l4, l5, l6, l7, l8, l9, l10, l12, l15, l30, l31, l32, l40, l42, l48, l57, l60, l64, l98, l99, l100, l109, l110, l112, l115, l265, l1000, l518400, ngd, if_true, if_false, bn0, reduceCtorEq, n10, z1, z3, z0]; rw [b2.1, iF (fun q => by have := (clt (by omega)).mp q; omega), e_meet (by omega)]; simp only [bs, l0, l1, l2, l3, l4, l5, l6, l7, l8, l9, l10, l12, l15, l30, l31, l32, l40, l42, l48, l57, l60, l64, l98, l99, l100, l109, l110, l112, l115, l265, l1000, l518400, ngd, if_true, if_false, bn0, reduceCtorEq, n10, z1, z3, z0]
  · obtain ⟨w1, e1, c1, c2, c3, c4⟩ := e_layD (N := N) hN h1 hr h3.1 (LOk_at hL hk)
    have hR1 : RM o w1 := RM_ag h4 c1 (fun k hk => by simp only [List.mem_cons, List.not_mem_nil, or_false] at hk ⊢; omega)
    obtain ⟨w2, e2, b1, b2⟩ := e_setRights (N := N) hN h1 hR1
    obtain ⟨w3, e3, d1, d2, d3, d4, d5⟩ := e_layR (N := N) (r := r) hN hL hr hk b2 (RM_ag hR1 b1).1
    have m1 : ag ([40, 41, 520, 522, 523, 31, 32, 526, 530] : List Nat) w1 w3 := (b1.mono (by decide)).tr (d1.mono (by decide))
    refine ⟨nI 1, w1, w3, ?_, ?_, o, H, IW_lay hWa hr c1 c2 c3 c4 m1 ?_ d3 d4 (fun j hj => ?_), lay_tl hTa hr c1 m1⟩
    · unfold f_X4_nth; simp only [bs, l0, l1, l2, l3, l4, l5, l6, l7, l8, l9, l10, l12, l15, l30, l31, l32, l40, l42, l48, l57, l60, l64, l98, l99, l100, l109, l110, l112, l115, l265, l1000, l518400, ngd, if_true, if_false, bn0, reduceCtorEq, n10, z1, z3, z0]; rw [iF c0', e_isRow_t hr]; simp only [bs, l0, l1, l2, l3, l4, l5, l6, l7, l8, l9, l10, l12, l15, l30, l31, l32, l40, l42, l48, l57, l60, l64, l98, l99, l100, l109, l110, l112, l115, l265, l1000, l518400, ngd, if_true, if_false, bn0, reduceCtorEq, n10, z1, z3, z0]; rw [ea]; simp only [bs, l0, l1, l2, l3, l4, l5, l6, l7, l8, l9, l10, l12, l15, l30, l31, l32, l40, l42, l48, l57, l60, l64, l98, l99, l100, l109, l110, l112, l115, l265, l1000, l518400, ngd, if_true, if_false, bn0, reduceCtorEq, n10, z1, z3, z0]; rw [u2.1, iT (nI_lt hk (by omega)), gd_in (by omega) (by omega), nI_clamp (by omega), u2.2 k hk, e1]; simp only [bs, l0, l1, l2, l3, l4, l5, l6, l7, l8, l9, l10, l12, l15, l30, l31, l32, l40, l42, l48, l57, l60, l64, l98, l99, l100, l109, l110, l112, l115, l265, l1000, l518400, ngd, if_true, if_false, bn0, reduceCtorEq, n10, z1, z3, z0]
    · unfold f_X5_nth; simp only [bs, l0, l1, l2, l3, l4, l5, l6, l7, l8, l9, l10, l12, l15, l30, l31, l32, l40, l42, l48, l57, l60, l64, l98, l99, l100, l109, l110, l112, l115, l265, l1000, l518400, ngd, if_true, if_false, bn0, reduceCtorEq, n10, z1, z3, z0]; rw [iF c0', e_misRow_t hr]; simp only [bs, l0, l1, l2, l3, l4, l5, l6, l7, l8, l9, l10, l12, l15, l30, l31, l32, l40, l42, l48, l57, l60, l64, l98, l99, l100, l109, l110, l112, l115, l265, l1000, l518400, ngd, if_true, if_false, bn0, reduceCtorEq, n10, z1, z3, z0]; rw [e2]; simp only [bs, l0, l1, l2, l3, l4, l5, l6, l7, l8, l9, l10, l12, l15, l30, l31, l32, l40, l42, l48, l57, l60, l64, l98, l99, l100, l109, l110, l112, l115, l265, l1000, l518400, ngd, if_true, if_false, bn0, reduceCtorEq, n10, z1, z3, z0]; rw [b2.1, iT (nI_lt hk (by omega)), e3]; simp only [bs, l0, l1, l2, l3, l4, l5, l6, l7, l8, l9, l10, l12, l15, l30, l31, l32, l40, l42, l48, l57, l60, l64, l98, l99, l100, l109, l110, l112, l115, l265, l1000, l518400, ngd, if_true, if_false, bn0, reduceCtorEq, n10, z1, z3, z0]
    · rw [d2, agA b1 31 0, c1.2.2 31 0 (by simp; omega) (by decide)]
    · rw [d5 j hj, agA b1 32 0, c1.2.2 32 0 (by simp; omega) (by decide)]
theorem ok_number {N : Nat} (hN : 1000 ≤ N) : Ok_number N Inv := fun a1 w hI => by
  obtain ⟨o, H, hW, hT⟩ := hI
  obtain ⟨h1, h2, h3, h4, h5, h6, h7, h8, h9⟩ := id hW
  have hn := h1.1
  rcases cix a1 (n := 6) (by omega) with h | ⟨r, hr, rfl⟩
  · refine ⟨ng 1, w, w, ?_, ?_, o, H, hW, hT⟩
    · unfold f_X4_number; rw [e_isRow_f h]; simp only [bs, l0, l1, l2, l3, l4, l5, l6, l7, l8, l9, l10, l12, l15, l30, l31, l32, l40, l42, l48, l57, l60, l64, l98, l99, l100, l109, l110, l112, l115, l265, l1000, l518400, ngd, if_true, if_false, bn0, reduceCtorEq, n10, z1, z3, z0]
    · unfold f_X5_number f_X5_askedDrawing; rw [e_askedRow_f h]; simp only [bs, l0, l1, l2, l3, l4, l5, l6, l7, l8, l9, l10, l12, l15, l30, l31, l32, l40, l42, l48, l57, l60, l64, l98, l99, l100, l109, l110, l112, l115, l265, l1000, l518400, ngd, if_true, if_false, bn0, reduceCtorEq, n10, z1, z3, z0]
  rcases draw_cases hW hr with ⟨d, hd⟩ | ⟨f, hf⟩
  · have hc1 := hd.1
    have hcd := Pm_cd hc1 hn
    have hL := LOk_r h1
    have hl := hL.2.1
    obtain ⟨wa, ea, u1, u2, hWa⟩ := IW_list (N := N) hN hW
    have h4a := hWa.2.2.2.1
    obtain ⟨w2, e2, b1, b2⟩ := e_asked_t (N := N) hN h1 hr h4a.1 (DR_ag hd hr u1) (hWa.2.2.2.2.1 r hr).2
    have hdr := DR_ag (DR_ag hd hr u1) hr b1
    obtain ⟨w3, e3, d1, d2⟩ := e_numberOf (N := N) hN h1 (RM_ag h4a b1) hr hc1 hdr.2.2.2.2
    have ge : fst (ftf (rights o) (cd d) 4294967295) (rights o).length 0 = fst (fun k => decide (dr (rights o) k = d)) (rights o).length 0 := fst_congr _ _ (fun j _ hj => ftf_all hL (by omega) hc1)
    refine ⟨oi (fst (fun k => decide (dr (rights o) k = d)) (rights o).length 0), wa, w3, ?_, ?_, o, H, IW_ag (IW_ag hWa b1) d1, Itl_ag (Itl_ag (Itl_ag hT u1) b1) d1⟩
    · unfold f_X4_number; rw [e_isRow_t hr]; simp only [bs, l0, l1, l2, l3, l4, l5, l6, l7, l8, l9, l10, l12, l15, l30, l31, l32, l40, l42, l48, l57, l60, l64, l98, l99, l100, l109, l110, l112, l115, l265, l1000, l518400, ngd, if_true, if_false, bn0, reduceCtorEq, n10, z1, z3, z0]; rw [e_drawingIn_t hN h1 hr h3.1 hd]; simp only [bs, l0, l1, l2, l3, l4, l5, l6, l7, l8, l9, l10, l12, l15, l30, l31, l32, l40, l42, l48, l57, l60, l64, l98, l99, l100, l109, l110, l112, l115, l265, l1000, l518400, ngd, if_true, if_false, bn0, reduceCtorEq, n10, z1, z3, z0]; rw [iT (nI_le (by omega) (by omega)), ea]; simp only [bs, l0, l1, l2, l3, l4, l5, l6, l7, l8, l9, l10, l12, l15, l30, l31, l32, l40, l42, l48, l57, l60, l64, l98, l99, l100, l109, l110, l112, l115, l265, l1000, l518400, ngd, if_true, if_false, bn0, reduceCtorEq, n10, z1, z3, z0]; rw [ng1n, e_placeOf hN hL u2 hcd, ge]; simp only [bs, l0, l1, l2, l3, l4, l5, l6, l7, l8, l9, l10, l12, l15, l30, l31, l32, l40, l42, l48, l57, l60, l64, l98, l99, l100, l109, l110, l112, l115, l265, l1000, l518400, ngd, if_true, if_false, bn0, reduceCtorEq, n10, z1, z3, z0]
    · unfold f_X5_number; rw [e2]; simp only [bs, l0, l1, l2, l3, l4, l5, l6, l7, l8, l9, l10, l12, l15, l30, l31, l32, l40, l42, l48, l57, l60, l64, l98, l99, l100, l109, l110, l112, l115, l265, l1000, l518400, ngd, if_true, if_false, bn0, reduceCtorEq, n10, z1, z3, z0]; rw [e3]; simp only [bs, l0, l1, l2, l3, l4, l5, l6, l7, l8, l9, l10, l12, l15, l30, l31, l32, l40, l42, l48, l57, l60, l64, l98, l99, l100, l109, l110, l112, l115, l265, l1000, l518400, ngd, if_true, if_false, bn0, reduceCtorEq, n10, z1, z3, z0]
  · obtain ⟨f1, f2⟩ := FR_in hf
    obtain ⟨w2, e2, b1⟩ := e_asked_f (N := N) hN h1 hr (RM_ag h4 (cref_ag f w)).1 (FR_ag hf hr (cref_ag f w))
    refine ⟨ng 3, cref f w, mref f w2, ?_, ?_, Inv_ref hW hT b1⟩
    · unfold f_X4_number; rw [e_isRow_t hr]; simp only [bs, l0, l1, l2, l3, l4, l5, l6, l7, l8, l9, l10, l12, l15, l30, l31, l32, l40, l42, l48, l57, l60, l64, l98, l99, l100, l109, l110, l112, l115, l265, l1000, l518400, ngd, if_true, if_false, bn0, reduceCtorEq, n10, z1, z3, z0]; rw [e_drawingIn_f hN h1 hr h3.1 hf]; simp only [bs, l0, l1, l2, l3, l4, l5, l6, l7, l8, l9, l10, l12, l15, l30, l31, l32, l40, l42, l48, l57, l60, l64, l98, l99, l100, l109, l110, l112, l115, l265, l1000, l518400, ngd, if_true, if_false, bn0, reduceCtorEq, n10, z1, z3, z0]; rw [iF (by rw [ng_nn (by omega) (by omega) (by omega)]; simp), ng_neg, e_refuse f2]; simp only [bs, l0, l1, l2, l3, l4, l5, l6, l7, l8, l9, l10, l12, l15, l30, l31, l32, l40, l42, l48, l57, l60, l64, l98, l99, l100, l109, l110, l112, l115, l265, l1000, l518400, ngd, if_true, if_false, bn0, reduceCtorEq, n10, z1, z3, z0]
    · unfold f_X5_number; rw [e2]; simp only [bs, l0, l1, l2, l3, l4, l5, l6, l7, l8, l9, l10, l12, l15, l30, l31, l32, l40, l42, l48, l57, l60, l64, l98, l99, l100, l109, l110, l112, l115, l265, l1000, l518400, ngd, if_true, if_false, bn0, reduceCtorEq, n10, z1, z3, z0]
