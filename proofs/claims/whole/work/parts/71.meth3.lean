/-! ringed -/
theorem e_ringed_L {N n q : Nat} {L : List (List Nat)} {w : Wd} (hN : 1000 ≤ N) (hL : LOk n L) (h : RTC 0 L w) (hm : gI w 4 0 = nI n) (hq : q < 10) : ∀ (m k c F : Nat), k + m = L.length → m < F → X4_ringed_L1 N (nI q) F (nI c) (nI k) w = some (nI (cnt (fun i => decide (rc (dr L i) = q)) m k c), w) := by
  have hn := hL.1
  have hll := hL.2.1
  intro m
  induction m with
  | zero =>
    intro k c F hk hF
    obtain ⟨F, rfl, _⟩ := fuel_s hF
    rw [X4_ringed_L1, h.1, iT (nI_le (by omega) (by omega)), cnt]
  | succ m ih =>
    intro k c F hk hF
    obtain ⟨F, rfl, hF'⟩ := fuel_s hF
    have hp := LOk_at hL (k := k) (by omega)
    have hrc := rc_le hn hp
    rw [X4_ringed_L1, h.1, iF (nI_ge (by omega) (by omega)), gd_in (by omega) (by omega), nI_clamp (by omega), h.2 k (by omega), hm, e_ringCount hN hn hp]
    simp only [bs, l0, l1, l2, l3, l4, l5, l6, l7, l8, l9, l10, l12, l15, l30, l31, l32, l40, l42, l48, l57, l60, l64, l98, l99, l100, l109, l110, l112, l115, l265, l1000, l518400, ngd]
    by_cases c1 : rc (dr L k) = q
    · rw [iT (by rw [c1]), nI_add, nI_add, ih (k + 1) _ F (by omega) (by omega), cnt_t (by simp [c1])]
    · rw [iF (fun z => c1 ((nI_eq (by omega) (by omega)).mp z)), nI_add, ih (k + 1) _ F (by omega) (by omega), cnt_f (by simp [c1])]
theorem e_lookAt_L {N n k : Nat} {L : List (List Nat)} (hL : LOk n L) (hk : k < L.length) : ∀ (m x F : Nat) (w : Wd), RTS n L w → gI w 510 0 = nI n → x + m = n → m < F → (∀ j, j < x → gA w 40 0 j = nI (dg (dr L k) j)) → ∃ w', X5_lookAt_L1 N (nI k) F (nI x) w = some w' ∧ ag [40] w w' ∧ One n (dr L k) w' := by
  have hn := hL.1
  intro m
  induction m with
  | zero =>
    intro x F w hT hm hx hF h0
    obtain ⟨F, rfl, _⟩ := fuel_s hF
    rw [X5_lookAt_L1, hm, iT (nI_le (by omega) (by omega))]
    exact ⟨w, rfl, ag.rf _ _, fun j hj => h0 j (by omega)⟩
  | succ m ih =>
    intro x F w hT hm hx hF h0
    obtain ⟨F, rfl, hF'⟩ := fuel_s hF
    rw [X5_lookAt_L1, hm, iF (nI_ge (by omega) (by omega)), e_right hL hT hk (by omega)]
    simp only [bs, l0, l1, l2, l3, l4, l5, l6, l7, l8, l9, l10, l12, l15, l30, l31, l32, l40, l42, l48, l57, l60, l64, l98, l99, l100, l109, l110, l112, l115, l265, l1000, l518400, ngd]
    rw [gd_in (by omega) (by omega), nI_clamp (by omega), nI_add]
    have g : ag [40] w (sA w 40 0 (upd (gA w 40 0) x (nI (dg (dr L k) x)))) := (ag.rf _ w).sA (by simp)
    obtain ⟨w', e, a1, a2⟩ := ih (x + 1) F _ (RTS_ag hT g) (by rw [agI g 510 0]; exact hm) (by omega) (by omega) (fun j hj => by
      rw [gA_sA, if_pos ⟨rfl, rfl⟩]
      by_cases q : j = x
      · rw [q, pk_us]
      · rw [pk_un q]; exact h0 j (by omega))
    exact ⟨w', e, g.tr a1, a2⟩
theorem e_mringed_L {N n q : Nat} {L : List (List Nat)} (hN : 1000 ≤ N) (hL : LOk n L) (hq : q < 10) : ∀ (m k c F : Nat) (w : Wd), RTS n L w → gI w 510 0 = nI n → k + m = L.length → m < F → ∃ w', X5_ringed_L1 N (nI q) F (nI c) (nI k) w = some (nI (cnt (fun i => decide (rc (dr L i) = q)) m k c), w') ∧ ag [40] w w' := by
  have hn := hL.1
  have hll := hL.2.1
  intro m
  induction m with
  | zero =>
    intro k c F w hT hm hk hF
    obtain ⟨F, rfl, _⟩ := fuel_s hF
    rw [X5_ringed_L1, hT.1, iT (nI_le (by omega) (by omega)), cnt]
    exact ⟨w, rfl, ag.rf _ _⟩
  | succ m ih =>
    intro k c F w hT hm hk hF
    obtain ⟨F, rfl, hF'⟩ := fuel_s hF
    have hp := LOk_at hL (k := k) (by omega)
    have hrc := rc_le hn hp
    obtain ⟨w1, e1, a1, a2⟩ := e_lookAt_L (N := N) hL (k := k) (by omega) n 0 N w hT hm (by omega) (by omega) (fun j hj => by omega)
    have hm1 : gI w1 510 0 = nI n := by rw [agI a1 510 0]; exact hm
    rw [X5_ringed_L1, hT.1, iF (nI_ge (by omega) (by omega))]
    unfold f_X5_lookAt
    simp only [bs, l0, l1, l2, l3, l4, l5, l6, l7, l8, l9, l10, l12, l15, l30, l31, l32, l40, l42, l48, l57, l60, l64, l98, l99, l100, l109, l110, l112, l115, l265, l1000, l518400, ngd]
    rw [e1]
    simp only [bs, l0, l1, l2, l3, l4, l5, l6, l7, l8, l9, l10, l12, l15, l30, l31, l32, l40, l42, l48, l57, l60, l64, l98, l99, l100, l109, l110, l112, l115, l265, l1000, l518400, ngd]
    rw [e_ringsOf hN hn hp a2 hm1]
    simp only [bs, l0, l1, l2, l3, l4, l5, l6, l7, l8, l9, l10, l12, l15, l30, l31, l32, l40, l42, l48, l57, l60, l64, l98, l99, l100, l109, l110, l112, l115, l265, l1000, l518400, ngd]
    by_cases c1 : rc (dr L k) = q
    · obtain ⟨w', e, b1⟩ := ih (k + 1) (c + 1) F w1 (RTS_ag hT a1) hm1 (by omega) (by omega)
      rw [iT (by rw [c1]), nI_add, nI_add, e, cnt_t (by simp [c1])]
      exact ⟨w', rfl, a1.tr b1⟩
    · obtain ⟨w', e, b1⟩ := ih (k + 1) c F w1 (RTS_ag hT a1) hm1 (by omega) (by omega)
      rw [iF (fun z => c1 ((nI_eq (by omega) (by omega)).mp z)), nI_add, nI_add, Nat.add_zero, e, cnt_f (by simp [c1])]
      exact ⟨w', rfl, a1.tr b1⟩
theorem ok_ringed {N : Nat} (hN : 1000 ≤ N) : Ok_ringed N Inv := fun a1 w hI => by
  obtain ⟨o, H, hW, hT⟩ := hI
  rcases cix a1 (n := 7) (by omega) with h | ⟨q, hq, rfl⟩
  · refine ⟨ng 1, w, w, ?_, ?_, o, H, hW, hT⟩
    · unfold f_X4_ringed; simp only [bs, l0, l1, l2, l3, l4, l5, l6, l7, l8, l9, l10, l12, l15, l30, l31, l32, l40, l42, l48, l57, l60, l64, l98, l99, l100, l109, l110, l112, l115, l265, l1000, l518400, ngd, if_true, if_false, bn0, reduceCtorEq, n10, z1, z3, z0]
      rcases h with h | h
      · rw [iT (neg0 h)]
      · rw [iF (fun q => by have := (clt (n := 0) (by omega)).mp q; omega), iF (fun q => by have := (cle (by omega)).mp q; omega)]
    · unfold f_X5_ringed; simp only [bs, l0, l1, l2, l3, l4, l5, l6, l7, l8, l9, l10, l12, l15, l30, l31, l32, l40, l42, l48, l57, l60, l64, l98, l99, l100, l109, l110, l112, l115, l265, l1000, l518400, ngd, if_true, if_false, bn0, reduceCtorEq, n10, z1, z3, z0]; rw [e_in_f (n := 7) (by omega) h (by decide)]; simp only [bs, l0, l1, l2, l3, l4, l5, l6, l7, l8, l9, l10, l12, l15, l30, l31, l32, l40, l42, l48, l57, l60, l64, l98, l99, l100, l109, l110, l112, l115, l265, l1000, l518400, ngd, if_true, if_false, bn0, reduceCtorEq, n10, z1, z3, z0]
  obtain ⟨wa, ea, u1, u2, hWa⟩ := IW_list (N := N) hN hW
  obtain ⟨h1, h2, h3, h4, h5, h6, h7, h8, h9⟩ := id hWa
  have hn := h1.1
  have hL := LOk_r h1
  have hl := hL.2.1
  have hTa := Itl_ag hT u1
  by_cases c : (rights o).length = 0
  · obtain ⟨w2, e2, b1, b2⟩ := e_setRights (N := N) hN h1 (RM_ag h4 (cref_ag 4 wa))
    refine ⟨ng 3, cref 4 wa, mref 4 w2, ?_, ?_, Inv_ref hWa hTa b1⟩
    · unfold f_X4_ringed; simp only [bs, l0, l1, l2, l3, l4, l5, l6, l7, l8, l9, l10, l12, l15, l30, l31, l32, l40, l42, l48, l57, l60, l64, l98, l99, l100, l109, l110, l112, l115, l265, l1000, l518400, ngd, if_true, if_false, bn0, reduceCtorEq, n10, z1, z3, z0]; rw [iF (nI_nlt (by omega) (by omega)), iT (nI_le (by omega) (by omega)), ea]; simp only [bs, l0, l1, l2, l3, l4, l5, l6, l7, l8, l9, l10, l12, l15, l30, l31, l32, l40, l42, l48, l57, l60, l64, l98, l99, l100, l109, l110, l112, l115, l265, l1000, l518400, ngd, if_true, if_false, bn0, reduceCtorEq, n10, z1, z3, z0]; rw [u2.1, iT (by rw [c]), e_refuse (by omega)]; simp only [bs, l0, l1, l2, l3, l4, l5, l6, l7, l8, l9, l10, l12, l15, l30, l31, l32, l40, l42, l48, l57, l60, l64, l98, l99, l100, l109, l110, l112, l115, l265, l1000, l518400, ngd, if_true, if_false, bn0, reduceCtorEq, n10, z1, z3, z0]
    · unfold f_X5_ringed; simp only [bs, l0, l1, l2, l3, l4, l5, l6, l7, l8, l9, l10, l12, l15, l30, l31, l32, l40, l42, l48, l57, l60, l64, l98, l99, l100, l109, l110, l112, l115, l265, l1000, l518400, ngd, if_true, if_false, bn0, reduceCtorEq, n10, z1, z3, z0]; rw [e_in_t (n := 7) (by omega) hq (by decide)]; simp only [bs, l0, l1, l2, l3, l4, l5, l6, l7, l8, l9, l10, l12, l15, l30, l31, l32, l40, l42, l48, l57, l60, l64, l98, l99, l100, l109, l110, l112, l115, l265, l1000, l518400, ngd, if_true, if_false, bn0, reduceCtorEq, n10, z1, z3, z0]; rw [e2]; simp only [bs, l0, l1, l2, l3, l4, l5, l6, l7, l8, l9, l10, l12, l15, l30, l31, l32, l40, l42, l48, l57, l60, l64, l98, l99, l100, l109, l110, l112, l115, l265, l1000, l518400, ngd, if_true, if_false, bn0, reduceCtorEq, n10, z1, z3, z0]; rw [b2.1, iT (by rw [c]), e_meet (by omega)]; simp only [bs, l0, l1, l2, l3, l4, l5, l6, l7, l8, l9, l10, l12, l15, l30, l31, l32, l40, l42, l48, l57, l60, l64, l98, l99, l100, l109, l110, l112, l115, l265, l1000, l518400, ngd, if_true, if_false, bn0, reduceCtorEq, n10, z1, z3, z0]
  · have c' : ¬ nI (rights o).length = nI 0 := fun q => c ((nI_eq (by omega) (by omega)).mp q)
    obtain ⟨so, hso⟩ : ∃ so, so = cnt (fun i => decide (rc (dr (rights o) i) = q)) (rights o).length 0 0 := ⟨_, rfl⟩
    have hsl : so ≤ 265 := by have := cnt_le (fun i => decide (rc (dr (rights o) i) = q)) (rights o).length 0 0; omega
    obtain ⟨u, hu⟩ : ∃ u, u = lN (so / Nat.gcd so (rights o).length) := ⟨_, rfl⟩
    obtain ⟨l, hl9⟩ : ∃ l, l = lN ((rights o).length / Nat.gcd so (rights o).length) := ⟨_, rfl⟩
    have g1 : ag [413, 414] wa (sL (sL wa 413 0 u) 414 0 l) := ((ag.rf _ wa).sL (by simp)).sL (by simp)
    have h4c := RM_ag h4 g1
    obtain ⟨w2, e2, b1, b2⟩ := e_setRights (N := N) hN h1 h4c
    obtain ⟨w3, e3, d1⟩ := e_mringed_L (N := N) (q := q) hN hL (by omega) (rights o).length 0 0 N w2 b2 (RM_ag h4c b1).1 (by omega) (by omega)
    have b2' := RTS_ag b2 d1
    refine ⟨nI so, sL (sL wa 413 0 u) 414 0 l, sL (sL w3 503 0 u) 504 0 l, ?_, ?_, Inv_frac hWa hTa ((b1.mono (by decide)).tr (d1.mono (by decide)) : ag SR _ w3)⟩
    · unfold f_X4_ringed; simp only [bs, l0, l1, l2, l3, l4, l5, l6, l7, l8, l9, l10, l12, l15, l30, l31, l32, l40, l42, l48, l57, l60, l64, l98, l99, l100, l109, l110, l112, l115, l265, l1000, l518400, ngd, if_true, if_false, bn0, reduceCtorEq, n10, z1, z3, z0]; rw [iF (nI_nlt (by omega) (by omega)), iT (nI_le (by omega) (by omega)), ea]; simp only [bs, l0, l1, l2, l3, l4, l5, l6, l7, l8, l9, l10, l12, l15, l30, l31, l32, l40, l42, l48, l57, l60, l64, l98, l99, l100, l109, l110, l112, l115, l265, l1000, l518400, ngd, if_true, if_false, bn0, reduceCtorEq, n10, z1, z3, z0]; rw [u2.1, iF c', e_ringed_L hN hL u2 h3.1 (by omega) (rights o).length 0 0 N (by omega) (by omega), ← hso]; simp only [bs, l0, l1, l2, l3, l4, l5, l6, l7, l8, l9, l10, l12, l15, l30, l31, l32, l40, l42, l48, l57, l60, l64, l98, l99, l100, l109, l110, l112, l115, l265, l1000, l518400, ngd, if_true, if_false, bn0, reduceCtorEq, n10, z1, z3, z0]; rw [u2.1, e_tellFraction hN (by omega) (by omega) (by omega), ← hu, ← hl9]; simp only [bs, l0, l1, l2, l3, l4, l5, l6, l7, l8, l9, l10, l12, l15, l30, l31, l32, l40, l42, l48, l57, l60, l64, l98, l99, l100, l109, l110, l112, l115, l265, l1000, l518400, ngd, if_true, if_false, bn0, reduceCtorEq, n10, z1, z3, z0]
    · unfold f_X5_ringed; simp only [bs, l0, l1, l2, l3, l4, l5, l6, l7, l8, l9, l10, l12, l15, l30, l31, l32, l40, l42, l48, l57, l60, l64, l98, l99, l100, l109, l110, l112, l115, l265, l1000, l518400, ngd, if_true, if_false, bn0, reduceCtorEq, n10, z1, z3, z0]; rw [e_in_t (n := 7) (by omega) hq (by decide)]; simp only [bs, l0, l1, l2, l3, l4, l5, l6, l7, l8, l9, l10, l12, l15, l30, l31, l32, l40, l42, l48, l57, l60, l64, l98, l99, l100, l109, l110, l112, l115, l265, l1000, l518400, ngd, if_true, if_false, bn0, reduceCtorEq, n10, z1, z3, z0]; rw [e2]; simp only [bs, l0, l1, l2, l3, l4, l5, l6, l7, l8, l9, l10, l12, l15, l30, l31, l32, l40, l42, l48, l57, l60, l64, l98, l99, l100, l109, l110, l112, l115, l265, l1000, l518400, ngd, if_true, if_false, bn0, reduceCtorEq, n10, z1, z3, z0]; rw [b2.1, iF c', e3, ← hso]; simp only [bs, l0, l1, l2, l3, l4, l5, l6, l7, l8, l9, l10, l12, l15, l30, l31, l32, l40, l42, l48, l57, l60, l64, l98, l99, l100, l109, l110, l112, l115, l265, l1000, l518400, ngd, if_true, if_false, bn0, reduceCtorEq, n10, z1, z3, z0]; rw [b2'.1, nI_l (by omega), nI_l (by omega), e_part hN (by omega) (by omega) (by omega), ← hu, ← hl9]; simp only [bs, l0, l1, l2, l3, l4, l5, l6, l7, l8, l9, l10, l12, l15, l30, l31, l32, l40, l42, l48, l57, l60, l64, l98, l99, l100, l109, l110, l112, l115, l265, l1000, l518400, ngd, if_true, if_false, bn0, reduceCtorEq, n10, z1, z3, z0]
/-! even -/
def adf (a b : Nat) : Nat := if b ≤ a then a - b else b - a
theorem adf_c : ∀ a, a < 10 → ∀ b, b < 10 → (if nI 0 ≤ nI a - nI b then nI a - nI b else nI 0 - (nI a - nI b)) = nI (adf a b) := by decide +kernel
theorem adf_m : ∀ a, a < 10 → ∀ b, b < 10 → (nI 0 ≤ nI a - nI b → nI a - nI b = nI (adf a b)) ∧ (¬ nI 0 ≤ nI a - nI b → -(nI a - nI b) = nI (adf a b)) := by decide +kernel
theorem adf_le {a b : Nat} (ha : a ≤ 9) (hb : b ≤ 9) : adf a b ≤ 9 := by unfold adf; split <;> omega
def gdf (o : Of) (d : List Nat) : Nat → Nat → Nat → Nat
  | 0, _, c => c
  | m + 1, k, c => gdf o d m (k + 1) (if c < adf (oW o k) (oW o (dg d k)) then adf (oW o k) (oW o (dg d k)) else c)
theorem gdf_le {o : Of} {d : List Nat} (hf : Wf o) (hd : Pm (oN o) d) : ∀ (m k c : Nat), k + m = oN o → c ≤ 9 → gdf o d m k c ≤ 9 := by
  intro m
  induction m with
  | zero => intro k c _ hc; exact hc
  | succ m ih =>
    intro k c hk hc
    rw [gdf]
    refine ih _ _ (by omega) ?_
    have := adf_le (hf.2.2.1 k (by omega)).2.2 (hf.2.2.1 _ (Pm_dg hd (x := k) (by omega))).2.2
    split <;> omega
def evn (o : Of) (d : List Nat) : Nat := gdf o d (oN o) 0 0
theorem evn_le {o : Of} {d : List Nat} (hf : Wf o) (hd : Pm (oN o) d) : evn o d ≤ 9 := gdf_le hf hd _ _ _ (by omega) (by omega)
theorem e_grt_L {N : Nat} {o : Of} {d : List Nat} {w : Wd} (h : RO 0 o w) (hf : Wf o) (hd : Pm (oN o) d) : ∀ (m k c F : Nat), k + m = oN o → m < F → c ≤ 9 → X0_greatestDifference_L1 N 0 (nI (cd d)) F (nI c) (nI k) w = some (nI (gdf o d m k c), w) := by
  have hn := hf.1
  have hcd := Pm_cd hd hn
  intro m
  induction m with
  | zero =>
    intro k c F hk hF hc
    obtain ⟨F, rfl, _⟩ := fuel_s hF
    rw [X0_greatestDifference_L1, h.1, iT (nI_le (by omega) (by omega)), gdf]
  | succ m ih =>
    intro k c F hk hF hc
    obtain ⟨F, rfl, hF'⟩ := fuel_s hF
    have hlt := Pm_dg hd (x := k) (by omega)
    have hw1 := (hf.2.2.1 k (by omega)).2.2
    have hw2 := (hf.2.2.1 _ hlt).2.2
    have ha := adf_le hw1 hw2
    rw [X0_greatestDifference_L1, h.1, iF (nI_ge (by omega) (by omega)), gd_in (by omega) (by omega), nI_clamp (by omega), e_paper (by omega) (by omega), Pm_pp hd hn, gdf]
    simp only [bs, l0, l1, l2, l3, l4, l5, l6, l7, l8, l9, l10, l12, l15, l30, l31, l32, l40, l42, l48, l57, l60, l64, l98, l99, l100, l109, l110, l112, l115, l265, l1000, l518400, ngd]
    rw [gd_in (by omega) (by omega), nI_clamp (by omega), (h.2.2.2.1 k (by omega)).2.2, (h.2.2.2.1 _ hlt).2.2, adf_c _ (by omega) _ (by omega), nI_add]
    by_cases c1 : c < adf (oW o k) (oW o (dg d k))
    · rw [iT (nI_lt c1 (by omega)), ih (k + 1) _ F (by omega) (by omega) ha, if_pos c1]
    · rw [iF (nI_nlt (by omega) (by omega)), ih (k + 1) _ F (by omega) (by omega) hc, if_neg c1]
theorem e_grt {N : Nat} {o : Of} {d : List Nat} {w : Wd} (hN : 1000 ≤ N) (h : RO 0 o w) (hf : Wf o) (hd : Pm (oN o) d) : f_X0_greatestDifference N 0 (nI (cd d)) w = some (nI (evn o d), w) := by
  have hn := hf.1
  unfold f_X0_greatestDifference
  simp only [bs, l0, l1, l2, l3, l4, l5, l6, l7, l8, l9, l10, l12, l15, l30, l31, l32, l40, l42, l48, l57, l60, l64, l98, l99, l100, l109, l110, l112, l115, l265, l1000, l518400, ngd]
  rw [e_grt_L h hf hd (oN o) 0 0 N (by omega) (by omega) (by omega)]; simp only [bs, l0, l1, l2, l3, l4, l5, l6, l7, l8, l9, l10, l12, l15, l30, l31, l32, l40, l42, l48, l57, l60, l64, l98, l99, l100, l109, l110, l112, l115, l265, l1000, l518400, ngd]; rfl
theorem e_even_L2 {N k : Nat} {x1 x2 x3 : Int32} {o : Of} {L : List (List Nat)} {w : Wd} (hR : RM o w) (hf : Wf o) (hL : LOk (oN o) L) (hT : RTS (oN o) L w) (hk : k < L.length) : ∀ (m x c F : Nat), x + m = oN o → m < F → c ≤ 9 → X5_even_L2 N x1 x2 x3 (nI k) F (nI c) (nI x) w = some (nI (gdf o (dr L k) m x c), w) := by
  have hn := hf.1
  have hd := LOk_at hL hk
  intro m
  induction m with
  | zero =>
    intro x c F hx hF hc
    obtain ⟨F, rfl, _⟩ := fuel_s hF
    rw [X5_even_L2, hR.1, iT (nI_le (by omega) (by omega)), gdf]
  | succ m ih =>
    intro x c F hx hF hc
    obtain ⟨F, rfl, hF'⟩ := fuel_s hF
    have hlt := Pm_dg hd (x := x) (by omega)
    have hw1 := (hf.2.2.1 x (by omega)).2.2
    have hw2 := (hf.2.2.1 _ hlt).2.2
    have ha := adf_le hw1 hw2
    obtain ⟨am1, am2⟩ := adf_m _ (show oW o x < 10 by omega) _ (show oW o (dg (dr L k) x) < 10 by omega)
    rw [X5_even_L2, hR.1, iF (nI_ge (by omega) (by omega)), gd_in (by omega) (by omega), nI_clamp (by omega), e_right hL hT hk (by omega), gdf]
    simp only [bs, l0, l1, l2, l3, l4, l5, l6, l7, l8, l9, l10, l12, l15, l30, l31, l32, l40, l42, l48, l57, l60, l64, l98, l99, l100, l109, l110, l112, l115, l265, l1000, l518400, ngd]
    rw [gd_in (by omega) (by omega), nI_clamp (by omega), (hR.2.2.2.1 x (by omega)).2.2, (hR.2.2.2.1 _ hlt).2.2]
    unfold X5_even_J82
    simp only [bs, l0, l1, l2, l3, l4, l5, l6, l7, l8, l9, l10, l12, l15, l30, l31, l32, l40, l42, l48, l57, l60, l64, l98, l99, l100, l109, l110, l112, l115, l265, l1000, l518400, ngd]
    by_cases c0 : nI 0 ≤ nI (oW o x) - nI (oW o (dg (dr L k) x))
    · rw [iT c0, am1 c0, nI_add]
      by_cases c1 : c < adf (oW o x) (oW o (dg (dr L k) x))
      · rw [iF (nI_ge c1 (by omega)), ih (x + 1) _ F (by omega) (by omega) ha, if_pos c1]
      · rw [iT (nI_le (by omega) (by omega)), ih (x + 1) _ F (by omega) (by omega) hc, if_neg c1]
    · rw [iF c0, am2 c0, nI_add]
      by_cases c1 : c < adf (oW o x) (oW o (dg (dr L k) x))
      · rw [iF (nI_ge c1 (by omega)), ih (x + 1) _ F (by omega) (by omega) ha, if_pos c1]
      · rw [iT (nI_le (by omega) (by omega)), ih (x + 1) _ F (by omega) (by omega) hc, if_neg c1]
def evf (f : Nat → Nat) : Nat → Nat → Option Nat → Nat → Option Nat × Nat
  | 0, _, b, l => (b, l)
  | m + 1, k, b, l => if l ≤ f k then evf f m (k + 1) b l else evf f m (k + 1) (some k) (f k)
theorem evf_some {f : Nat → Nat} : ∀ (m k : Nat) (b : Option Nat) (l : Nat), (∀ z, b = some z → z < k) → ∀ z, (evf f m k b l).1 = some z → z < k + m := by
  intro m
  induction m with
  | zero => intro k b l h z e; exact h z e
  | succ m ih =>
    intro k b l h z e
    rw [evf] at e
    by_cases c : l ≤ f k
    · rw [if_pos c] at e
      have := ih (k + 1) b l (fun z e => by have := h z e; omega) z e; omega
    · rw [if_neg c] at e
      have := ih (k + 1) (some k) (f k) (fun z e => by obtain rfl := Option.some.inj e; omega) z e; omega
theorem evf_100 {f : Nat → Nat} (h : ∀ k, f k ≤ 9) (m k : Nat) : (evf f m k none 10).1 = (evf f m k none 100).1 ∧ ((evf f m k none 10).1 ≠ none → (evf f m k none 10).2 = (evf f m k none 100).2) := by
  cases m with
  | zero => exact ⟨rfl, fun q => absurd rfl q⟩
  | succ m =>
    have := h k
    rw [evf, evf, if_neg (by omega), if_neg (by omega)]
    exact ⟨rfl, fun _ => rfl⟩
theorem e_even_L {N : Nat} {x1 : Int32} {o : Of} {L : List (List Nat)} {w : Wd} (hN : 1000 ≤ N) (h : RO 0 o w) (hf : Wf o) (hL : LOk (oN o) L) (hC : RTC 0 L w) : ∀ (m k l F : Nat) (b : Option Nat), k + m = L.length → m < F → l < 1000 → X4_even_L1 N x1 F (oi b) (nI l) (nI k) w = some (oi (evf (fun i => evn o (dr L i)) m k b l).1, nI (evf (fun i => evn o (dr L i)) m k b l).2, w) := by
  have hn := hf.1
  have hll := hL.2.1
  intro m
  induction m with
  | zero =>
    intro k l F b hk hF hl
    obtain ⟨F, rfl, _⟩ := fuel_s hF
    rw [X4_even_L1, hC.1, iT (nI_le (by omega) (by omega)), evf]
  | succ m ih =>
    intro k l F b hk hF hl
    obtain ⟨F, rfl, hF'⟩ := fuel_s hF
    have hd := LOk_at hL (k := k) (by omega)
    have he := evn_le hf hd
    rw [X4_even_L1, hC.1, iF (nI_ge (by omega) (by omega)), gd_in (by omega) (by omega), nI_clamp (by omega), hC.2 k (by omega), e_grt hN h hf hd, evf]
    simp only [bs, l0, l1, l2, l3, l4, l5, l6, l7, l8, l9, l10, l12, l15, l30, l31, l32, l40, l42, l48, l57, l60, l64, l98, l99, l100, l109, l110, l112, l115, l265, l1000, l518400, ngd]
    by_cases c : l ≤ evn o (dr L k)
    · rw [iT (nI_le c (by omega)), nI_add, ih (k + 1) l F b (by omega) (by omega) hl, if_pos c]
    · rw [iF (nI_ge (by omega) (by omega)), nI_add, show nI k = oi (some k) from rfl, ih (k + 1) _ F (some k) (by omega) (by omega) (by omega), if_neg c]
theorem e_meven_L {N : Nat} {x1 : Int32} {o : Of} {L : List (List Nat)} {w : Wd} (hN : 1000 ≤ N) (hR : RM o w) (hf : Wf o) (hL : LOk (oN o) L) (hT : RTS (oN o) L w) : ∀ (m k l F : Nat) (b : Option Nat), k + m = L.length → m < F → l < 1000 → X5_even_L1 N x1 F (oi b) (nI l) (nI k) w = some (oi (evf (fun i => evn o (dr L i)) m k b l).1, nI (evf (fun i => evn o (dr L i)) m k b l).2, w) := by
  have hn := hf.1
  have hll := hL.2.1
  intro m
  induction m with
  | zero =>
    intro k l F b hk hF hl
    obtain ⟨F, rfl, _⟩ := fuel_s hF
    rw [X5_even_L1, hT.1, iT (nI_le (by omega) (by omega)), evf]
  | succ m ih =>
    intro k l F b hk hF hl
    obtain ⟨F, rfl, hF'⟩ := fuel_s hF
    have hd := LOk_at hL (k := k) (by omega)
    have he := evn_le hf hd
    rw [X5_even_L1, hT.1, iF (nI_ge (by omega) (by omega)), evf]
    simp only [bs, l0, l1, l2, l3, l4, l5, l6, l7, l8, l9, l10, l12, l15, l30, l31, l32, l40, l42, l48, l57, l60, l64, l98, l99, l100, l109, l110, l112, l115, l265, l1000, l518400, ngd]
    rw [e_even_L2 hR hf hL hT (by omega) (oN o) 0 0 N (by omega) (by omega) (by omega)]
    unfold X5_even_J118
    simp only [bs, l0, l1, l2, l3, l4, l5, l6, l7, l8, l9, l10, l12, l15, l30, l31, l32, l40, l42, l48, l57, l60, l64, l98, l99, l100, l109, l110, l112, l115, l265, l1000, l518400, ngd]
    rw [show gdf o (dr L k) (oN o) 0 0 = evn o (dr L k) from rfl]
    by_cases c : l ≤ evn o (dr L k)
    · rw [iT (nI_le c (by omega)), iT (nI_le c (by omega)), nI_add, ih (k + 1) l F b (by omega) (by omega) hl, if_pos c]
    · rw [iF (nI_ge (by omega) (by omega)), iF (nI_ge (by omega) (by omega)), nI_add, show nI k = oi (some k) from rfl, ih (k + 1) _ F (some k) (by omega) (by omega) (by omega), if_neg c]
theorem ok_even {N : Nat} (hN : 1000 ≤ N) : Ok_even N Inv := fun a1 w hI => by
  obtain ⟨o, H, hW, hT⟩ := hI
  rcases cix a1 (n := 6) (by omega) with h | ⟨r, hr, rfl⟩
  · refine ⟨ng 1, w, w, ?_, ?_, o, H, hW, hT⟩
    · unfold f_X4_even; rw [e_isRow_f h]; simp only [bs, l0, l1, l2, l3, l4, l5, l6, l7, l8, l9, l10, l12, l15, l30, l31, l32, l40, l42, l48, l57, l60, l64, l98, l99, l100, l109, l110, l112, l115, l265, l1000, l518400, ngd, if_true, if_false, bn0, reduceCtorEq, n10, z1, z3, z0]
    · unfold f_X5_even; rw [e_misRow_f h]; simp only [bs, l0, l1, l2, l3, l4, l5, l6, l7, l8, l9, l10, l12, l15, l30, l31, l32, l40, l42, l48, l57, l60, l64, l98, l99, l100, l109, l110, l112, l115, l265, l1000, l518400, ngd, if_true, if_false, bn0, reduceCtorEq, n10, z1, z3, z0]
  obtain ⟨wa, ea, u1, u2, hWa⟩ := IW_list (N := N) hN hW
  obtain ⟨h1, h2, h3, h4, h5, h6, h7, h8, h9⟩ := id hWa
  have hn := h1.1
  have hL := LOk_r h1
  have hl := hL.2.1
  have hTa := Itl_ag hT u1
  have he9 : ∀ k, (if k < (rights o).length then evn o (dr (rights o) k) else 0) ≤ 9 := fun k => by
    split
    · rename_i q; exact evn_le h1 (LOk_at hL q)
    · omega
  -- the two searches
  have evc : ∀ (m k l : Nat) (b : Option Nat), k + m ≤ (rights o).length → evf (fun i => evn o (dr (rights o) i)) m k b l = evf (fun k => if k < (rights o).length then evn o (dr (rights o) k) else 0) m k b l := by
    intro m
    induction m with
    | zero => intro k l b _; rfl
    | succ m ih =>
      intro k l b hk
      rw [evf, evf, if_pos (show k < (rights o).length by omega), ih (k + 1) _ _ (by omega), ih (k + 1) _ _ (by omega)]
  obtain ⟨q1, q2⟩ := evf_100 he9 (rights o).length 0
  rw [← evc _ _ _ _ (by omega), ← evc _ _ _ _ (by omega)] at q1 q2
  have q3 := evf_some (f := fun i => evn o (dr (rights o) i)) (rights o).length 0 none 10 (fun z e => by cases e)
  have ec := e_even_L (N := N) (x1 := nI r) (w := wa) hN h3 h1 hL u2 (rights o).length 0 10 N none (by omega) (by omega) (by omega)
  rw [show oi none = ng 9 from rfl] at ec
  cases hb : (evf (fun i => evn o (dr (rights o) i)) (rights o).length 0 none 10).1 with
  | none =>
    obtain ⟨w2, e2, b1, b2⟩ := e_setRights (N := N) hN h1 h4
    have em := e_meven_L (N := N) (x1 := nI r) (w := w2) hN (RM_ag h4 b1) h1 hL b2 (rights o).length 0 100 N none (by omega) (by omega) (by omega)
    rw [show oi none = ng 9 from rfl, ← q1, hb] at em
    refine ⟨ng 9, wa, w2, ?_, ?_, o, H, IW_ag hWa b1, Itl_ag hTa b1⟩
    · unfold f_X4_even; rw [e_isRow_t hr]; simp only [bs, l0, l1, l2, l3, l4, l5, l6, l7, l8, l9, l10, l12, l15, l30, l31, l32, l40, l42, l48, l57, l60, l64, l98, l99, l100, l109, l110, l112, l115, l265, l1000, l518400, ngd, if_true, if_false, bn0, reduceCtorEq, n10, z1, z3, z0]; rw [ea]; simp only [bs, l0, l1, l2, l3, l4, l5, l6, l7, l8, l9, l10, l12, l15, l30, l31, l32, l40, l42, l48, l57, l60, l64, l98, l99, l100, l109, l110, l112, l115, l265, l1000, l518400, ngd, if_true, if_false, bn0, reduceCtorEq, n10, z1, z3, z0]; rw [ec, hb]; simp only [bs, l0, l1, l2, l3, l4, l5, l6, l7, l8, l9, l10, l12, l15, l30, l31, l32, l40, l42, l48, l57, l60, l64, l98, l99, l100, l109, l110, l112, l115, l265, l1000, l518400, ngd, if_true, if_false, bn0, reduceCtorEq, n10, z1, z3, z0]; rw [iT (show oi none = ng 9 from rfl)]
    · unfold f_X5_even; rw [e_misRow_t hr]; simp only [bs, l0, l1, l2, l3, l4, l5, l6, l7, l8, l9, l10, l12, l15, l30, l31, l32, l40, l42, l48, l57, l60, l64, l98, l99, l100, l109, l110, l112, l115, l265, l1000, l518400, ngd, if_true, if_false, bn0, reduceCtorEq, n10, z1, z3, z0]; rw [e2]; simp only [bs, l0, l1, l2, l3, l4, l5, l6, l7, l8, l9, l10, l12, l15, l30, l31, l32, l40, l42, l48, l57, l60, l64, l98, l99, l100, l109, l110, l112, l115, l265, l1000, l518400, ngd, if_true, if_false, bn0, reduceCtorEq, n10, z1, z3, z0]; rw [em]; simp only [bs, l0, l1, l2, l3, l4, l5, l6, l7, l8, l9, l10, l12, l15, l30, l31, l32, l40, l42, l48, l57, l60, l64, l98, l99, l100, l109, l110, l112, l115, l265, l1000, l518400, ngd, if_true, if_false, bn0, reduceCtorEq, n10, z1, z3, z0]; rw [iT (show oi none = ng 9 from rfl)]
  | some k =>
    have hk : k < (rights o).length := by have := q3 k hb; omega
    obtain ⟨v, hv⟩ : ∃ v, v = nI (evf (fun i => evn o (dr (rights o) i)) (rights o).length 0 none 10).2 := ⟨_, rfl⟩
    obtain ⟨w1, e1, c1, c2, c3, c4⟩ := e_layD (N := N) hN h1 hr h3.1 (LOk_at hL hk)
    have hR1 : RM o w1 := RM_ag h4 c1 (fun k hk => by simp only [List.mem_cons, List.not_mem_nil, or_false] at hk ⊢; omega)
    obtain ⟨w2, e2, b1, b2⟩ := e_setRights (N := N) hN h1 hR1
    have em := e_meven_L (N := N) (x1 := nI r) (w := w2) hN (RM_ag hR1 b1) h1 hL b2 (rights o).length 0 100 N none (by omega) (by omega) (by omega)
    rw [show oi none = ng 9 from rfl, ← q1, ← q2 (by rw [hb]; simp), hb, ← hv] at em
    rw [hb, ← hv] at ec
    obtain ⟨w3, e3, d1, d2, d3, d4, d5⟩ := e_layR (N := N) (r := r) hN hL hr hk b2 (RM_ag hR1 b1).1
    have m1 : ag ([40, 41, 520, 522, 523, 31, 32, 526, 530] : List Nat) w1 w3 := (b1.mono (by decide)).tr (d1.mono (by decide))
    have k9 : ¬ oi (some k) = ng 9 := by show ¬ nI k = ng 9; rw [nI_ng (by omega) (by omega) (by omega)]; simp
    refine ⟨v, w1, w3, ?_, ?_, o, H, IW_lay hWa hr c1 c2 c3 c4 m1 ?_ d3 d4 (fun j hj => ?_), lay_tl hTa hr c1 m1⟩
    · unfold f_X4_even; rw [e_isRow_t hr]; simp only [bs, l0, l1, l2, l3, l4, l5, l6, l7, l8, l9, l10, l12, l15, l30, l31, l32, l40, l42, l48, l57, l60, l64, l98, l99, l100, l109, l110, l112, l115, l265, l1000, l518400, ngd, if_true, if_false, bn0, reduceCtorEq, n10, z1, z3, z0]; rw [ea]; simp only [bs, l0, l1, l2, l3, l4, l5, l6, l7, l8, l9, l10, l12, l15, l30, l31, l32, l40, l42, l48, l57, l60, l64, l98, l99, l100, l109, l110, l112, l115, l265, l1000, l518400, ngd, if_true, if_false, bn0, reduceCtorEq, n10, z1, z3, z0]; rw [ec]; simp only [bs, l0, l1, l2, l3, l4, l5, l6, l7, l8, l9, l10, l12, l15, l30, l31, l32, l40, l42, l48, l57, l60, l64, l98, l99, l100, l109, l110, l112, l115, l265, l1000, l518400, ngd, if_true, if_false, bn0, reduceCtorEq, n10, z1, z3, z0]; rw [iF k9, show oi (some k) = nI k from rfl, gd_in (by omega) (by omega), nI_clamp (by omega), u2.2 k hk, e1]; simp only [bs, l0, l1, l2, l3, l4, l5, l6, l7, l8, l9, l10, l12, l15, l30, l31, l32, l40, l42, l48, l57, l60, l64, l98, l99, l100, l109, l110, l112, l115, l265, l1000, l518400, ngd, if_true, if_false, bn0, reduceCtorEq, n10, z1, z3, z0]
    · unfold f_X5_even; rw [e_misRow_t hr]; simp only [bs, l0, l1, l2, l3, l4, l5, l6, l7, l8, l9, l10, l12, l15, l30, l31, l32, l40, l42, l48, l57, l60, l64, l98, l99, l100, l109, l110, l112, l115, l265, l1000, l518400, ngd, if_true, if_false, bn0, reduceCtorEq, n10, z1, z3, z0]; rw [e2]; simp only [bs, l0, l1, l2, l3, l4, l5, l6, l7, l8, l9, l10, l12, l15, l30, l31, l32, l40, l42, l48, l57, l60, l64, l98, l99, l100, l109, l110, l112, l115, l265, l1000, l518400, ngd, if_true, if_false, bn0, reduceCtorEq, n10, z1, z3, z0]; rw [em]; simp only [bs, l0, l1, l2, l3, l4, l5, l6, l7, l8, l9, l10, l12, l15, l30, l31, l32, l40, l42, l48, l57, l60, l64, l98, l99, l100, l109, l110, l112, l115, l265, l1000, l518400, ngd, if_true, if_false, bn0, reduceCtorEq, n10, z1, z3, z0]; rw [iF k9, show oi (some k) = nI k from rfl, e3]; simp only [bs, l0, l1, l2, l3, l4, l5, l6, l7, l8, l9, l10, l12, l15, l30, l31, l32, l40, l42, l48, l57, l60, l64, l98, l99, l100, l109, l110, l112, l115, l265, l1000, l518400, ngd, if_true, if_false, bn0, reduceCtorEq, n10, z1, z3, z0]
    · rw [d2, agA b1 31 0, c1.2.2 31 0 (by simp; omega) (by decide)]
    · rw [d5 j hj, agA b1 32 0, c1.2.2 32 0 (by simp; omega) (by decide)]
