/-! still -/
def wo (s k : Nat) : Nat := s &&& (1 <<< k ^^^ 4294967295)
theorem wo_lt {s k : Nat} (hs : s < 64) : wo s k < 64 := Nat.lt_of_le_of_lt Nat.and_le_left hs
def stf (n s : Nat) (L : List (List Nat)) (d : List Nat) : Nat → Nat → Option Nat → Nat → Option Nat × Nat
  | 0, _, b, l => (b, l)
  | m + 1, k, b, l => if s.testBit k = true then (if fitc n (wo s k) L d ≤ l then stf n s L d m (k + 1) b l else stf n s L d m (k + 1) (some k) (fitc n (wo s k) L d)) else stf n s L d m (k + 1) b l
theorem e_still_L {N n s : Nat} {L : List (List Nat)} {d : List Nat} {w : Wd} (hN : 1000 ≤ N) (hL : LOk n L) (h : RTC 0 L w) (hm : gI w 4 0 = nI n) (hd : Pm n d) (hs : s < 64) : ∀ (m k l F : Nat) (b : Option Nat), k + m = n → m < F → l ≤ 265 → X4_still_L1 N (nI s) (nI (cd d)) F (oi b) (nI l) (nI k) w = some (oi (stf n s L d m k b l).1, nI (stf n s L d m k b l).2, w) := by
  have hn := hL.1
  have hll := hL.2.1
  intro m
  induction m with
  | zero =>
    intro k l F b hk hF hl
    obtain ⟨F, rfl, _⟩ := fuel_s hF
    rw [X4_still_L1, hm, iT (nI_le (by omega) (by omega)), stf]
  | succ m ih =>
    intro k l F b hk hF hl
    obtain ⟨F, rfl, hF'⟩ := fuel_s hF
    rw [X4_still_L1, hm, iF (nI_ge (by omega) (by omega)), stf]
    simp only [bs, l0, l1, l2, l3, l4, l5, l6, l7, l8, l9, l10, l12, l15, l30, l31, l32, l40, l42, l48, l57, l60, l64, l98, l99, l100, l109, l110, l112, l115, l265, l1000, l518400, ngd]
    rw [nI_add]
    cases e : s.testBit k with
    | false => rw [iT (by rw [bit0c (by omega) (by omega), e]), ih (k + 1) l F b (by omega) (by omega) hl]; simp
    | true =>
      have hc := fitc_le n (wo s k) L d
      rw [iF (by rw [bit0c (by omega) (by omega), e]; simp), shl1c (by omega), notc, nx_and, show s &&& (1 <<< k ^^^ 4294967295) = wo s k from rfl, e_papersOf hN hn hm (wo_lt hs), if_pos rfl]
      simp only [bs, l0, l1, l2, l3, l4, l5, l6, l7, l8, l9, l10, l12, l15, l30, l31, l32, l40, l42, l48, l57, l60, l64, l98, l99, l100, l109, l110, l112, l115, l265, l1000, l518400, ngd]
      rw [e_fitS hN hL h hd]
      simp only [bs, l0, l1, l2, l3, l4, l5, l6, l7, l8, l9, l10, l12, l15, l30, l31, l32, l40, l42, l48, l57, l60, l64, l98, l99, l100, l109, l110, l112, l115, l265, l1000, l518400, ngd]
      by_cases c : fitc n (wo s k) L d ≤ l
      · rw [iT (nI_le c (by omega)), ih (k + 1) l F b (by omega) (by omega) hl, if_pos c]
      · rw [iF (nI_ge (by omega) (by omega)), show nI k = oi (some k) from rfl, ih (k + 1) _ F (some k) (by omega) (by omega) (by omega), if_neg c]
theorem e_mstill_L {N n r s : Nat} {L : List (List Nat)} {d : List Nat} (hN : 1000 ≤ N) (hL : LOk n L) (hr : r < 6) (hd : Pm n d) (hs : s < 64) : ∀ (m k l F : Nat) (b : Option Nat) (w : Wd), RTS n L w → gI w 510 0 = nI n → (∀ x, x < n → gA w 32 0 (40 * r + x) = nI (dg d x)) → k + m = n → m < F → l ≤ 265 → ∃ w', X5_still_L1 N (nI r) (nI s) F (oi b) (nI l) (nI k) w = some (oi (stf n s L d m k b l).1, nI (stf n s L d m k b l).2, w') ∧ ag [530] w w' := by
  have hn := hL.1
  have hll := hL.2.1
  intro m
  induction m with
  | zero =>
    intro k l F b w hT hm hc hk hF hl
    obtain ⟨F, rfl, _⟩ := fuel_s hF
    rw [X5_still_L1, hm, iT (nI_le (by omega) (by omega)), stf]
    exact ⟨w, rfl, ag.rf _ _⟩
  | succ m ih =>
    intro k l F b w hT hm hc hk hF hl
    obtain ⟨F, rfl, hF'⟩ := fuel_s hF
    rw [X5_still_L1, hm, iF (nI_ge (by omega) (by omega)), e_has (by omega) (by omega), stf]
    unfold X5_still_J71
    simp only [bs, l0, l1, l2, l3, l4, l5, l6, l7, l8, l9, l10, l12, l15, l30, l31, l32, l40, l42, l48, l57, l60, l64, l98, l99, l100, l109, l110, l112, l115, l265, l1000, l518400, ngd]
    rw [nI_add]
    cases e : s.testBit k with
    | false =>
      obtain ⟨w', e1, a1⟩ := ih (k + 1) l F b w hT hm hc (by omega) (by omega) hl
      rw [iT bnFc, e1]
      exact ⟨w', by simp, a1⟩
    | true =>
      have hfc := fitc_le n (wo s k) L d
      obtain ⟨w1, e1, b1, b2⟩ := e_knownOf (N := N) hN hL hr hd (wo_lt (k := k) hs) hT hm hc
      have hT1 := RTS_ag hT b1
      have hm1 : gI w1 510 0 = nI n := by rw [agI b1 510 0]; exact hm
      have hc1 : ∀ x, x < n → gA w1 32 0 (40 * r + x) = nI (dg d x) := by rw [agA b1 32 0]; exact hc
      rw [iF bnTc, shl1c (by omega), notc, nx_and, show s &&& (1 <<< k ^^^ 4294967295) = wo s k from rfl, e1, if_pos rfl]
      simp only [bs, l0, l1, l2, l3, l4, l5, l6, l7, l8, l9, l10, l12, l15, l30, l31, l32, l40, l42, l48, l57, l60, l64, l98, l99, l100, l109, l110, l112, l115, l265, l1000, l518400, ngd]
      rw [b2]
      by_cases c : fitc n (wo s k) L d ≤ l
      · obtain ⟨w', e2, a1⟩ := ih (k + 1) l F b w1 hT1 hm1 hc1 (by omega) (by omega) hl
        rw [iT (nI_le c (by omega)), iT (nI_le c (by omega)), e2, if_pos c]
        exact ⟨w', rfl, b1.tr a1⟩
      · obtain ⟨w', e2, a1⟩ := ih (k + 1) (fitc n (wo s k) L d) F (some k) w1 hT1 hm1 hc1 (by omega) (by omega) (by omega)
        rw [iF (nI_ge (by omega) (by omega)), iF (nI_ge (by omega) (by omega)), show nI k = oi (some k) from rfl, e2, if_neg c]
        exact ⟨w', rfl, b1.tr a1⟩
theorem stf_lt {n s : Nat} {L : List (List Nat)} {d : List Nat} : ∀ (m k : Nat) (b : Option Nat) (l : Nat), (∀ z, b = some z → z < k) → ∀ z, (stf n s L d m k b l).1 = some z → z < k + m := by
  intro m
  induction m with
  | zero => intro k b l h z e; exact h z e
  | succ m ih =>
    intro k b l h z e
    rw [stf] at e
    by_cases c1 : s.testBit k = true
    · rw [if_pos c1] at e
      by_cases c : fitc n (wo s k) L d ≤ l
      · rw [if_pos c] at e
        have := ih (k + 1) b l (fun z e => by have := h z e; omega) z e; omega
      · rw [if_neg c] at e
        have := ih (k + 1) (some k) _ (fun z e => by obtain rfl := Option.some.inj e; omega) z e; omega
    · rw [if_neg c1] at e
      have := ih (k + 1) b l (fun z e => by have := h z e; omega) z e; omega
theorem ok_still {N : Nat} (hN : 1000 ≤ N) : Ok_still N Inv := fun a1 a2 w hI => by
  obtain ⟨o, H, hW, hT⟩ := hI
  have hf := hW.1
  have hn := hf.1
  have hp := pow64 hn
  have h3 := hW.2.2.1
  have h4 := hW.2.2.2.1
  rcases cix a1 (n := 6) (by omega) with h | ⟨r, hr, rfl⟩
  · refine ⟨ng 1, w, w, ?_, ?_, o, H, hW, hT⟩
    · unfold f_X4_still; rw [e_isRow_f h]; simp only [bs, l0, l1, l2, l3, l4, l5, l6, l7, l8, l9, l10, l12, l15, l30, l31, l32, l40, l42, l48, l57, l60, l64, l98, l99, l100, l109, l110, l112, l115, l265, l1000, l518400, ngd, if_true, if_false, bn0, reduceCtorEq, n10, z1, z3, z0]
    · unfold f_X5_still f_X5_askedTelling; rw [e_misRow_f h]; simp only [bs, l0, l1, l2, l3, l4, l5, l6, l7, l8, l9, l10, l12, l15, l30, l31, l32, l40, l42, l48, l57, l60, l64, l98, l99, l100, l109, l110, l112, l115, l265, l1000, l518400, ngd, if_true, if_false, bn0, reduceCtorEq, n10, z1, z3, z0]
  rcases cix a2 (n := 2 ^ oN o) (by omega) with h | ⟨s, hs, rfl⟩
  · refine ⟨ng 1, w, w, ?_, ?_, o, H, hW, hT⟩
    · unfold f_X4_still; rw [e_isRow_t hr]; simp only [bs, l0, l1, l2, l3, l4, l5, l6, l7, l8, l9, l10, l12, l15, l30, l31, l32, l40, l42, l48, l57, l60, l64, l98, l99, l100, l109, l110, l112, l115, l265, l1000, l518400, ngd, if_true, if_false, bn0, reduceCtorEq, n10, z1, z3, z0]; rw [e_isSet_f hn h3.1 h]; simp only [bs, l0, l1, l2, l3, l4, l5, l6, l7, l8, l9, l10, l12, l15, l30, l31, l32, l40, l42, l48, l57, l60, l64, l98, l99, l100, l109, l110, l112, l115, l265, l1000, l518400, ngd, if_true, if_false, bn0, reduceCtorEq, n10, z1, z3, z0]
    · unfold f_X5_still f_X5_askedTelling; rw [e_misRow_t hr]; simp only [bs, l0, l1, l2, l3, l4, l5, l6, l7, l8, l9, l10, l12, l15, l30, l31, l32, l40, l42, l48, l57, l60, l64, l98, l99, l100, l109, l110, l112, l115, l265, l1000, l518400, ngd, if_true, if_false, bn0, reduceCtorEq, n10, z1, z3, z0]; rw [e_misSet_f hn h4.1 h]; simp only [bs, l0, l1, l2, l3, l4, l5, l6, l7, l8, l9, l10, l12, l15, l30, l31, l32, l40, l42, l48, l57, l60, l64, l98, l99, l100, l109, l110, l112, l115, l265, l1000, l518400, ngd, if_true, if_false, bn0, reduceCtorEq, n10, z1, z3, z0]
  have hL := LOk_r hf
  have hll := hL.2.1
  rcases tell_cases hN hW hT hr with ⟨f, wa, w2, f1, f2, ec, hWa, hTa, em, gm⟩ | ⟨d, wa, hd, hmem, ec, hWa, hC, hTa, em⟩
  · refine ⟨ng 3, cref f wa, mref f w2, ?_, ?_, Inv_ref hWa hTa gm⟩
    · unfold f_X4_still; rw [e_isRow_t hr]; simp only [bs, l0, l1, l2, l3, l4, l5, l6, l7, l8, l9, l10, l12, l15, l30, l31, l32, l40, l42, l48, l57, l60, l64, l98, l99, l100, l109, l110, l112, l115, l265, l1000, l518400, ngd, if_true, if_false, bn0, reduceCtorEq, n10, z1, z3, z0]; rw [e_isSet_t hn h3.1 hs]; simp only [bs, l0, l1, l2, l3, l4, l5, l6, l7, l8, l9, l10, l12, l15, l30, l31, l32, l40, l42, l48, l57, l60, l64, l98, l99, l100, l109, l110, l112, l115, l265, l1000, l518400, ngd, if_true, if_false, bn0, reduceCtorEq, n10, z1, z3, z0]; rw [ec]; simp only [bs, l0, l1, l2, l3, l4, l5, l6, l7, l8, l9, l10, l12, l15, l30, l31, l32, l40, l42, l48, l57, l60, l64, l98, l99, l100, l109, l110, l112, l115, l265, l1000, l518400, ngd, if_true, if_false, bn0, reduceCtorEq, n10, z1, z3, z0]; rw [iF (by rw [ng_nn (by omega) (by omega) (by omega)]; simp), ng_neg, e_refuse f2]; simp only [bs, l0, l1, l2, l3, l4, l5, l6, l7, l8, l9, l10, l12, l15, l30, l31, l32, l40, l42, l48, l57, l60, l64, l98, l99, l100, l109, l110, l112, l115, l265, l1000, l518400, ngd, if_true, if_false, bn0, reduceCtorEq, n10, z1, z3, z0]
    · unfold f_X5_still; rw [e_telling_f hf (RM_ag hWa.2.2.2.1 (cref_ag f wa)).1 hr hs em]; simp only [bs, l0, l1, l2, l3, l4, l5, l6, l7, l8, l9, l10, l12, l15, l30, l31, l32, l40, l42, l48, l57, l60, l64, l98, l99, l100, l109, l110, l112, l115, l265, l1000, l518400, ngd, if_true, if_false, bn0, reduceCtorEq, n10, z1, z3, z0]
  · have hcd := Pm_cd hd hn
    have es := e_still_L (N := N) (w := wa) hN hL hC hWa.2.2.1.1 hd (show s < 64 by omega) (oN o) 0 0 N none (by omega) (by omega) (by omega)
    have es' : X4_still_L1 N (nI s) (nI (cd d)) N (ng 9) (nI 0) (nI 0) wa = _ := es
    have hlt := stf_lt (n := oN o) (s := s) (L := rights o) (d := d) (oN o) 0 none 0 (fun z e => by cases e)
    cases hb : (stf (oN o) s (rights o) d (oN o) 0 none 0).1 with
    | none =>
      obtain ⟨w2, e2, b1, b2, b3⟩ := em wa (ag.rf _ _)
      obtain ⟨w3, e3, d1⟩ := e_mstill_L (N := N) hN hL hr hd (show s < 64 by omega) (oN o) 0 0 N none w2 b2 (RM_ag hWa.2.2.2.1 b1).1 b3 (by omega) (by omega) (by omega)
      have e3' : X5_still_L1 N (nI r) (nI s) N (ng 9) (nI 0) (nI 0) w2 = _ := e3
      rw [hb] at es' e3'
      refine ⟨ng 9, wa, w3, ?_, ?_, o, H, IW_ag (IW_ag hWa b1) d1, Itl_ag (Itl_ag hTa b1) d1⟩
      · unfold f_X4_still; rw [e_isRow_t hr]; simp only [bs, l0, l1, l2, l3, l4, l5, l6, l7, l8, l9, l10, l12, l15, l30, l31, l32, l40, l42, l48, l57, l60, l64, l98, l99, l100, l109, l110, l112, l115, l265, l1000, l518400, ngd, if_true, if_false, bn0, reduceCtorEq, n10, z1, z3, z0]; rw [e_isSet_t hn h3.1 hs]; simp only [bs, l0, l1, l2, l3, l4, l5, l6, l7, l8, l9, l10, l12, l15, l30, l31, l32, l40, l42, l48, l57, l60, l64, l98, l99, l100, l109, l110, l112, l115, l265, l1000, l518400, ngd, if_true, if_false, bn0, reduceCtorEq, n10, z1, z3, z0]; rw [ec]; simp only [bs, l0, l1, l2, l3, l4, l5, l6, l7, l8, l9, l10, l12, l15, l30, l31, l32, l40, l42, l48, l57, l60, l64, l98, l99, l100, l109, l110, l112, l115, l265, l1000, l518400, ngd, if_true, if_false, bn0, reduceCtorEq, n10, z1, z3, z0]; rw [iT (nI_le (by omega) (by omega)), es']; simp only [bs, l0, l1, l2, l3, l4, l5, l6, l7, l8, l9, l10, l12, l15, l30, l31, l32, l40, l42, l48, l57, l60, l64, l98, l99, l100, l109, l110, l112, l115, l265, l1000, l518400, ngd, if_true, if_false, bn0, reduceCtorEq, n10, z1, z3, z0]; rw [iT (show oi none = ng 9 from rfl)]; rfl
      · unfold f_X5_still; rw [e_telling_t hf hWa.2.2.2.1.1 hr hs e2]; simp only [bs, l0, l1, l2, l3, l4, l5, l6, l7, l8, l9, l10, l12, l15, l30, l31, l32, l40, l42, l48, l57, l60, l64, l98, l99, l100, l109, l110, l112, l115, l265, l1000, l518400, ngd, if_true, if_false, bn0, reduceCtorEq, n10, z1, z3, z0]; rw [e3']; simp only [bs, l0, l1, l2, l3, l4, l5, l6, l7, l8, l9, l10, l12, l15, l30, l31, l32, l40, l42, l48, l57, l60, l64, l98, l99, l100, l109, l110, l112, l115, l265, l1000, l518400, ngd, if_true, if_false, bn0, reduceCtorEq, n10, z1, z3, z0]; rw [iT (show oi none = ng 9 from rfl)]
    | some k =>
      have hk := hlt k hb
      obtain ⟨v, hv⟩ : ∃ v, v = nI (stf (oN o) s (rights o) d (oN o) 0 none 0).2 := ⟨_, rfl⟩
      have g1 : ag [412] wa (sI wa 412 0 v) := (ag.rf _ wa).sI (by simp)
      obtain ⟨w2, e2, b1, b2, b3⟩ := em (sI wa 412 0 v) g1
      have h4c := RM_ag hWa.2.2.2.1 g1
      obtain ⟨w3, e3, d1⟩ := e_mstill_L (N := N) hN hL hr hd (show s < 64 by omega) (oN o) 0 0 N none w2 b2 (RM_ag h4c b1).1 b3 (by omega) (by omega) (by omega)
      have e3' : X5_still_L1 N (nI r) (nI s) N (ng 9) (nI 0) (nI 0) w2 = _ := e3
      rw [hb, ← hv] at es' e3'
      have k9 : ¬ oi (some k) = ng 9 := by show ¬ nI k = ng 9; rw [nI_ng (by omega) (by omega) (by omega)]; simp
      refine ⟨nI k, sI wa 412 0 v, sI w3 502 0 v, ?_, ?_, Inv_ask hWa hTa ((b1.mono (by decide)).tr (d1.mono (by decide)) : ag [40, 41, 520, 522, 523, 530] _ w3)⟩
      · unfold f_X4_still; rw [e_isRow_t hr]; simp only [bs, l0, l1, l2, l3, l4, l5, l6, l7, l8, l9, l10, l12, l15, l30, l31, l32, l40, l42, l48, l57, l60, l64, l98, l99, l100, l109, l110, l112, l115, l265, l1000, l518400, ngd, if_true, if_false, bn0, reduceCtorEq, n10, z1, z3, z0]; rw [e_isSet_t hn h3.1 hs]; simp only [bs, l0, l1, l2, l3, l4, l5, l6, l7, l8, l9, l10, l12, l15, l30, l31, l32, l40, l42, l48, l57, l60, l64, l98, l99, l100, l109, l110, l112, l115, l265, l1000, l518400, ngd, if_true, if_false, bn0, reduceCtorEq, n10, z1, z3, z0]; rw [ec]; simp only [bs, l0, l1, l2, l3, l4, l5, l6, l7, l8, l9, l10, l12, l15, l30, l31, l32, l40, l42, l48, l57, l60, l64, l98, l99, l100, l109, l110, l112, l115, l265, l1000, l518400, ngd, if_true, if_false, bn0, reduceCtorEq, n10, z1, z3, z0]; rw [iT (nI_le (by omega) (by omega)), es']; simp only [bs, l0, l1, l2, l3, l4, l5, l6, l7, l8, l9, l10, l12, l15, l30, l31, l32, l40, l42, l48, l57, l60, l64, l98, l99, l100, l109, l110, l112, l115, l265, l1000, l518400, ngd, if_true, if_false, bn0, reduceCtorEq, n10, z1, z3, z0]; rw [iF k9]; rfl
      · unfold f_X5_still; rw [e_telling_t hf h4c.1 hr hs e2]; simp only [bs, l0, l1, l2, l3, l4, l5, l6, l7, l8, l9, l10, l12, l15, l30, l31, l32, l40, l42, l48, l57, l60, l64, l98, l99, l100, l109, l110, l112, l115, l265, l1000, l518400, ngd, if_true, if_false, bn0, reduceCtorEq, n10, z1, z3, z0]; rw [e3']; simp only [bs, l0, l1, l2, l3, l4, l5, l6, l7, l8, l9, l10, l12, l15, l30, l31, l32, l40, l42, l48, l57, l60, l64, l98, l99, l100, l109, l110, l112, l115, l265, l1000, l518400, ngd, if_true, if_false, bn0, reduceCtorEq, n10, z1, z3, z0]; rw [iF k9, e_ask]; rfl
/-! fewest -/
def cff (n : Nat) (L : List (List Nat)) (d : List Nat) : Nat → Nat → Nat → Nat
  | 0, _, b => b
  | m + 1, k, b => if pc b ≤ pc k then cff n L d m (k + 1) b else if fitc n k L d = 1 then cff n L d m (k + 1) k else cff n L d m (k + 1) b
def mff (n : Nat) (L : List (List Nat)) (d : List Nat) : Nat → Nat → Option Nat → Option Nat
  | 0, _, b => b
  | m + 1, k, none => if fitc n k L d = 1 then mff n L d m (k + 1) (some k) else mff n L d m (k + 1) none
  | m + 1, k, some b => if pc b ≤ pc k then mff n L d m (k + 1) (some b) else if fitc n k L d = 1 then mff n L d m (k + 1) (some k) else mff n L d m (k + 1) (some b)
theorem mff_some {n : Nat} {L : List (List Nat)} {d : List Nat} : ∀ (m k b : Nat), mff n L d m k (some b) = some (cff n L d m k b) := by
  intro m
  induction m with
  | zero => intro k b; rfl
  | succ m ih =>
    intro k b
    rw [mff, cff]
    by_cases c : pc b ≤ pc k
    · rw [if_pos c, if_pos c, ih]
    · rw [if_neg c, if_neg c]
      by_cases c2 : fitc n k L d = 1
      · rw [if_pos c2, if_pos c2, ih]
      · rw [if_neg c2, if_neg c2, ih]
theorem pc_full : ∀ n, n < 7 → ∀ k, k < 64 → k < 2 ^ n - 1 → pc k < pc (2 ^ n - 1) := by decide +kernel
theorem mff_none {n : Nat} {L : List (List Nat)} {d : List Nat} (hn : n ≤ 6) (hfull : fitc n (2 ^ n - 1) L d = 1) : ∀ (m k : Nat), k + m = 2 ^ n → 0 < m → mff n L d m k none = some (cff n L d m k (2 ^ n - 1)) := by
  have hp := pow64 hn
  intro m
  induction m with
  | zero => intro k _ h; omega
  | succ m ih =>
    intro k hk _
    rw [mff, cff]
    by_cases c : k = 2 ^ n - 1
    · subst c
      rw [if_pos hfull, if_pos (Nat.le_refl _), mff_some]
    · have := pc_full n (by omega) k (by omega) (by omega)
      rw [if_neg (show ¬ pc (2 ^ n - 1) ≤ pc k by omega)]
      by_cases c2 : fitc n k L d = 1
      · rw [if_pos c2, if_pos c2, mff_some]
      · rw [if_neg c2, if_neg c2, ih (k + 1) (by omega) (by omega)]
theorem cff_lt {n : Nat} {L : List (List Nat)} {d : List Nat} : ∀ (m k b : Nat), k + m ≤ 64 → b < 64 → cff n L d m k b < 64 := by
  intro m
  induction m with
  | zero => intro k b _ h; exact h
  | succ m ih =>
    intro k b hk hb
    rw [cff]
    split
    · exact ih _ _ (by omega) hb
    · split
      · exact ih _ _ (by omega) (by omega)
      · exact ih _ _ (by omega) hb
theorem pc_le : ∀ s, s < 64 → pc s ≤ 6 := by decide +kernel
theorem e_fewest_L {N n : Nat} {L : List (List Nat)} {d : List Nat} {w : Wd} (hN : 1000 ≤ N) (hL : LOk n L) (h : RTC 0 L w) (hm : gI w 4 0 = nI n) (hd : Pm n d) : ∀ (m k b F : Nat), k + m = 2 ^ n → m < F → b < 64 → X4_fewest_L1 N (nI (cd d)) F (nI b) (nI k) w = some (nI (cff n L d m k b), w) := by
  have hn := hL.1
  have hp := pow64 hn
  have hll := hL.2.1
  intro m
  induction m with
  | zero =>
    intro k b F hk hF hb
    obtain ⟨F, rfl, _⟩ := fuel_s hF
    rw [X4_fewest_L1]
    simp only [bsn, l0, l1, l2, l3, l4, l5, l6, l7, l8, l9, l10, l12, l15, l30, l31, l32, l40, l42, l48, l57, l60, l64, l98, l99, l100, l109, l110, l112, l115, l265, l1000, l518400, ngd]
    rw [hm, shl1c (by omega), Nat.one_shiftLeft, iT (nI_le (by omega) (by omega)), cff]
  | succ m ih =>
    intro k b F hk hF hb
    obtain ⟨F, rfl, hF'⟩ := fuel_s hF
    have p1 := pc_le k (by omega)
    have p2 := pc_le b hb
    have hc := fitc_le n k L d
    rw [X4_fewest_L1]
    simp only [bsn, l0, l1, l2, l3, l4, l5, l6, l7, l8, l9, l10, l12, l15, l30, l31, l32, l40, l42, l48, l57, l60, l64, l98, l99, l100, l109, l110, l112, l115, l265, l1000, l518400, ngd]
    rw [hm, shl1c (by omega), Nat.one_shiftLeft, iF (nI_ge (by omega) (by omega)), e_bitCount (by omega)]
    simp only [bsn, l0, l1, l2, l3, l4, l5, l6, l7, l8, l9, l10, l12, l15, l30, l31, l32, l40, l42, l48, l57, l60, l64, l98, l99, l100, l109, l110, l112, l115, l265, l1000, l518400, ngd]
    rw [e_bitCount hb, cff]
    simp only [bsn, l0, l1, l2, l3, l4, l5, l6, l7, l8, l9, l10, l12, l15, l30, l31, l32, l40, l42, l48, l57, l60, l64, l98, l99, l100, l109, l110, l112, l115, l265, l1000, l518400, ngd]
    rw [nI_add]
    by_cases c : pc b ≤ pc k
    · rw [iT (nI_le c (by omega)), ih (k + 1) b F (by omega) (by omega) hb, if_pos c]
    · rw [iF (nI_ge (by omega) (by omega)), e_papersOf hN hn hm (by omega), if_neg c]
      simp only [bsn, l0, l1, l2, l3, l4, l5, l6, l7, l8, l9, l10, l12, l15, l30, l31, l32, l40, l42, l48, l57, l60, l64, l98, l99, l100, l109, l110, l112, l115, l265, l1000, l518400, ngd]
      rw [e_fitS hN hL h hd]
      simp only [bsn, l0, l1, l2, l3, l4, l5, l6, l7, l8, l9, l10, l12, l15, l30, l31, l32, l40, l42, l48, l57, l60, l64, l98, l99, l100, l109, l110, l112, l115, l265, l1000, l518400, ngd]
      by_cases c2 : fitc n k L d = 1
      · rw [iT (by rw [c2]), ih (k + 1) k F (by omega) (by omega) (by omega), if_pos c2]
      · rw [iF (fun q => c2 ((nI_eq (by omega) (by omega)).mp q)), ih (k + 1) b F (by omega) (by omega) hb, if_neg c2]
theorem e_mfewest_L {N n r : Nat} {L : List (List Nat)} {d : List Nat} (hN : 1000 ≤ N) (hL : LOk n L) (hr : r < 6) (hd : Pm n d) : ∀ (m k F : Nat) (b : Option Nat) (w : Wd), RTS n L w → gI w 510 0 = nI n → (∀ x, x < n → gA w 32 0 (40 * r + x) = nI (dg d x)) → k + m = 2 ^ n → m < F → (∀ z, b = some z → z < 64) → ∃ w', X5_fewest_L1 N (nI r) F (oi b) (nI k) w = some (oi (mff n L d m k b), w') ∧ ag [530] w w' := by
  have hn := hL.1
  have hp := pow64 hn
  have hll := hL.2.1
  intro m
  induction m with
  | zero =>
    intro k F b w hT hm hc hk hF hb
    obtain ⟨F, rfl, _⟩ := fuel_s hF
    rw [X5_fewest_L1]
    simp only [bs, l0, l1, l2, l3, l4, l5, l6, l7, l8, l9, l10, l12, l15, l30, l31, l32, l40, l42, l48, l57, l60, l64, l98, l99, l100, l109, l110, l112, l115, l265, l1000, l518400, ngd]
    rw [hm, shl1c (by omega), Nat.one_shiftLeft, iT (nI_le (by omega) (by omega)), mff]
    exact ⟨w, rfl, ag.rf _ _⟩
  | succ m ih =>
    intro k F b w hT hm hc hk hF hb
    obtain ⟨F, rfl, hF'⟩ := fuel_s hF
    have p1 := pc_le k (by omega)
    have hfc := fitc_le n k L d
    obtain ⟨w1, e1, b1, b2⟩ := e_knownOf (N := N) (s := k) hN hL hr hd (by omega) hT hm hc
    have hT1 := RTS_ag hT b1
    have hm1 : gI w1 510 0 = nI n := by rw [agI b1 510 0]; exact hm
    have hc1 : ∀ x, x < n → gA w1 32 0 (40 * r + x) = nI (dg d x) := by rw [agA b1 32 0]; exact hc
    rw [X5_fewest_L1]
    unfold X5_fewest_J48
    simp only [bs, l0, l1, l2, l3, l4, l5, l6, l7, l8, l9, l10, l12, l15, l30, l31, l32, l40, l42, l48, l57, l60, l64, l98, l99, l100, l109, l110, l112, l115, l265, l1000, l518400, ngd]
    rw [hm, shl1c (by omega), Nat.one_shiftLeft, iF (nI_ge (by omega) (by omega)), e1]
    simp only [bs, l0, l1, l2, l3, l4, l5, l6, l7, l8, l9, l10, l12, l15, l30, l31, l32, l40, l42, l48, l57, l60, l64, l98, l99, l100, l109, l110, l112, l115, l265, l1000, l518400, ngd]
    rw [b2, nI_add]
    cases b with
    | none =>
      rw [iT (show oi none = ng 9 from rfl), mff]
      by_cases c2 : fitc n k L d = 1
      · obtain ⟨w', e2, a1⟩ := ih (k + 1) F (some k) w1 hT1 hm1 hc1 (by omega) (by omega) (fun z e => by obtain rfl := Option.some.inj e; omega)
        rw [iT (by rw [c2]), show nI k = oi (some k) from rfl, e2, if_pos c2]
        exact ⟨w', rfl, b1.tr a1⟩
      · obtain ⟨w', e2, a1⟩ := ih (k + 1) F none w1 hT1 hm1 hc1 (by omega) (by omega) (fun z e => by cases e)
        rw [iF (fun q => c2 ((nI_eq (by omega) (by omega)).mp q)), e2, if_neg c2]
        exact ⟨w', rfl, b1.tr a1⟩
    | some z =>
      have hz := hb z rfl
      have p2 := pc_le z hz
      rw [iF (show ¬ oi (some z) = ng 9 from by show ¬ nI z = ng 9; rw [nI_ng (by omega) (by omega) (by omega)]; simp), e_sizeOf hN (by omega)]
      simp only [bs, l0, l1, l2, l3, l4, l5, l6, l7, l8, l9, l10, l12, l15, l30, l31, l32, l40, l42, l48, l57, l60, l64, l98, l99, l100, l109, l110, l112, l115, l265, l1000, l518400, ngd]
      rw [show oi (some z) = nI z from rfl, e_sizeOf hN hz, mff]
      simp only [bs, l0, l1, l2, l3, l4, l5, l6, l7, l8, l9, l10, l12, l15, l30, l31, l32, l40, l42, l48, l57, l60, l64, l98, l99, l100, l109, l110, l112, l115, l265, l1000, l518400, ngd]
      by_cases c : pc z ≤ pc k
      · obtain ⟨w', e2, a1⟩ := ih (k + 1) F (some z) w hT hm hc (by omega) (by omega) hb
        rw [iT (nI_le c (by omega)), show nI z = oi (some z) from rfl, e2, if_pos c]
        exact ⟨w', rfl, a1⟩
      · rw [iF (nI_ge (by omega) (by omega)), if_neg c, e1]
        simp only [bs, l0, l1, l2, l3, l4, l5, l6, l7, l8, l9, l10, l12, l15, l30, l31, l32, l40, l42, l48, l57, l60, l64, l98, l99, l100, l109, l110, l112, l115, l265, l1000, l518400, ngd]
        rw [b2]
        by_cases c2 : fitc n k L d = 1
        · obtain ⟨w', e2, a1⟩ := ih (k + 1) F (some k) w1 hT1 hm1 hc1 (by omega) (by omega) (fun z e => by obtain rfl := Option.some.inj e; omega)
          rw [iT (by rw [c2]), show nI k = oi (some k) from rfl, e2, if_pos c2]
          exact ⟨w', rfl, b1.tr a1⟩
        · obtain ⟨w', e2, a1⟩ := ih (k + 1) F (some z) w1 hT1 hm1 hc1 (by omega) (by omega) hb
          rw [iF (fun q => c2 ((nI_eq (by omega) (by omega)).mp q)), show nI z = oi (some z) from rfl, e2, if_neg c2]
          exact ⟨w', rfl, b1.tr a1⟩
theorem fitc_full {o : Of} {d : List Nat} (hf : Wf o) (h : d ∈ rights o) : fitc (oN o) (2 ^ oN o - 1) (rights o) d = 1 := by
  have hd := rights_Pm h
  obtain ⟨j, hj, e⟩ := mem_dr h
  unfold fitc
  rw [cnt_one (j := j) (rights o).length 0 0 (by omega) (by omega)]
  intro i _ hi
  have hL := LOk_r hf
  rw [Bool.eq_iff_iff, als_iff, decide_eq_true_eq]
  constructor
  · intro hx
    have : dr (rights o) i = d := dg_ext ((LOk_at hL (k := i) (by omega)).1.trans hd.1.symm) (fun x hx' => by
      rw [(LOk_at hL (k := i) (by omega)).1] at hx'
      exact hx x (by omega) (by omega) (by rw [Nat.testBit_two_pow_sub_one]; simp [hx']))
    exact dr_inj (rights_nd o) (by omega) hj (this.trans e.symm)
  · rintro rfl x _ _ _; rw [e]
theorem ok_fewest {N : Nat} (hN : 1000 ≤ N) : Ok_fewest N Inv := fun a1 w hI => by
  obtain ⟨o, H, hW, hT⟩ := hI
  have hf := hW.1
  have hn := hf.1
  have hp := pow64 hn
  have h3 := hW.2.2.1
  have h4 := hW.2.2.2.1
  rcases cix a1 (n := 6) (by omega) with h | ⟨r, hr, rfl⟩
  · refine ⟨ng 1, w, w, ?_, ?_, o, H, hW, hT⟩
    · unfold f_X4_fewest; rw [e_isRow_f h]; simp only [bs, l0, l1, l2, l3, l4, l5, l6, l7, l8, l9, l10, l12, l15, l30, l31, l32, l40, l42, l48, l57, l60, l64, l98, l99, l100, l109, l110, l112, l115, l265, l1000, l518400, ngd, if_true, if_false, bn0, reduceCtorEq, n10, z1, z3, z0]
    · unfold f_X5_fewest f_X5_askedTelling; rw [e_misRow_f h]; simp only [bs, l0, l1, l2, l3, l4, l5, l6, l7, l8, l9, l10, l12, l15, l30, l31, l32, l40, l42, l48, l57, l60, l64, l98, l99, l100, l109, l110, l112, l115, l265, l1000, l518400, ngd, if_true, if_false, bn0, reduceCtorEq, n10, z1, z3, z0]
  have hL := LOk_r hf
  have hll := hL.2.1
  rcases tell_cases hN hW hT hr with ⟨f, wa, w2, f1, f2, ec, hWa, hTa, em, gm⟩ | ⟨d, wa, hd, hmem, ec, hWa, hC, hTa, em⟩
  · refine ⟨ng 3, cref f wa, mref f w2, ?_, ?_, Inv_ref hWa hTa gm⟩
    · unfold f_X4_fewest; rw [e_isRow_t hr]; simp only [bs, l0, l1, l2, l3, l4, l5, l6, l7, l8, l9, l10, l12, l15, l30, l31, l32, l40, l42, l48, l57, l60, l64, l98, l99, l100, l109, l110, l112, l115, l265, l1000, l518400, ngd, if_true, if_false, bn0, reduceCtorEq, n10, z1, z3, z0]; rw [ec]; simp only [bs, l0, l1, l2, l3, l4, l5, l6, l7, l8, l9, l10, l12, l15, l30, l31, l32, l40, l42, l48, l57, l60, l64, l98, l99, l100, l109, l110, l112, l115, l265, l1000, l518400, ngd, if_true, if_false, bn0, reduceCtorEq, n10, z1, z3, z0]; rw [iF (by rw [ng_nn (by omega) (by omega) (by omega)]; simp), ng_neg, e_refuse f2]; simp only [bs, l0, l1, l2, l3, l4, l5, l6, l7, l8, l9, l10, l12, l15, l30, l31, l32, l40, l42, l48, l57, l60, l64, l98, l99, l100, l109, l110, l112, l115, l265, l1000, l518400, ngd, if_true, if_false, bn0, reduceCtorEq, n10, z1, z3, z0]
    · unfold f_X5_fewest; rw [show (0 : Int32) = nI 0 from rfl, e_telling_f hf (RM_ag hWa.2.2.2.1 (cref_ag f wa)).1 hr (by omega) em]; simp only [bs, l0, l1, l2, l3, l4, l5, l6, l7, l8, l9, l10, l12, l15, l30, l31, l32, l40, l42, l48, l57, l60, l64, l98, l99, l100, l109, l110, l112, l115, l265, l1000, l518400, ngd, if_true, if_false, bn0, reduceCtorEq, n10, z1, z3, z0]
  · have hcd := Pm_cd hd hn
    have hfull := fitc_full hf hmem
    obtain ⟨b, hb⟩ : ∃ b, b = cff (oN o) (rights o) d (2 ^ oN o) 0 (2 ^ oN o - 1) := ⟨_, rfl⟩
    have hb64 : b < 64 := by rw [hb]; exact cff_lt _ _ _ (by omega) (by omega)
    have hmf := mff_none hn hfull (2 ^ oN o) 0 (by omega) (by omega)
    rw [← hb] at hmf
    have g1 : ag [412] wa (sI wa 412 0 (nI b)) := (ag.rf _ wa).sI (by simp)
    obtain ⟨w2, e2, b1, b2, b3⟩ := em (sI wa 412 0 (nI b)) g1
    have h4c := RM_ag hWa.2.2.2.1 g1
    obtain ⟨w3, e3, d1⟩ := e_mfewest_L (N := N) hN hL hr hd (2 ^ oN o) 0 N none w2 b2 (RM_ag h4c b1).1 b3 (by omega) (by omega) (fun z e => by cases e)
    rw [hmf] at e3
    have e3' : X5_fewest_L1 N (nI r) N (ng 9) (nI 0) w2 = some (nI b, w3) := e3
    refine ⟨nI (pc b), sI wa 412 0 (nI b), sI w3 502 0 (nI b), ?_, ?_, Inv_ask hWa hTa ((b1.mono (by decide)).tr (d1.mono (by decide)) : ag [40, 41, 520, 522, 523, 530] _ w3)⟩
    · unfold f_X4_fewest; rw [e_isRow_t hr]; simp only [bs, l0, l1, l2, l3, l4, l5, l6, l7, l8, l9, l10, l12, l15, l30, l31, l32, l40, l42, l48, l57, l60, l64, l98, l99, l100, l109, l110, l112, l115, l265, l1000, l518400, ngd, if_true, if_false, bn0, reduceCtorEq, n10, z1, z3, z0]; rw [ec]; simp only [bs, l0, l1, l2, l3, l4, l5, l6, l7, l8, l9, l10, l12, l15, l30, l31, l32, l40, l42, l48, l57, l60, l64, l98, l99, l100, l109, l110, l112, l115, l265, l1000, l518400, ngd, if_true, if_false, bn0, reduceCtorEq, n10, z1, z3, z0]; rw [iT (nI_le (by omega) (by omega)), hWa.2.2.1.1, shl1c (by omega), Nat.one_shiftLeft, pk_sub hp.2, e_fewest_L hN hL hC hWa.2.2.1.1 hd (2 ^ oN o) 0 (2 ^ oN o - 1) N (by omega) (by omega) (by omega), ← hb]; simp only [bs, l0, l1, l2, l3, l4, l5, l6, l7, l8, l9, l10, l12, l15, l30, l31, l32, l40, l42, l48, l57, l60, l64, l98, l99, l100, l109, l110, l112, l115, l265, l1000, l518400, ngd, if_true, if_false, bn0, reduceCtorEq, n10, z1, z3, z0]; rw [e_bitCount hb64]; simp only [bs, l0, l1, l2, l3, l4, l5, l6, l7, l8, l9, l10, l12, l15, l30, l31, l32, l40, l42, l48, l57, l60, l64, l98, l99, l100, l109, l110, l112, l115, l265, l1000, l518400, ngd, if_true, if_false, bn0, reduceCtorEq, n10, z1, z3, z0]
    · unfold f_X5_fewest; rw [show (0 : Int32) = nI 0 from rfl, e_telling_t hf h4c.1 hr (by omega) e2]; simp only [bs, l0, l1, l2, l3, l4, l5, l6, l7, l8, l9, l10, l12, l15, l30, l31, l32, l40, l42, l48, l57, l60, l64, l98, l99, l100, l109, l110, l112, l115, l265, l1000, l518400, ngd, if_true, if_false, bn0, reduceCtorEq, n10, z1, z3, z0]; rw [e3']; simp only [bs, l0, l1, l2, l3, l4, l5, l6, l7, l8, l9, l10, l12, l15, l30, l31, l32, l40, l42, l48, l57, l60, l64, l98, l99, l100, l109, l110, l112, l115, l265, l1000, l518400, ngd, if_true, if_false, bn0, reduceCtorEq, n10, z1, z3, z0]; rw [e_sizeOf hN hb64]; simp only [bs, l0, l1, l2, l3, l4, l5, l6, l7, l8, l9, l10, l12, l15, l30, l31, l32, l40, l42, l48, l57, l60, l64, l98, l99, l100, l109, l110, l112, l115, l265, l1000, l518400, ngd, if_true, if_false, bn0, reduceCtorEq, n10, z1, z3, z0]; rw [e_ask]; simp only [bs, l0, l1, l2, l3, l4, l5, l6, l7, l8, l9, l10, l12, l15, l30, l31, l32, l40, l42, l48, l57, l60, l64, l98, l99, l100, l109, l110, l112, l115, l265, l1000, l518400, ngd, if_true, if_false, bn0, reduceCtorEq, n10, z1, z3, z0]
