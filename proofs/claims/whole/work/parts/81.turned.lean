/-! turns, both sides -/
def pwf (n h : Nat) : Nat → Nat → Nat → Nat
  | 0, _, c => c
  | m + 1, k, c => pwf n h m (k + 1) (if k < h then c else if n ≤ k then c else c * 60)
theorem pwf_all : ∀ n, n < 7 → ∀ h, h < 7 → h ≤ n → pwf n h 6 0 1 = 60 ^ (n - h) := by decide +kernel
theorem e_tL1 {N n h : Nat} {x1 x2 : Int32} (hn : n ≤ 6) (hh : h ≤ 6) : ∀ (m k c F : Nat) (w : Wd), k + m = 6 → m < F → gI w 524 0 = nI h → gI w 510 0 = nI n → ∃ w', X5_turns_L1 N x1 x2 F (lN c) (nI k) w = some (lN (pwf n h m k c), w') ∧ ag [43] w w' ∧ (∀ j, j < k → gA w' 43 0 j = gA w 43 0 j) ∧ ∀ j, k ≤ j → j < 6 → gA w' 43 0 j = gA w 42 0 j := by
  intro m
  induction m with
  | zero =>
    intro k c F w hk hF h1 h2
    obtain ⟨F, rfl, _⟩ := fuel_s hF
    rw [X5_turns_L1]
    simp only [bs, l0, l1, l2, l3, l4, l5, l6, l7, l8, l9, l10, l12, l15, l30, l31, l32, l40, l42, l48, l57, l60, l64, l98, l99, l100, l109, l110, l112, l115, l265, l1000, l518400, ngd]
    rw [iT (nI_le (by omega) (by omega))]
    exact ⟨w, rfl, ag.rf _ _, fun _ _ => rfl, fun j a b => by omega⟩
  | succ m ih =>
    intro k c F w hk hF h1 h2
    obtain ⟨F, rfl, hF'⟩ := fuel_s hF
    rw [X5_turns_L1]
    simp only [bs, l0, l1, l2, l3, l4, l5, l6, l7, l8, l9, l10, l12, l15, l30, l31, l32, l40, l42, l48, l57, l60, l64, l98, l99, l100, l109, l110, l112, l115, l265, l1000, l518400, ngd]
    rw [iF (nI_ge (by omega) (by omega)), gd_in (by omega) (by omega), gd_in (by omega) (by omega), nI_clamp (by omega), nI_add]
    obtain ⟨w1, hw1⟩ : ∃ w1, w1 = sA w 43 0 (upd (gA w 43 0) k (gA w 42 0 k)) := ⟨_, rfl⟩
    have g1 : ag [43] w w1 := by rw [hw1]; exact (ag.rf _ w).sA (by simp)
    have i1 : gI w1 524 0 = nI h := by rw [agI g1 524 0]; exact h1
    have i2 : gI w1 510 0 = nI n := by rw [agI g1 510 0]; exact h2
    have fin : ∀ c', pwf n h (m + 1) k c = pwf n h m (k + 1) c' → ∃ w', X5_turns_L1 N x1 x2 F (lN c') (nI (k + 1)) w1 = some (lN (pwf n h (m + 1) k c), w') ∧ ag [43] w w' ∧ (∀ j, j < k → gA w' 43 0 j = gA w 43 0 j) ∧ ∀ j, k ≤ j → j < 6 → gA w' 43 0 j = gA w 42 0 j := fun c' hc => by
      obtain ⟨w', e, a1, a2, a3⟩ := ih (k + 1) c' F w1 (by omega) (by omega) i1 i2
      refine ⟨w', by rw [e, hc], g1.tr a1, fun j hj => ?_, fun j b1 b2 => ?_⟩
      · rw [a2 j (by omega), hw1, gA_sA, if_pos ⟨rfl, rfl⟩, pk_un (by omega)]
      · rcases Nat.eq_or_lt_of_le b1 with q | q
        · rw [a2 j (by omega), hw1, gA_sA, if_pos ⟨rfl, rfl⟩, ← q, pk_us]
        · rw [a3 j (by omega) b2, agA g1 42 0]
    rw [← hw1, i1, i2]
    by_cases c1 : k < h
    · rw [iT (nI_lt c1 (by omega)), Int64.mul_one]; exact fin c (by rw [pwf, if_pos c1])
    rw [iF (nI_nlt (by omega) (by omega))]
    by_cases c2 : n ≤ k
    · rw [iT (nI_le c2 (by omega)), Int64.mul_one]; exact fin c (by rw [pwf, if_neg c1, if_pos c2])
    · rw [iF (nI_ge (by omega) (by omega)), show (60 : Int64) = lN 60 from rfl, lN_mul]; exact fin (c * 60) (by rw [pwf, if_neg c1, if_neg c2])
theorem e_tL2 {N : Nat} {x3 : Int64} : ∀ (m k F : Nat) (w : Wd), k + m = 6 → m < F → ∃ w', X5_turns_L2 N x3 F (nI k) w = some w' ∧ ag [42] w w' ∧ (∀ j, j < k → gA w' 42 0 j = gA w 42 0 j) ∧ ∀ j, k ≤ j → j < 6 → gA w' 42 0 j = gA w 43 0 j := by
  intro m
  induction m with
  | zero =>
    intro k F w hk hF
    obtain ⟨F, rfl, _⟩ := fuel_s hF
    rw [X5_turns_L2]
    simp only [bs, l0, l1, l2, l3, l4, l5, l6, l7, l8, l9, l10, l12, l15, l30, l31, l32, l40, l42, l48, l57, l60, l64, l98, l99, l100, l109, l110, l112, l115, l265, l1000, l518400, ngd]
    rw [iT (nI_le (by omega) (by omega))]
    exact ⟨w, rfl, ag.rf _ _, fun _ _ => rfl, fun j a b => by omega⟩
  | succ m ih =>
    intro k F w hk hF
    obtain ⟨F, rfl, hF'⟩ := fuel_s hF
    rw [X5_turns_L2]
    simp only [bs, l0, l1, l2, l3, l4, l5, l6, l7, l8, l9, l10, l12, l15, l30, l31, l32, l40, l42, l48, l57, l60, l64, l98, l99, l100, l109, l110, l112, l115, l265, l1000, l518400, ngd]
    rw [iF (nI_ge (by omega) (by omega)), gd_in (by omega) (by omega), gd_in (by omega) (by omega), nI_clamp (by omega), nI_add]
    have g1 : ag [42] w (sA w 42 0 (upd (gA w 42 0) k (gA w 43 0 k))) := (ag.rf _ w).sA (by simp)
    obtain ⟨w', e, a1, a2, a3⟩ := ih (k + 1) F (sA w 42 0 (upd (gA w 42 0) k (gA w 43 0 k))) (by omega) (by omega)
    refine ⟨w', e, g1.tr a1, fun j hj => ?_, fun j b1 b2 => ?_⟩
    · rw [a2 j (by omega), gA_sA, if_pos ⟨rfl, rfl⟩, pk_un (by omega)]
    · rcases Nat.eq_or_lt_of_le b1 with q | q
      · rw [a2 j (by omega), gA_sA, if_pos ⟨rfl, rfl⟩, ← q, pk_us]
      · rw [a3 j (by omega) b2, agA g1 43 0]
abbrev SQT : List Nat := [40, 41, 520, 522, 523, 526, 43, 527, 42]
/-- the model's turns, from the moment the rights are set -/
theorem e_mturns {N x y : Nat} {o : Of} {H : List Nat} {w : Wd} (hN : 1000 ≤ N) (hW : IW o H w) (hx : x < oN o) (hy : y < oN o) (hc : cnb (rights o) H ≠ 0) : ∃ w7, f_X5_turns N (nI x) (nI y) w = f_X5_part N (lN (Mv (oN o) (rights o) x y (oN o - H.length) H 1)) (lN (60 ^ (oN o - H.length))) (nI 1) w7 ∧ ag SQT w w7 ∧ IW o H w7 := by
  obtain ⟨h1, h2, h3, h4, h5, h6, h7, h8, h9⟩ := id hW
  obtain ⟨t1, t2, t3, t4, t5, t6⟩ := id h7
  have hn := h1.1
  have hL := LOk_r h1
  have hll := hL.2.1
  have hcb := cnb_le (rights o) H
  have hH : Hs (rights o) H := by
    refine Classical.byContradiction fun q => hc ?_
    unfold cnb
    refine cnt_none _ _ _ (fun j _ hj => ?_)
    cases e : bgc (rights o) H j with
    | false => rfl
    | true => exact absurd ⟨j, by omega, e⟩ q
  obtain ⟨w2, e2, b1, b2⟩ := e_setRights (N := N) hN h1 h4
  obtain ⟨w3, e3, c1, c2⟩ := e_cans (N := N) (w := w2) hN hL t2 t1 b2 (by rw [agI b1 510 0]; exact h4.1) (fun z hz => by rw [agA b1 42 0]; exact t6 z hz)
  have g23 : ag SQT w w3 := (b1.mono (by decide)).tr (c1.mono (by decide))
  obtain ⟨w4, e4, d1, d2, d3⟩ := e_tL1 (N := N) (n := oN o) (h := H.length) (x1 := nI x) (x2 := nI y) hn (by omega) 6 0 1 N w3 (by omega) (by omega) (by rw [agI g23 524 0]; exact t5) (by rw [agI g23 510 0]; exact h4.1)
  rw [pwf_all _ (by omega) _ (by omega) t1] at e4
  obtain ⟨w5, hw5⟩ : ∃ w5, w5 = sL w4 527 0 (0 : Int64) := ⟨_, rfl⟩
  have g35 : ag [43, 527] w3 w5 := by rw [hw5]; exact (d1.mono (by decide)).sL (by simp)
  have g05 : ag SQT w w5 := g23.tr (g35.mono (by decide))
  have h425 : gA w5 42 0 = gA w 42 0 := by rw [agA g35 42 0, agA c1 42 0, agA b1 42 0]
  obtain ⟨w6, e6, f1, f2, f3⟩ := e_turnOn (N := N) (x := x) (y := y) hN hL hx hy (oN o - H.length) 8 H 1 w5 (by omega) (by omega) hH (RTS_ag (RTS_ag b2 c1) g35) (by rw [agI g05 510 0]; exact h4.1) (fun z hz => by rw [h425]; exact t6 z hz)
  obtain ⟨w7, e7, k1, k2, k3⟩ := e_tL2 (N := N) (x3 := lN (60 ^ (oN o - H.length))) 6 0 N w6 (by omega) (by omega)
  have g07 : ag SQT w w7 := (g05.tr (f1.mono (by decide))).tr (k1.mono (by decide))
  have h427 : ∀ z, z < 6 → gA w7 42 0 z = gA w 42 0 z := fun z hz => by
    rw [k3 z (by omega) hz, agA f1 43 0, hw5, gA_sL, d3 z (by omega) hz, agA c1 42 0, agA b1 42 0]
  refine ⟨w7, ?_, g07, h1, h2, RO_ag h3 g07, RM_ag h4 g07, Iro_ag h5 g07, Itx_ag h6 g07, ⟨t1, t2, ?_, ?_, ?_, fun z hz => ?_⟩, Ikp_ag h8 g07, Ist_ag h9 g07⟩
  · have i524 : gI w2 524 0 = nI H.length := by rw [agI b1 524 0]; exact t5
    have i5 : gI w5 524 0 = nI H.length := by rw [agI g05 524 0]; exact t5
    have c' : ¬ nI (cnb (rights o) H) = nI 0 := fun q => hc ((nI_eq (by omega) (by omega)).mp q)
    have hl7 : gL w7 527 0 = lN (Mv (oN o) (rights o) x y (oN o - H.length) H 1) := by
      rw [agL k1 527 0, f3, hw5]
      show (0 : Int64) + _ = _
      exact Int64.zero_add _
    unfold f_X5_turns; rw [e_misMate_t hn h4.1 hx]; simp only [bs, l0, l1, l2, l3, l4, l5, l6, l7, l8, l9, l10, l12, l15, l30, l31, l32, l40, l42, l48, l57, l60, l64, l98, l99, l100, l109, l110, l112, l115, l265, l1000, l518400, ngd, if_true, if_false, bn0, reduceCtorEq, n10, z1, z3, z0]; rw [e_misMate_t hn h4.1 hy]; simp only [bs, l0, l1, l2, l3, l4, l5, l6, l7, l8, l9, l10, l12, l15, l30, l31, l32, l40, l42, l48, l57, l60, l64, l98, l99, l100, l109, l110, l112, l115, l265, l1000, l518400, ngd, if_true, if_false, bn0, reduceCtorEq, n10, z1, z3, z0]; rw [e2]; simp only [bs, l0, l1, l2, l3, l4, l5, l6, l7, l8, l9, l10, l12, l15, l30, l31, l32, l40, l42, l48, l57, l60, l64, l98, l99, l100, l109, l110, l112, l115, l265, l1000, l518400, ngd, if_true, if_false, bn0, reduceCtorEq, n10, z1, z3, z0]; rw [i524, e3]; simp only [bs, l0, l1, l2, l3, l4, l5, l6, l7, l8, l9, l10, l12, l15, l30, l31, l32, l40, l42, l48, l57, l60, l64, l98, l99, l100, l109, l110, l112, l115, l265, l1000, l518400, ngd, if_true, if_false, bn0, reduceCtorEq, n10, z1, z3, z0]; rw [c2, iF c', show (1 : Int64) = lN 1 from rfl, e4]; simp only [bs, l0, l1, l2, l3, l4, l5, l6, l7, l8, l9, l10, l12, l15, l30, l31, l32, l40, l42, l48, l57, l60, l64, l98, l99, l100, l109, l110, l112, l115, l265, l1000, l518400, ngd, if_true, if_false, bn0, reduceCtorEq, n10, z1, z3, z0]; rw [← hw5, i5, e6]; simp only [bs, l0, l1, l2, l3, l4, l5, l6, l7, l8, l9, l10, l12, l15, l30, l31, l32, l40, l42, l48, l57, l60, l64, l98, l99, l100, l109, l110, l112, l115, l265, l1000, l518400, ngd, if_true, if_false, bn0, reduceCtorEq, n10, z1, z3, z0]; rw [e7]; simp only [bs, l0, l1, l2, l3, l4, l5, l6, l7, l8, l9, l10, l12, l15, l30, l31, l32, l40, l42, l48, l57, l60, l64, l98, l99, l100, l109, l110, l112, l115, l265, l1000, l518400, ngd, if_true, if_false, bn0, reduceCtorEq, n10, z1, z3, z0]; rw [hl7]
    cases f_X5_part N (lN (Mv (oN o) (rights o) x y (oN o - H.length) H 1)) (lN (60 ^ (oN o - H.length))) (nI 1) w7 <;> rfl
  · rw [agI g07 407 0]; exact t3
  · rw [agI g07 406 0]; exact t4
  · rw [agI g07 524 0]; exact t5
  · rw [h427 z (by omega)]; exact t6 z hz
theorem ok_turns {N : Nat} (hN : 1000 ≤ N) : Ok_turns N Inv := fun a1 a2 w hI => by
  obtain ⟨o, H, hW, hT⟩ := hI
  have h3 := hW.2.2.1
  have h4 := hW.2.2.2.1
  have hn := hW.1.1
  rcases cix a1 (n := oN o) (by omega) with h | ⟨x, hx, rfl⟩
  · refine ⟨ng 1, w, w, ?_, ?_, o, H, hW, hT⟩
    · unfold f_X4_turns; rw [e_isMate_f hn h3.1 h]; simp only [bs, l0, l1, l2, l3, l4, l5, l6, l7, l8, l9, l10, l12, l15, l30, l31, l32, l40, l42, l48, l57, l60, l64, l98, l99, l100, l109, l110, l112, l115, l265, l1000, l518400, ngd, if_true, if_false, bn0, reduceCtorEq, n10, z1, z3, z0]
    · unfold f_X5_turns; rw [e_misMate_f hn h4.1 h]; simp only [bs, l0, l1, l2, l3, l4, l5, l6, l7, l8, l9, l10, l12, l15, l30, l31, l32, l40, l42, l48, l57, l60, l64, l98, l99, l100, l109, l110, l112, l115, l265, l1000, l518400, ngd, if_true, if_false, bn0, reduceCtorEq, n10, z1, z3, z0]
  rcases cix a2 (n := oN o) (by omega) with h | ⟨y, hy, rfl⟩
  · refine ⟨ng 1, w, w, ?_, ?_, o, H, hW, hT⟩
    · unfold f_X4_turns; rw [e_isMate_t hn h3.1 hx]; simp only [bs, l0, l1, l2, l3, l4, l5, l6, l7, l8, l9, l10, l12, l15, l30, l31, l32, l40, l42, l48, l57, l60, l64, l98, l99, l100, l109, l110, l112, l115, l265, l1000, l518400, ngd, if_true, if_false, bn0, reduceCtorEq, n10, z1, z3, z0]; rw [e_isMate_f hn h3.1 h]; simp only [bs, l0, l1, l2, l3, l4, l5, l6, l7, l8, l9, l10, l12, l15, l30, l31, l32, l40, l42, l48, l57, l60, l64, l98, l99, l100, l109, l110, l112, l115, l265, l1000, l518400, ngd, if_true, if_false, bn0, reduceCtorEq, n10, z1, z3, z0]
    · unfold f_X5_turns; rw [e_misMate_t hn h4.1 hx]; simp only [bs, l0, l1, l2, l3, l4, l5, l6, l7, l8, l9, l10, l12, l15, l30, l31, l32, l40, l42, l48, l57, l60, l64, l98, l99, l100, l109, l110, l112, l115, l265, l1000, l518400, ngd, if_true, if_false, bn0, reduceCtorEq, n10, z1, z3, z0]; rw [e_misMate_f hn h4.1 h]; simp only [bs, l0, l1, l2, l3, l4, l5, l6, l7, l8, l9, l10, l12, l15, l30, l31, l32, l40, l42, l48, l57, l60, l64, l98, l99, l100, l109, l110, l112, l115, l265, l1000, l518400, ngd, if_true, if_false, bn0, reduceCtorEq, n10, z1, z3, z0]
  obtain ⟨wa, ea, u1, u2, hWa⟩ := IW_list (N := N) hN hW
  obtain ⟨h1, h2, h3', h4', h5, h6, h7, h8, h9⟩ := id hWa
  obtain ⟨t1, t2, t3, t4, t5, t6⟩ := id h7
  have hL := LOk_r h1
  have hll := hL.2.1
  have hTa := Itl_ag hT u1
  have hcb := cnb_le (rights o) H
  by_cases c : cnb (rights o) H = 0
  · have h4c := RM_ag h4' (cref_ag 4 wa)
    obtain ⟨w2, e2, b1, b2⟩ := e_setRights (N := N) hN h1 h4c
    have gc := cref_ag 4 wa
    obtain ⟨w3, e3, d1, d2⟩ := e_cans (N := N) (w := w2) hN hL t2 t1 b2 (by rw [agI b1 510 0]; exact h4c.1) (fun z hz => by rw [agA b1 42 0, agA gc 42 0]; exact t6 z hz)
    refine ⟨ng 3, cref 4 wa, mref 4 w3, ?_, ?_, Inv_ref hWa hTa ((b1.mono (by decide)).tr (d1.mono (by decide)) : ag [40, 41, 520, 522, 523, 526] _ w3)⟩
    · unfold f_X4_turns; rw [e_isMate_t hn h3.1 hx]; simp only [bs, l0, l1, l2, l3, l4, l5, l6, l7, l8, l9, l10, l12, l15, l30, l31, l32, l40, l42, l48, l57, l60, l64, l98, l99, l100, l109, l110, l112, l115, l265, l1000, l518400, ngd, if_true, if_false, bn0, reduceCtorEq, n10, z1, z3, z0]; rw [e_isMate_t hn h3.1 hy]; simp only [bs, l0, l1, l2, l3, l4, l5, l6, l7, l8, l9, l10, l12, l15, l30, l31, l32, l40, l42, l48, l57, l60, l64, l98, l99, l100, l109, l110, l112, l115, l265, l1000, l518400, ngd, if_true, if_false, bn0, reduceCtorEq, n10, z1, z3, z0]; rw [ea]; simp only [bs, l0, l1, l2, l3, l4, l5, l6, l7, l8, l9, l10, l12, l15, l30, l31, l32, l40, l42, l48, l57, l60, l64, l98, l99, l100, l109, l110, l112, l115, l265, l1000, l518400, ngd, if_true, if_false, bn0, reduceCtorEq, n10, z1, z3, z0]; rw [t3, e_ones (by omega)]; simp only [bs, l0, l1, l2, l3, l4, l5, l6, l7, l8, l9, l10, l12, l15, l30, l31, l32, l40, l42, l48, l57, l60, l64, l98, l99, l100, l109, l110, l112, l115, l265, l1000, l518400, ngd, if_true, if_false, bn0, reduceCtorEq, n10, z1, z3, z0]; rw [t4, e_fitHat hN hL u2 t2 t1]; simp only [bs, l0, l1, l2, l3, l4, l5, l6, l7, l8, l9, l10, l12, l15, l30, l31, l32, l40, l42, l48, l57, l60, l64, l98, l99, l100, l109, l110, l112, l115, l265, l1000, l518400, ngd, if_true, if_false, bn0, reduceCtorEq, n10, z1, z3, z0]; rw [iT (by rw [c]), e_refuse (by omega)]; simp only [bs, l0, l1, l2, l3, l4, l5, l6, l7, l8, l9, l10, l12, l15, l30, l31, l32, l40, l42, l48, l57, l60, l64, l98, l99, l100, l109, l110, l112, l115, l265, l1000, l518400, ngd, if_true, if_false, bn0, reduceCtorEq, n10, z1, z3, z0]
    · unfold f_X5_turns; rw [e_misMate_t hn h4c.1 hx]; simp only [bs, l0, l1, l2, l3, l4, l5, l6, l7, l8, l9, l10, l12, l15, l30, l31, l32, l40, l42, l48, l57, l60, l64, l98, l99, l100, l109, l110, l112, l115, l265, l1000, l518400, ngd, if_true, if_false, bn0, reduceCtorEq, n10, z1, z3, z0]; rw [e_misMate_t hn h4c.1 hy]; simp only [bs, l0, l1, l2, l3, l4, l5, l6, l7, l8, l9, l10, l12, l15, l30, l31, l32, l40, l42, l48, l57, l60, l64, l98, l99, l100, l109, l110, l112, l115, l265, l1000, l518400, ngd, if_true, if_false, bn0, reduceCtorEq, n10, z1, z3, z0]; rw [e2]; simp only [bs, l0, l1, l2, l3, l4, l5, l6, l7, l8, l9, l10, l12, l15, l30, l31, l32, l40, l42, l48, l57, l60, l64, l98, l99, l100, l109, l110, l112, l115, l265, l1000, l518400, ngd, if_true, if_false, bn0, reduceCtorEq, n10, z1, z3, z0]; rw [show gI w2 524 0 = nI H.length from by rw [agI b1 524 0, agI gc 524 0]; exact t5, e3]; simp only [bs, l0, l1, l2, l3, l4, l5, l6, l7, l8, l9, l10, l12, l15, l30, l31, l32, l40, l42, l48, l57, l60, l64, l98, l99, l100, l109, l110, l112, l115, l265, l1000, l518400, ngd, if_true, if_false, bn0, reduceCtorEq, n10, z1, z3, z0]; rw [d2, iT (by rw [c]), e_meet (by omega)]; simp only [bs, l0, l1, l2, l3, l4, l5, l6, l7, l8, l9, l10, l12, l15, l30, l31, l32, l40, l42, l48, l57, l60, l64, l98, l99, l100, l109, l110, l112, l115, l265, l1000, l518400, ngd, if_true, if_false, bn0, reduceCtorEq, n10, z1, z3, z0]
  have c' : ¬ nI (cnb (rights o) H) = nI 0 := fun q => c ((nI_eq (by omega) (by omega)).mp q)
  have hH : Hs (rights o) H := by
    refine Classical.byContradiction fun q => c ?_
    unfold cnb
    refine cnt_none _ _ _ (fun j _ hj => ?_)
    cases e : bgc (rights o) H j with
    | false => rfl
    | true => exact absurd ⟨j, by omega, e⟩ q
  obtain ⟨M, hM⟩ : ∃ M, M = Mv (oN o) (rights o) x y (oN o - H.length) H 1 := ⟨_, rfl⟩
  obtain ⟨P, hP⟩ : ∃ P, P = 60 ^ (oN o - H.length) := ⟨_, rfl⟩
  have hMP : M ≤ P := by
    have := Mv_le (x := x) (y := y) hL (oN o - H.length) H 1
    rw [Nat.one_mul, ← hM, ← hP] at this; exact this
  have hP0 : 0 < P := by rw [hP]; exact Nat.pow_pos (by omega)
  have hP6 : P ≤ 60 ^ 6 := by rw [hP]; exact Nat.pow_le_pow_right (by omega) (by omega)
  have hP7 : (60 : Nat) ^ 6 < 2 ^ 60 := by decide
  -- what the class tells, and the model tells the same
  have key : ∃ A B, A < 2 ^ 31 ∧ B < 2 ^ 20 ∧ 0 < B ∧ A * P = M * B ∧ f_X4_turns N (nI x) (nI y) w = some (nI 1, sL (sL wa 413 0 (lN (A / Nat.gcd A B))) 414 0 (lN (B / Nat.gcd A B))) := by
    by_cases q : H.length ≤ x
    · have hfst : fst (ftf (rights o) (cd H) (8 ^ H.length - 1)) (rights o).length 0 = fst (bgc (rights o) H) (rights o).length 0 := fst_congr _ _ (fun j _ hj => ftf_bgc hL t2 t1 (by omega))
      cases hs : fst (bgc (rights o) H) (rights o).length 0 with
      | none =>
        obtain ⟨i, i1, i2⟩ := hH
        rw [fst_none _ _ hs i (Nat.zero_le _) (by omega)] at i2; cases i2
      | some s =>
        have hB := blk_hat (rights_pw o) hs
        have hle := hB.2.1
        have hsn : s < (rights o).length := by have := hB.1; omega
        have hid := Cv_Mv (x := x) (y := y) hL hx (x - H.length) (oN o - H.length) H 518400 1 (by omega) (by omega) hH (Dv_all _ (by omega))
        rw [Nat.one_mul, ← hM, ← hP] at hid
        obtain ⟨A, hA⟩ : ∃ A, A = Cv (oN o) (rights o) y (x - H.length) H 518400 := ⟨_, rfl⟩
        rw [← hA] at hid
        have hA2 : A ≤ 518400 := by
          have : A * P ≤ 518400 * P := by rw [← hid, Nat.mul_comm 518400 P]; exact Nat.mul_le_mul_right _ hMP
          exact Nat.le_of_mul_le_mul_right this hP0
        have sh := e_share (N := N) (y := y) (w := wa) hN hL (rights_pw o) u2 hx hy (x - H.length) 8 H s (s + cnb (rights o) H) 518400 (by omega) (by omega) (by omega) hB
        rw [← hA] at sh
        refine ⟨A, 518400, by omega, by omega, by omega, hid.symm, ?_⟩
        unfold f_X4_turns; rw [e_isMate_t hn h3.1 hx]; simp only [bs, l0, l1, l2, l3, l4, l5, l6, l7, l8, l9, l10, l12, l15, l30, l31, l32, l40, l42, l48, l57, l60, l64, l98, l99, l100, l109, l110, l112, l115, l265, l1000, l518400, ngd, if_true, if_false, bn0, reduceCtorEq, n10, z1, z3, z0]; rw [e_isMate_t hn h3.1 hy]; simp only [bs, l0, l1, l2, l3, l4, l5, l6, l7, l8, l9, l10, l12, l15, l30, l31, l32, l40, l42, l48, l57, l60, l64, l98, l99, l100, l109, l110, l112, l115, l265, l1000, l518400, ngd, if_true, if_false, bn0, reduceCtorEq, n10, z1, z3, z0]; rw [ea]; simp only [bs, l0, l1, l2, l3, l4, l5, l6, l7, l8, l9, l10, l12, l15, l30, l31, l32, l40, l42, l48, l57, l60, l64, l98, l99, l100, l109, l110, l112, l115, l265, l1000, l518400, ngd, if_true, if_false, bn0, reduceCtorEq, n10, z1, z3, z0]; rw [t3, e_ones (by omega)]; simp only [bs, l0, l1, l2, l3, l4, l5, l6, l7, l8, l9, l10, l12, l15, l30, l31, l32, l40, l42, l48, l57, l60, l64, l98, l99, l100, l109, l110, l112, l115, l265, l1000, l518400, ngd, if_true, if_false, bn0, reduceCtorEq, n10, z1, z3, z0]; rw [t4, e_fitHat hN hL u2 t2 t1]; simp only [bs, l0, l1, l2, l3, l4, l5, l6, l7, l8, l9, l10, l12, l15, l30, l31, l32, l40, l42, l48, l57, l60, l64, l98, l99, l100, l109, l110, l112, l115, l265, l1000, l518400, ngd, if_true, if_false, bn0, reduceCtorEq, n10, z1, z3, z0]
        rw [iF c', t3, iT (nI_le q (by omega))]
        unfold f_X2_shareByTurns
        rw [t4, e_ones (by omega)]; simp only [bs, l0, l1, l2, l3, l4, l5, l6, l7, l8, l9, l10, l12, l15, l30, l31, l32, l40, l42, l48, l57, l60, l64, l98, l99, l100, l109, l110, l112, l115, l265, l1000, l518400, ngd, if_true, if_false, bn0, reduceCtorEq, n10, z1, z3, z0]; rw [e_placeOf hN hL u2 (hat_cd hn t2 t1), hfst, hs]; simp only [bs, l0, l1, l2, l3, l4, l5, l6, l7, l8, l9, l10, l12, l15, l30, l31, l32, l40, l42, l48, l57, l60, l64, l98, l99, l100, l109, l110, l112, l115, l265, l1000, l518400, ngd, if_true, if_false, bn0, reduceCtorEq, n10, z1, z3, z0]
        rw [show oi (some s) = nI s from rfl, iF (show ¬ nI s = ng 9 from by rw [nI_ng (by omega) (by omega) (by omega)]; simp), e_fitHat hN hL u2 t2 t1]; simp only [bs, l0, l1, l2, l3, l4, l5, l6, l7, l8, l9, l10, l12, l15, l30, l31, l32, l40, l42, l48, l57, l60, l64, l98, l99, l100, l109, l110, l112, l115, l265, l1000, l518400, ngd, if_true, if_false, bn0, reduceCtorEq, n10, z1, z3, z0]
        rw [nI_add, sh]; simp only [bs, l0, l1, l2, l3, l4, l5, l6, l7, l8, l9, l10, l12, l15, l30, l31, l32, l40, l42, l48, l57, l60, l64, l98, l99, l100, l109, l110, l112, l115, l265, l1000, l518400, ngd, if_true, if_false, bn0, reduceCtorEq, n10, z1, z3, z0]
        rw [e_tellFraction hN (by omega) (by omega) (by omega)]; simp only [bs, l0, l1, l2, l3, l4, l5, l6, l7, l8, l9, l10, l12, l15, l30, l31, l32, l40, l42, l48, l57, l60, l64, l98, l99, l100, l109, l110, l112, l115, l265, l1000, l518400, ngd, if_true, if_false, bn0, reduceCtorEq, n10, z1, z3, z0]
    · have hd := Mv_deep (y := y) hL (oN o - H.length) H 1 (by omega) (show x < H.length by omega) hH
      rw [← hM, ← hP] at hd
      have h8' : ∀ y ∈ H, y < 8 := fun y hy => by have := t2 y hy; omega
      have hcd := cd_small h8' (by omega)
      have hdl := t2 _ (dg_mem (d := H) (x := x) (by omega))
      by_cases q2 : dg H x = y
      · rw [if_pos q2] at hd
        refine ⟨1, 1, by omega, by omega, by omega, by rw [hd, Nat.mul_one], ?_⟩
        unfold f_X4_turns; rw [e_isMate_t hn h3.1 hx]; simp only [bs, l0, l1, l2, l3, l4, l5, l6, l7, l8, l9, l10, l12, l15, l30, l31, l32, l40, l42, l48, l57, l60, l64, l98, l99, l100, l109, l110, l112, l115, l265, l1000, l518400, ngd, if_true, if_false, bn0, reduceCtorEq, n10, z1, z3, z0]; rw [e_isMate_t hn h3.1 hy]; simp only [bs, l0, l1, l2, l3, l4, l5, l6, l7, l8, l9, l10, l12, l15, l30, l31, l32, l40, l42, l48, l57, l60, l64, l98, l99, l100, l109, l110, l112, l115, l265, l1000, l518400, ngd, if_true, if_false, bn0, reduceCtorEq, n10, z1, z3, z0]; rw [ea]; simp only [bs, l0, l1, l2, l3, l4, l5, l6, l7, l8, l9, l10, l12, l15, l30, l31, l32, l40, l42, l48, l57, l60, l64, l98, l99, l100, l109, l110, l112, l115, l265, l1000, l518400, ngd, if_true, if_false, bn0, reduceCtorEq, n10, z1, z3, z0]; rw [t3, e_ones (by omega)]; simp only [bs, l0, l1, l2, l3, l4, l5, l6, l7, l8, l9, l10, l12, l15, l30, l31, l32, l40, l42, l48, l57, l60, l64, l98, l99, l100, l109, l110, l112, l115, l265, l1000, l518400, ngd, if_true, if_false, bn0, reduceCtorEq, n10, z1, z3, z0]; rw [t4, e_fitHat hN hL u2 t2 t1]; simp only [bs, l0, l1, l2, l3, l4, l5, l6, l7, l8, l9, l10, l12, l15, l30, l31, l32, l40, l42, l48, l57, l60, l64, l98, l99, l100, l109, l110, l112, l115, l265, l1000, l518400, ngd, if_true, if_false, bn0, reduceCtorEq, n10, z1, z3, z0]
        rw [iF c', t3, iF (nI_ge (by omega) (by omega)), t4, e_paper (by omega) (by omega), pp_cd H x h8']; simp only [bs, l0, l1, l2, l3, l4, l5, l6, l7, l8, l9, l10, l12, l15, l30, l31, l32, l40, l42, l48, l57, l60, l64, l98, l99, l100, l109, l110, l112, l115, l265, l1000, l518400, ngd, if_true, if_false, bn0, reduceCtorEq, n10, z1, z3, z0]
        rw [iT (by rw [q2]), e_tellFraction hN (by omega) (by omega) (by omega)]; simp only [bs, l0, l1, l2, l3, l4, l5, l6, l7, l8, l9, l10, l12, l15, l30, l31, l32, l40, l42, l48, l57, l60, l64, l98, l99, l100, l109, l110, l112, l115, l265, l1000, l518400, ngd, if_true, if_false, bn0, reduceCtorEq, n10, z1, z3, z0]
      · rw [if_neg q2, Nat.zero_mul] at hd
        refine ⟨0, 1, by omega, by omega, by omega, by rw [hd, Nat.zero_mul, Nat.zero_mul], ?_⟩
        unfold f_X4_turns; rw [e_isMate_t hn h3.1 hx]; simp only [bs, l0, l1, l2, l3, l4, l5, l6, l7, l8, l9, l10, l12, l15, l30, l31, l32, l40, l42, l48, l57, l60, l64, l98, l99, l100, l109, l110, l112, l115, l265, l1000, l518400, ngd, if_true, if_false, bn0, reduceCtorEq, n10, z1, z3, z0]; rw [e_isMate_t hn h3.1 hy]; simp only [bs, l0, l1, l2, l3, l4, l5, l6, l7, l8, l9, l10, l12, l15, l30, l31, l32, l40, l42, l48, l57, l60, l64, l98, l99, l100, l109, l110, l112, l115, l265, l1000, l518400, ngd, if_true, if_false, bn0, reduceCtorEq, n10, z1, z3, z0]; rw [ea]; simp only [bs, l0, l1, l2, l3, l4, l5, l6, l7, l8, l9, l10, l12, l15, l30, l31, l32, l40, l42, l48, l57, l60, l64, l98, l99, l100, l109, l110, l112, l115, l265, l1000, l518400, ngd, if_true, if_false, bn0, reduceCtorEq, n10, z1, z3, z0]; rw [t3, e_ones (by omega)]; simp only [bs, l0, l1, l2, l3, l4, l5, l6, l7, l8, l9, l10, l12, l15, l30, l31, l32, l40, l42, l48, l57, l60, l64, l98, l99, l100, l109, l110, l112, l115, l265, l1000, l518400, ngd, if_true, if_false, bn0, reduceCtorEq, n10, z1, z3, z0]; rw [t4, e_fitHat hN hL u2 t2 t1]; simp only [bs, l0, l1, l2, l3, l4, l5, l6, l7, l8, l9, l10, l12, l15, l30, l31, l32, l40, l42, l48, l57, l60, l64, l98, l99, l100, l109, l110, l112, l115, l265, l1000, l518400, ngd, if_true, if_false, bn0, reduceCtorEq, n10, z1, z3, z0]
        rw [iF c', t3, iF (nI_ge (by omega) (by omega)), t4, e_paper (by omega) (by omega), pp_cd H x h8']; simp only [bs, l0, l1, l2, l3, l4, l5, l6, l7, l8, l9, l10, l12, l15, l30, l31, l32, l40, l42, l48, l57, l60, l64, l98, l99, l100, l109, l110, l112, l115, l265, l1000, l518400, ngd, if_true, if_false, bn0, reduceCtorEq, n10, z1, z3, z0]
        rw [iF (fun z => q2 ((nI_eq (by omega) (by omega)).mp z)), e_tellFraction hN (by omega) (by omega) (by omega)]; simp only [bs, l0, l1, l2, l3, l4, l5, l6, l7, l8, l9, l10, l12, l15, l30, l31, l32, l40, l42, l48, l57, l60, l64, l98, l99, l100, l109, l110, l112, l115, l265, l1000, l518400, ngd, if_true, if_false, bn0, reduceCtorEq, n10, z1, z3, z0]
  obtain ⟨A, B, hA, hB, hB0, hid, hcl⟩ := key
  obtain ⟨e1, e2⟩ := frac_same hB0 hP0 hid
  obtain ⟨u, hu⟩ : ∃ u, u = lN (A / Nat.gcd A B) := ⟨_, rfl⟩
  obtain ⟨l, hl⟩ : ∃ l, l = lN (B / Nat.gcd A B) := ⟨_, rfl⟩
  rw [← hu, ← hl] at hcl
  rw [e1] at hu
  rw [e2] at hl
  have hW1 : IW o H (sL (sL wa 413 0 u) 414 0 l) := IW_ag hWa (((ag.rf [413, 414] wa).sL (by simp)).sL (by simp))
  obtain ⟨w7, m1, m2, m3⟩ := e_mturns (x := x) (y := y) hN hW1 hx hy c
  rw [← hM, ← hP, e_part hN (by omega) (by omega) hP0, ← hu, ← hl] at m1
  exact ⟨nI 1, _, _, hcl, m1, o, H, IW_ag m3 (((ag.rf [503, 504] w7).sL (by simp)).sL (by simp)), Itl_frac hTa m2⟩
