/-! count -/
theorem e_many_L {N g i n : Nat} {w : Wd} (hn : n < 500) (ha : (arr g).2 = n) : ∀ (m k c F : Nat), k + m = n → m < F → X4_howManyThere_L1 N g i F (nI c) (nI k) w = some (nI (cnt (fun k => decide (¬ gA w g i k = ng 1)) m k c), w) := by
  intro m
  induction m with
  | zero =>
    intro k c F hk hF
    obtain ⟨F, rfl, _⟩ := fuel_s hF
    rw [X4_howManyThere_L1, ha, show Int32.ofNat n = nI n from rfl, iT (nI_le (by omega) (by omega)), cnt]
  | succ m ih =>
    intro k c F hk hF
    obtain ⟨F, rfl, hF'⟩ := fuel_s hF
    rw [X4_howManyThere_L1, ha, show Int32.ofNat n = nI n from rfl, iF (nI_ge (by omega) (by omega)), gd_in (by omega) (by omega), nI_clamp (by omega)]
    simp only [bs, l0, l1, l2, l3, l4, l5, l6, l7, l8, l9, l10, l12, l15, l30, l31, l32, l40, l42, l48, l57, l60, l64, l98, l99, l100, l109, l110, l112, l115, l265, l1000, l518400, ngd]
    by_cases q : gA w g i k = ng 1
    · rw [iT q, nI_add, ih (k + 1) _ F (by omega) (by omega), cnt_f (by simp [q])]
    · rw [iF q, nI_add, nI_add, ih (k + 1) _ F (by omega) (by omega), cnt_t (by simp [q])]
theorem e_many {N g i n : Nat} {w : Wd} (hN : 1000 ≤ N) (hn : n < 500) (ha : (arr g).2 = n) : f_X4_howManyThere N g i w = some (nI (cnt (fun k => decide (¬ gA w g i k = ng 1)) n 0 0), w) := by
  unfold f_X4_howManyThere
  simp only [bs, l0, l1, l2, l3, l4, l5, l6, l7, l8, l9, l10, l12, l15, l30, l31, l32, l40, l42, l48, l57, l60, l64, l98, l99, l100, l109, l110, l112, l115, l265, l1000, l518400, ngd]
  rw [e_many_L hn ha n 0 0 N (by omega) (by omega)]; simp only [bs, l0, l1, l2, l3, l4, l5, l6, l7, l8, l9, l10, l12, l15, l30, l31, l32, l40, l42, l48, l57, l60, l64, l98, l99, l100, l109, l110, l112, l115, l265, l1000, l518400, ngd]
theorem e_howOf_L {N q : Nat} {o : Of} {w : Wd} (h : RO 0 o w) (hf : Wf o) (hq : q < 10) : ∀ (m k c F : Nat), k + m = oN o → m < F → X0_howManyOf_L1 N 0 (nI q) F (nI c) (nI k) w = some (nI (cnt (fun k => isO (oK o k) q) m k c), w) := by
  have hn := hf.1
  intro m
  induction m with
  | zero =>
    intro k c F hk hF
    obtain ⟨F, rfl, _⟩ := fuel_s hF
    rw [X0_howManyOf_L1, h.1, iT (nI_le (by omega) (by omega)), cnt]
  | succ m ih =>
    intro k c F hk hF
    obtain ⟨F, rfl, hF'⟩ := fuel_s hF
    have kk := (hf.2.2.1 k (by omega)).1
    rw [X0_howManyOf_L1, h.1, iF (nI_ge (by omega) (by omega)), gd_in (by omega) (by omega), nI_clamp (by omega), (h.2.2.2.1 k (by omega)).1, e_isOf (by omega) (by omega)]
    simp only [bs, l0, l1, l2, l3, l4, l5, l6, l7, l8, l9, l10, l12, l15, l30, l31, l32, l40, l42, l48, l57, l60, l64, l98, l99, l100, l109, l110, l112, l115, l265, l1000, l518400, ngd]
    cases e : isO (oK o k) q with
    | false => rw [iT bnFc, nI_add, ih (k + 1) _ F (by omega) (by omega), cnt_f (f := fun k => isO (oK o k) q) e]
    | true => rw [iF bnTc, nI_add, nI_add, ih (k + 1) _ F (by omega) (by omega), cnt_t (f := fun k => isO (oK o k) q) e]
theorem e_howOf {N q : Nat} {o : Of} {w : Wd} (hN : 1000 ≤ N) (h : RO 0 o w) (hf : Wf o) (hq : q < 10) : f_X0_howManyOf N 0 (nI q) w = some (nI (cnt (fun k => isO (oK o k) q) (oN o) 0 0), w) := by
  have hn := hf.1
  unfold f_X0_howManyOf
  simp only [bs, l0, l1, l2, l3, l4, l5, l6, l7, l8, l9, l10, l12, l15, l30, l31, l32, l40, l42, l48, l57, l60, l64, l98, l99, l100, l109, l110, l112, l115, l265, l1000, l518400, ngd]
  rw [e_howOf_L h hf hq (oN o) 0 0 N (by omega) (by omega)]; simp only [bs, l0, l1, l2, l3, l4, l5, l6, l7, l8, l9, l10, l12, l15, l30, l31, l32, l40, l42, l48, l57, l60, l64, l98, l99, l100, l109, l110, l112, l115, l265, l1000, l518400, ngd]
def ctv (o : Of) (H : List Nat) (w : Wd) (q : Nat) : Nat :=
  if q = 0 then oN o else if q = 1 then H.length else if q = 2 then oC o
  else if q = 3 then cnt (fun k => isO (oK o k) 1) (oN o) 0 0
  else if q = 4 then cnt (fun k => isO (oK o k) 2) (oN o) 0 0
  else if q = 5 then cnt (fun k => decide (¬ gA w 23 0 k = ng 1)) 3 0 0
  else if q = 6 then cnt (fun k => decide (¬ gA w 12 0 k = ng 1)) 6 0 0
  else cnt (fun k => decide (¬ gA w 15 0 k = ng 1)) 4 0 0
theorem e_count {N q : Nat} {o : Of} {H : List Nat} {w : Wd} (hN : 1000 ≤ N) (hW : IW o H w) (hq : q < 8) : f_X4_count N (nI q) w = some (nI (ctv o H w q), w) := by
  obtain ⟨h1, h2, h3, h4, h5, h6, h7, h8, h9⟩ := hW
  unfold f_X4_count ctv
  simp only [bs, l0, l1, l2, l3, l4, l5, l6, l7, l8, l9, l10, l12, l15, l30, l31, l32, l40, l42, l48, l57, l60, l64, l98, l99, l100, l109, l110, l112, l115, l265, l1000, l518400, ngd]
  rw [h3.1, h7.2.2.1, h3.2.1, e_howOf hN h3 h1 (by omega), e_howOf hN h3 h1 (by omega), e_many (n := 3) hN (by omega) rfl, e_many (n := 6) hN (by omega) rfl, e_many (n := 4) hN (by omega) rfl]
  simp only [bs, l0, l1, l2, l3, l4, l5, l6, l7, l8, l9, l10, l12, l15, l30, l31, l32, l40, l42, l48, l57, l60, l64, l98, l99, l100, l109, l110, l112, l115, l265, l1000, l518400, ngd]
  rcases (show q = 0 ∨ q = 1 ∨ q = 2 ∨ q = 3 ∨ q = 4 ∨ q = 5 ∨ q = 6 ∨ q = 7 by omega) with rfl | rfl | rfl | rfl | rfl | rfl | rfl | rfl <;> simp (disch := omega) only [nI_leI, nI_ltI, nI_eq, iT, iF, if_true, if_false]
def tqf (o : Of) (w : Wd) (q k : Nat) : Bool := decide ((q = 3 ∧ k < oN o ∧ isO (oK o k) 1 = true) ∨ (q = 4 ∧ k < oN o ∧ isO (oK o k) 2 = true) ∨ (q = 5 ∧ k < 3 ∧ ¬ gA w 44 0 (8 * k) = ng 9) ∨ (q = 6 ∧ nI 0 ≤ gA w 31 0 k) ∨ (q = 7 ∧ k < 4 ∧ ¬ gA w 34 0 k < nI 0))
theorem e_tells_L {N q : Nat} {o : Of} {w : Wd} (h : RM o w) (hf : Wf o) (hq : q < 8) : ∀ (m k c F : Nat), k + m = 6 → m < F → X5_tells_L1 N (nI q) F (nI c) (nI k) w = some (nI (cnt (tqf o w q) m k c), w) := by
  have hn := hf.1
  intro m
  induction m with
  | zero =>
    intro k c F hk hF
    obtain ⟨F, rfl, _⟩ := fuel_s hF
    rw [X5_tells_L1, l6, iT (nI_le (by omega) (by omega)), cnt]
  | succ m ih =>
    intro k c F hk hF
    obtain ⟨F, rfl, hF'⟩ := fuel_s hF
    have yes : tqf o w q k = true → X5_tells_L1 N (nI q) F (nI c + nI 1) (nI k + nI 1) w = some (nI (cnt (tqf o w q) (m + 1) k c), w) := fun e => by
      rw [nI_add, nI_add, ih (k + 1) _ F (by omega) (by omega), cnt_t e]
    have no : tqf o w q k = false → X5_tells_L1 N (nI q) F (nI c + nI 0) (nI k + nI 1) w = some (nI (cnt (tqf o w q) (m + 1) k c), w) := fun e => by
      rw [nI_add, nI_add, ih (k + 1) _ F (by omega) (by omega), cnt_f e]; rfl
    rw [X5_tells_L1]
    unfold X5_tells_J33 X5_tells_J55 X5_tells_J79 X5_tells_J94
    simp only [bs, l0, l1, l2, l3, l4, l5, l6, l7, l8, l9, l10, l12, l15, l30, l31, l32, l40, l42, l48, l57, l60, l64, l98, l99, l100, l109, l110, l112, l115, l265, l1000, l518400, ngd]
    rw [iF (nI_ge (by omega) (by omega)), h.1, pk_mul]
    rcases (show q = 0 ∨ q = 1 ∨ q = 2 ∨ q = 3 ∨ q = 4 ∨ q = 5 ∨ q = 6 ∨ q = 7 by omega) with rfl | rfl | rfl | rfl | rfl | rfl | rfl | rfl
    · simp (disch := omega) only [nI_leI, nI_ltI, nI_eq, iT, iF, if_true, if_false]; exact no (by unfold tqf; simp)
    · simp (disch := omega) only [nI_leI, nI_ltI, nI_eq, iT, iF, if_true, if_false]; exact no (by unfold tqf; simp)
    · simp (disch := omega) only [nI_leI, nI_ltI, nI_eq, iT, iF, if_true, if_false]; exact no (by unfold tqf; simp)
    · by_cases c1 : k < oN o
      · have kk := (hf.2.2.1 k c1).1
        simp (disch := omega) only [nI_leI, nI_ltI, nI_eq, iT, iF, if_true, if_false]
        rw [e_isA h hf c1 (by omega)]
        simp only [bs, l0, l1, l2, l3, l4, l5, l6, l7, l8, l9, l10, l12, l15, l30, l31, l32, l40, l42, l48, l57, l60, l64, l98, l99, l100, l109, l110, l112, l115, l265, l1000, l518400, ngd]
        cases e : isO (oK o k) 1 with
        | false => rw [iT bnFc]; exact no (by unfold tqf; simp [e])
        | true => rw [iF bnTc]; exact yes (by unfold tqf; simp [e, c1])
      · simp (disch := omega) only [nI_leI, nI_ltI, nI_eq, iT, iF, if_true, if_false]; exact no (by unfold tqf; simp [c1])
    · by_cases c1 : k < oN o
      · have kk := (hf.2.2.1 k c1).1
        simp (disch := omega) only [nI_leI, nI_ltI, nI_eq, iT, iF, if_true, if_false]
        rw [e_isA h hf c1 (by omega)]
        simp only [bs, l0, l1, l2, l3, l4, l5, l6, l7, l8, l9, l10, l12, l15, l30, l31, l32, l40, l42, l48, l57, l60, l64, l98, l99, l100, l109, l110, l112, l115, l265, l1000, l518400, ngd]
        cases e : isO (oK o k) 2 with
        | false => rw [iT bnFc]; exact no (by unfold tqf; simp [e])
        | true => rw [iF bnTc]; exact yes (by unfold tqf; simp [e, c1])
      · simp (disch := omega) only [nI_leI, nI_ltI, nI_eq, iT, iF, if_true, if_false]; exact no (by unfold tqf; simp [c1])
    · by_cases c1 : k < 3
      · simp (disch := omega) only [nI_leI, nI_ltI, nI_eq, iT, iF, if_true, if_false]
        rw [gd_in (by omega) (by omega), nI_clamp (by omega)]
        by_cases c2 : gA w 44 0 (8 * k) = ng 9
        · rw [iT c2]; exact no (by unfold tqf; simp [c2])
        · rw [iF c2]; exact yes (by unfold tqf; simp [c1, c2])
      · simp (disch := omega) only [nI_leI, nI_ltI, nI_eq, iT, iF, if_true, if_false]; exact no (by unfold tqf; simp [c1])
    · simp (disch := omega) only [nI_leI, nI_ltI, nI_eq, iT, iF, if_true, if_false]
      rw [gd_in (by omega) (by omega), nI_clamp (by omega)]
      by_cases c2 : nI 0 ≤ gA w 31 0 k
      · rw [iT c2]; exact yes (by unfold tqf; simp [c2])
      · rw [iF c2]; exact no (by unfold tqf; simp [c2])
    · by_cases c1 : k < 4
      · simp (disch := omega) only [nI_leI, nI_ltI, nI_eq, iT, iF, if_true, if_false]
        rw [gd_in c1 (by omega), nI_clamp (by omega)]
        by_cases c2 : gA w 34 0 k < nI 0
        · rw [iT c2]; exact no (by unfold tqf; simp [c2])
        · rw [iF c2]; exact yes (by unfold tqf; simp [c1, c2])
      · simp (disch := omega) only [nI_leI, nI_ltI, nI_eq, iT, iF, if_true, if_false]; exact no (by unfold tqf; simp [c1])
theorem szr_ge {a b : Int32} {M : Nat} (h : szr a b M) (hM : M < 1000) : (nI 0 ≤ b ↔ ¬ a = ng 1) ∧ (¬ b < nI 0 ↔ ¬ a = ng 1) := by
  rcases h with ⟨rfl, rfl⟩ | ⟨n, hn, rfl, rfl⟩
  · decide
  · rw [nI_ng (by omega) (by omega) (by omega)]
    refine ⟨⟨fun _ => by simp, fun _ => nI_le (by omega) (by omega)⟩, ⟨fun _ => by simp, fun _ => nI_nlt (by omega) (by omega)⟩⟩
theorem e_tells {N q : Nat} {o : Of} {H : List Nat} {w : Wd} (hN : 1000 ≤ N) (hW : IW o H w) (hq : q < 8) : f_X5_tells N (nI q) w = some (nI (ctv o H w q), w) := by
  obtain ⟨h1, h2, h3, h4, h5, h6, h7, h8, h9⟩ := hW
  have hn := h1.1
  unfold f_X5_tells ctv
  simp only [bs, l0, l1, l2, l3, l4, l5, l6, l7, l8, l9, l10, l12, l15, l30, l31, l32, l40, l42, l48, l57, l60, l64, l98, l99, l100, l109, l110, l112, l115, l265, l1000, l518400, ngd]
  rw [e_tells_L h4 h1 hq 6 0 0 N (by omega) (by omega)]
  simp only [bs, l0, l1, l2, l3, l4, l5, l6, l7, l8, l9, l10, l12, l15, l30, l31, l32, l40, l42, l48, l57, l60, l64, l98, l99, l100, l109, l110, l112, l115, l265, l1000, l518400, ngd]
  rw [h4.1, h7.2.2.2.2.1, h4.2.1]
  rcases (show q = 0 ∨ q = 1 ∨ q = 2 ∨ q = 3 ∨ q = 4 ∨ q = 5 ∨ q = 6 ∨ q = 7 by omega) with rfl | rfl | rfl | rfl | rfl | rfl | rfl | rfl <;> simp (disch := omega) only [nI_leI, nI_ltI, nI_eq, iT, iF, if_true, if_false]
  · rw [show 6 = oN o + (6 - oN o) by omega, cnt_app, cnt_none (6 - oN o) _ _ (fun j a b => by unfold tqf; simp; omega), cnt_congr (g := fun k => isO (oK o k) 1) (oN o) 0 0 (fun j _ b => by unfold tqf; simp; omega)]
  · rw [show 6 = oN o + (6 - oN o) by omega, cnt_app, cnt_none (6 - oN o) _ _ (fun j a b => by unfold tqf; simp; omega), cnt_congr (g := fun k => isO (oK o k) 2) (oN o) 0 0 (fun j _ b => by unfold tqf; simp; omega)]
  · rw [show 6 = 3 + 3 from rfl, cnt_app, cnt_none 3 _ _ (fun j a b => by unfold tqf; simp; omega), cnt_congr (g := fun k => decide (¬ gA w 23 0 k = ng 1)) 3 0 0 (fun j _ b => by
      have hj : j < 3 := by omega
      unfold tqf
      rcases h8 j hj with ⟨k1, k2⟩ | ⟨K, v, k1, k2, k3, k4, k5, k6, k7, k8, k9⟩
      · simp [k1, k2]
      · have hk : K.length ≤ 6 := Nat.le_trans k1 hn
        have e1 : ¬ nI K.length = ng 1 := by rw [nI_ng (by omega) (by omega) (by omega)]; simp
        have e2 : ¬ nI K.length = ng 9 := by rw [nI_ng (by omega) (by omega) (by omega)]; simp
        simp [k4, k7, e1, e2, hj])]
  · rw [cnt_congr (g := fun k => decide (¬ gA w 12 0 k = ng 1)) 6 0 0 (fun j _ b => by
      have hj : j < 6 := by omega
      have e := (szr_ge (h5 j hj).1 (by omega)).1
      unfold tqf
      simp [e])]
  · rw [show 6 = 4 + 2 from rfl, cnt_app, cnt_none 2 _ _ (fun j a b => by unfold tqf; simp; omega), cnt_congr (g := fun k => decide (¬ gA w 15 0 k = ng 1)) 4 0 0 (fun j _ b => by
      have hj : j < 4 := by omega
      have e := (szr_ge (h6 j hj).1 (by omega)).2
      unfold tqf
      simp only [e, hj]
      simp)]
theorem ok_count {N : Nat} (hN : 1000 ≤ N) : Ok_count N Inv := fun a1 w hI => by
  obtain ⟨o, H, hW, hT⟩ := hI
  rcases cix a1 (n := 8) (by omega) with h | ⟨q, hq, rfl⟩
  · refine ⟨ng 1, w, w, ?_, ?_, o, H, hW, hT⟩
    · have ne : ∀ j : Nat, j < 8 → ¬ a1 = nI j := fun j hj e => by
        rw [e, nI_toInt (by omega)] at h; omega
      unfold f_X4_count; simp only [bs, l0, l1, l2, l3, l4, l5, l6, l7, l8, l9, l10, l12, l15, l30, l31, l32, l40, l42, l48, l57, l60, l64, l98, l99, l100, l109, l110, l112, l115, l265, l1000, l518400, ngd, if_true, if_false, bn0, reduceCtorEq, n10, z1, z3, z0]
      rw [iF (ne 0 (by omega)), iF (ne 1 (by omega)), iF (ne 2 (by omega)), iF (ne 3 (by omega)), iF (ne 4 (by omega)), iF (ne 5 (by omega)), iF (ne 6 (by omega)), iF (ne 7 (by omega))]
    · unfold f_X5_count; rw [show (7 : Int32) = nI 7 from rfl, show (0 : Int32) = nI 0 from rfl, e_in_f (n := 8) (by omega) h (by decide)]; simp only [bs, l0, l1, l2, l3, l4, l5, l6, l7, l8, l9, l10, l12, l15, l30, l31, l32, l40, l42, l48, l57, l60, l64, l98, l99, l100, l109, l110, l112, l115, l265, l1000, l518400, ngd, if_true, if_false, bn0, reduceCtorEq, n10, z1, z3, z0]
  · refine ⟨nI (ctv o H w q), w, w, e_count hN hW hq, ?_, o, H, hW, hT⟩
    unfold f_X5_count; simp only [bs, l0, l1, l2, l3, l4, l5, l6, l7, l8, l9, l10, l12, l15, l30, l31, l32, l40, l42, l48, l57, l60, l64, l98, l99, l100, l109, l110, l112, l115, l265, l1000, l518400, ngd, if_true, if_false, bn0, reduceCtorEq, n10, z1, z3, z0]; rw [e_in_t (n := 8) (by omega) hq (by decide)]; simp only [bs, l0, l1, l2, l3, l4, l5, l6, l7, l8, l9, l10, l12, l15, l30, l31, l32, l40, l42, l48, l57, l60, l64, l98, l99, l100, l109, l110, l112, l115, l265, l1000, l518400, ngd, if_true, if_false, bn0, reduceCtorEq, n10, z1, z3, z0]; rw [e_tells hN hW hq]; simp only [bs, l0, l1, l2, l3, l4, l5, l6, l7, l8, l9, l10, l12, l15, l30, l31, l32, l40, l42, l48, l57, l60, l64, l98, l99, l100, l109, l110, l112, l115, l265, l1000, l518400, ngd, if_true, if_false, bn0, reduceCtorEq, n10, z1, z3, z0]
