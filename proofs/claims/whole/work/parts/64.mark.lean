/-! mark -/
theorem e_otherT_L {N x : Nat} {o : Of} {w : Wd} (h : RO 0 o w) (hf : Wf o) (hx : x < oN o) : ∀ (m k c F : Nat), k + m = oN o → m < F → X0_othersAtTable_L1 N 0 (nI x) F (nI c) (nI k) w = some (nI (cnt (fun y => decide (y ≠ x ∧ oT o y = oT o x)) m k c), w) := by
  have hn := hf.1
  have tx := (hf.2.2.1 x hx).2.1
  intro m
  induction m with
  | zero =>
    intro k c F hk hF
    obtain ⟨F, rfl, _⟩ := fuel_s hF
    rw [X0_othersAtTable_L1, h.1, iT (nI_le (by omega) (by omega)), cnt]
  | succ m ih =>
    intro k c F hk hF
    obtain ⟨F, rfl, hF'⟩ := fuel_s hF
    have tk := (hf.2.2.1 k (by omega)).2.1
    rw [X0_othersAtTable_L1, h.1, iF (nI_ge (by omega) (by omega)), gd_in (by omega) (by omega), gd_in (by omega) (by omega), nI_clamp (by omega), nI_clamp (by omega), (h.2.2.2.1 k (by omega)).2.1, (h.2.2.2.1 x hx).2.1]
    simp only [bs, l0, l1, l2, l3, l4, l5, l6, l7, l8, l9, l10, l12, l15, l30, l31, l32, l40, l42, l48, l57, l60, l64, l98, l99, l100, l109, l110, l112, l115, l265, l1000, l518400, ngd]
    by_cases q : k = x
    · rw [iT (by rw [q]), nI_add, ih (k + 1) _ F (by omega) (by omega), cnt_f (by simp [q])]
    · rw [iF (fun z => q ((nI_eq (by omega) (by omega)).mp z))]
      by_cases q2 : oT o k = oT o x
      · rw [iT (by rw [q2]), nI_add, nI_add, ih (k + 1) _ F (by omega) (by omega), cnt_t (by simp [q, q2])]
      · rw [iF (fun z => q2 ((nI_eq (by omega) (by omega)).mp z)), nI_add, ih (k + 1) _ F (by omega) (by omega), cnt_f (by simp [q2])]
theorem e_paired_L {N x : Nat} {o : Of} {w : Wd} (h : RO 0 o w) (hf : Wf o) (hx : x < oN o) : ∀ (m k c F : Nat), k + m = oC o → m < F → X0_yearsPaired_L1 N 0 (nI x) F (nI c) (nI k) w = some (nI (cnt (fun k => decide (ypp o k (ypp o k x) = x)) m k c), w) := by
  have hn := hf.1
  have hc := hf.2.2.2.1
  intro m
  induction m with
  | zero =>
    intro k c F hk hF
    obtain ⟨F, rfl, _⟩ := fuel_s hF
    rw [X0_yearsPaired_L1, h.2.1, iT (nI_le (by omega) (by omega)), cnt]
  | succ m ih =>
    intro k c F hk hF
    obtain ⟨F, rfl, hF'⟩ := fuel_s hF
    have hp := Wf_yr hf (k := k) (by omega)
    have hcd := Pm_cd hp hn
    have hlt := Pm_dg hp hx
    have hlt2 := Pm_dg hp hlt
    rw [X0_yearsPaired_L1, h.2.1, iF (nI_ge (by omega) (by omega)), gd_in (by omega) (by omega), gd_in (by omega) (by omega), nI_clamp (by omega), h.2.2.2.2 k (by omega), e_paper (by omega) (by omega), Pm_pp hp hn]
    simp only [bs, l0, l1, l2, l3, l4, l5, l6, l7, l8, l9, l10, l12, l15, l30, l31, l32, l40, l42, l48, l57, l60, l64, l98, l99, l100, l109, l110, l112, l115, l265, l1000, l518400, ngd]
    rw [e_paper (by omega) (by omega), Pm_pp hp hn]
    simp only [bs, l0, l1, l2, l3, l4, l5, l6, l7, l8, l9, l10, l12, l15, l30, l31, l32, l40, l42, l48, l57, l60, l64, l98, l99, l100, l109, l110, l112, l115, l265, l1000, l518400, ngd]
    by_cases q : dg (dr (oY o) k) (dg (dr (oY o) k) x) = x
    · rw [iT (by rw [q]), nI_add, nI_add, ih (k + 1) _ F (by omega) (by omega), cnt_t (by unfold ypp; simp [q])]
    · rw [iF (fun z => q ((nI_eq (by omega) (by omega)).mp z)), nI_add, ih (k + 1) _ F (by omega) (by omega), cnt_f (by unfold ypp; simp [q])]
theorem e_worth_L {N x : Nat} {o : Of} {w : Wd} (h : RO 0 o w) (hf : Wf o) (hx : x < oN o) : ∀ (m k c F : Nat), k + m = oN o → m < F → X0_worthier_L1 N 0 (nI x) F (nI c) (nI k) w = some (nI (cnt (fun y => decide (oW o x < oW o y)) m k c), w) := by
  have hn := hf.1
  have tx := (hf.2.2.1 x hx).2.2
  intro m
  induction m with
  | zero =>
    intro k c F hk hF
    obtain ⟨F, rfl, _⟩ := fuel_s hF
    rw [X0_worthier_L1, h.1, iT (nI_le (by omega) (by omega)), cnt]
  | succ m ih =>
    intro k c F hk hF
    obtain ⟨F, rfl, hF'⟩ := fuel_s hF
    have tk := (hf.2.2.1 k (by omega)).2.2
    rw [X0_worthier_L1, h.1, iF (nI_ge (by omega) (by omega)), gd_in (by omega) (by omega), gd_in (by omega) (by omega), nI_clamp (by omega), nI_clamp (by omega), (h.2.2.2.1 k (by omega)).2.2, (h.2.2.2.1 x hx).2.2]
    simp only [bs, l0, l1, l2, l3, l4, l5, l6, l7, l8, l9, l10, l12, l15, l30, l31, l32, l40, l42, l48, l57, l60, l64, l98, l99, l100, l109, l110, l112, l115, l265, l1000, l518400, ngd]
    by_cases q2 : oW o x < oW o k
    · rw [iF (nI_ge q2 (by omega)), nI_add, nI_add, ih (k + 1) _ F (by omega) (by omega), cnt_t (by simp [q2])]
    · rw [iT (nI_le (by omega) (by omega)), nI_add, ih (k + 1) _ F (by omega) (by omega), cnt_f (by simp [q2])]
theorem e_barred_L {N x : Nat} {o : Of} {w : Wd} (h : RO 0 o w) (hf : Wf o) (hx : x < oN o) : ∀ (m k c F : Nat), k + m = oN o → m < F → X0_othersBarredFrom_L1 N 0 (nI x) F (nI c) (nI k) w = some (nI (cnt (fun y => decide (y ≠ x ∧ ¬ bar o y x = 0)) m k c), w) := by
  have hn := hf.1
  intro m
  induction m with
  | zero =>
    intro k c F hk hF
    obtain ⟨F, rfl, _⟩ := fuel_s hF
    rw [X0_othersBarredFrom_L1, h.1, iT (nI_le (by omega) (by omega)), cnt]
  | succ m ih =>
    intro k c F hk hF
    obtain ⟨F, rfl, hF'⟩ := fuel_s hF
    have hb := bar_le o k x
    rw [X0_othersBarredFrom_L1, h.1, iF (nI_ge (by omega) (by omega)), e_barrier h hf (by omega) hx]
    simp only [bs, l0, l1, l2, l3, l4, l5, l6, l7, l8, l9, l10, l12, l15, l30, l31, l32, l40, l42, l48, l57, l60, l64, l98, l99, l100, l109, l110, l112, l115, l265, l1000, l518400, ngd]
    by_cases q : k = x
    · rw [iT (by rw [q]), nI_add, ih (k + 1) _ F (by omega) (by omega), cnt_f (by simp [q])]
    · rw [iF (fun z => q ((nI_eq (by omega) (by omega)).mp z))]
      by_cases q2 : bar o k x = 0
      · rw [iT (by rw [q2]), nI_add, ih (k + 1) _ F (by omega) (by omega), cnt_f (by simp [q2])]
      · rw [iF (fun z => q2 ((nI_eq (by omega) (by omega)).mp z)), nI_add, nI_add, ih (k + 1) _ F (by omega) (by omega), cnt_t (by simp [q, q2])]
def mqf (o : Of) (x q y : Nat) : Bool := decide (y ≠ x ∧ ((q = 1 ∧ oT o y = oT o x) ∨ (q = 3 ∧ oW o x < oW o y) ∨ (q = 5 ∧ ¬ bar o y x = 0)))
theorem e_mmark_L1 {N x q : Nat} {o : Of} {w : Wd} (h : RM o w) (hf : Wf o) (hx : x < oN o) (hq : 1 ≤ q ∧ q ≤ 5) : ∀ (m k c F : Nat), k + m = oN o → m < F → X5_mark_L1 N (nI x) (nI q) F (nI c) (nI k) w = some (nI (cnt (mqf o x q) m k c), w) := by
  have hn := hf.1
  obtain ⟨kx, tx, wx⟩ := hf.2.2.1 x hx
  intro m
  induction m with
  | zero =>
    intro k c F hk hF
    obtain ⟨F, rfl, _⟩ := fuel_s hF
    rw [X5_mark_L1, h.1, iT (nI_le (by omega) (by omega)), cnt]
  | succ m ih =>
    intro k c F hk hF
    obtain ⟨F, rfl, hF'⟩ := fuel_s hF
    obtain ⟨kk, tk, wk⟩ := hf.2.2.1 k (by omega)
    have hb := bar_le o k x
    have yes : mqf o x q k = true → X5_mark_L1 N (nI x) (nI q) F (nI c + nI 1) (nI k + nI 1) w = some (nI (cnt (mqf o x q) (m + 1) k c), w) := fun e => by
      rw [nI_add, nI_add, ih (k + 1) _ F (by omega) (by omega), cnt_t e]
    have no : mqf o x q k = false → X5_mark_L1 N (nI x) (nI q) F (nI c + nI 0) (nI k + nI 1) w = some (nI (cnt (mqf o x q) (m + 1) k c), w) := fun e => by
      rw [nI_add, nI_add, ih (k + 1) _ F (by omega) (by omega), cnt_f e]; rfl
    rw [X5_mark_L1, h.1, iF (nI_ge (by omega) (by omega))]
    unfold X5_mark_J59 X5_mark_J88 X5_mark_J109
    rw [gd_in (by omega) (by omega), gd_in (by omega) (by omega), gd_in (by omega) (by omega), gd_in (by omega) (by omega), nI_clamp (by omega), nI_clamp (by omega), (h.2.2.2.1 k (by omega)).2.1, (h.2.2.2.1 x hx).2.1, (h.2.2.2.1 k (by omega)).2.2, (h.2.2.2.1 x hx).2.2, e_barOf h hf (by omega) hx]
    simp only [bs, l0, l1, l2, l3, l4, l5, l6, l7, l8, l9, l10, l12, l15, l30, l31, l32, l40, l42, l48, l57, l60, l64, l98, l99, l100, l109, l110, l112, l115, l265, l1000, l518400, ngd, if_true, if_false, bn0, reduceCtorEq, n10, z1, z3, z0]
    by_cases q0 : k = x
    · rw [iT (by rw [q0])]; exact no (by unfold mqf; simp [q0])
    rw [iF (fun z => q0 ((nI_eq (by omega) (by omega)).mp z))]
    rcases (show q = 1 ∨ q = 2 ∨ q = 3 ∨ q = 4 ∨ q = 5 by omega) with rfl | rfl | rfl | rfl | rfl
    · by_cases q1 : oT o k = oT o x
      · simp (disch := omega) only [nI_leI, nI_ltI, nI_eq, iT, iF, if_true, if_false]; exact yes (by unfold mqf; simp [q0, q1])
      · simp (disch := omega) only [nI_leI, nI_ltI, nI_eq, iT, iF, if_true, if_false]; exact no (by unfold mqf; simp [q1])
    · simp (disch := omega) only [nI_leI, nI_ltI, nI_eq, iT, iF, if_true, if_false]; exact no (by unfold mqf; simp)
    · by_cases q1 : oW o x < oW o k
      · simp (disch := omega) only [nI_leI, nI_ltI, nI_eq, iT, iF, if_true, if_false]; exact yes (by unfold mqf; simp [q0, q1])
      · simp (disch := omega) only [nI_leI, nI_ltI, nI_eq, iT, iF, if_true, if_false]; exact no (by unfold mqf; simp [q1])
    · simp (disch := omega) only [nI_leI, nI_ltI, nI_eq, iT, iF, if_true, if_false]; exact no (by unfold mqf; simp)
    · by_cases q1 : bar o k x = 0
      · simp (disch := omega) only [nI_leI, nI_ltI, nI_eq, iT, iF, if_true, if_false]; exact no (by unfold mqf; simp [q1])
      · simp (disch := omega) only [nI_leI, nI_ltI, nI_eq, iT, iF, if_true, if_false]; exact yes (by unfold mqf; simp [q0, q1])
theorem e_mmark_L2 {N x q : Nat} {o : Of} {w : Wd} (h : RM o w) (hf : Wf o) (hx : x < oN o) (hq : 1 ≤ q ∧ q ≤ 5) : ∀ (m k c F : Nat), k + m = oC o → m < F → X5_mark_L2 N (nI x) (nI q) F (nI c) (nI k) w = some (nI (cnt (fun k => decide (q = 2 ∧ ypp o k (ypp o k x) = x)) m k c), w) := by
  have hn := hf.1
  have hc := hf.2.2.2.1
  intro m
  induction m with
  | zero =>
    intro k c F hk hF
    obtain ⟨F, rfl, _⟩ := fuel_s hF
    rw [X5_mark_L2, h.2.1, iT (nI_le (by omega) (by omega)), cnt]
  | succ m ih =>
    intro k c F hk hF
    obtain ⟨F, rfl, hF'⟩ := fuel_s hF
    have hp := Wf_yr hf (k := k) (by omega)
    have hlt := Pm_dg hp hx
    have hlt2 := Pm_dg hp hlt
    rw [X5_mark_L2, h.2.1, iF (nI_ge (by omega) (by omega))]
    simp only [bs, l0, l1, l2, l3, l4, l5, l6, l7, l8, l9, l10, l12, l15, l30, l31, l32, l40, l42, l48, l57, l60, l64, l98, l99, l100, l109, l110, l112, l115, l265, l1000, l518400, ngd]
    rw [pk_mul, nI_add, gd_in (by omega) (by omega), nI_clamp (by omega), h.2.2.2.2 k (by omega) x hx, nI_add, gd_in (by omega) (by omega), nI_clamp (by omega), h.2.2.2.2 k (by omega) _ hlt]
    by_cases q1 : q = 2
    · rw [iT (by rw [q1])]
      by_cases q2 : dg (dr (oY o) k) (dg (dr (oY o) k) x) = x
      · rw [iT (by rw [q2]), nI_add, nI_add, ih (k + 1) _ F (by omega) (by omega), cnt_t (by unfold ypp; simp [q1, q2])]
      · rw [iF (fun z => q2 ((nI_eq (by omega) (by omega)).mp z)), nI_add, nI_add, ih (k + 1) _ F (by omega) (by omega), cnt_f (by unfold ypp; simp [q2])]; rfl
    · rw [iF (fun z => q1 ((nI_eq (by omega) (by omega)).mp z)), nI_add, nI_add, ih (k + 1) _ F (by omega) (by omega), cnt_f (by simp [q1])]; rfl
theorem ok_mark {N : Nat} (hN : 1000 ≤ N) : Ok_mark N Inv := fun a1 a2 w hI => by
  obtain ⟨o, H, hW, hT⟩ := hI
  obtain ⟨h1, h2, h3, h4, h5, h6, h7, h8, h9⟩ := id hW
  have hn := h1.1
  rcases cix a1 (n := oN o) (by omega) with h | ⟨x, hx, rfl⟩
  · refine ⟨ng 1, w, w, ?_, ?_, o, H, hW, hT⟩
    · unfold f_X4_mark; rw [e_isMate_f hn h3.1 h]; simp only [bs, l0, l1, l2, l3, l4, l5, l6, l7, l8, l9, l10, l12, l15, l30, l31, l32, l40, l42, l48, l57, l60, l64, l98, l99, l100, l109, l110, l112, l115, l265, l1000, l518400, ngd, if_true, if_false, bn0, reduceCtorEq, n10, z1, z3, z0]
    · unfold f_X5_mark; rw [e_misMate_f hn h4.1 h]; simp only [bs, l0, l1, l2, l3, l4, l5, l6, l7, l8, l9, l10, l12, l15, l30, l31, l32, l40, l42, l48, l57, l60, l64, l98, l99, l100, l109, l110, l112, l115, l265, l1000, l518400, ngd, if_true, if_false, bn0, reduceCtorEq, n10, z1, z3, z0]
  rcases cix a2 (n := 6) (by omega) with h | ⟨q, hq, rfl⟩
  · refine ⟨ng 1, w, w, ?_, ?_, o, H, hW, hT⟩
    · unfold f_X4_mark; rw [e_isMate_t hn h3.1 hx]; simp only [bs, l0, l1, l2, l3, l4, l5, l6, l7, l8, l9, l10, l12, l15, l30, l31, l32, l40, l42, l48, l57, l60, l64, l98, l99, l100, l109, l110, l112, l115, l265, l1000, l518400, ngd, if_true, if_false, bn0, reduceCtorEq, n10, z1, z3, z0]
      rcases h with h | h
      · rw [iT ((cle (by omega)).mpr (by omega))]
      · rw [iF (fun q => by have := (cle (by omega)).mp q; omega), iF (fun q => by have := (cle (by omega)).mp q; omega)]
    · unfold f_X5_mark f_X5_in; rw [e_misMate_t hn h4.1 hx]; simp only [bs, l0, l1, l2, l3, l4, l5, l6, l7, l8, l9, l10, l12, l15, l30, l31, l32, l40, l42, l48, l57, l60, l64, l98, l99, l100, l109, l110, l112, l115, l265, l1000, l518400, ngd, if_true, if_false, bn0, reduceCtorEq, n10, z1, z3, z0]
      rcases h with h | h
      · rw [iT ((clt (by omega)).mpr (by omega))]; simp only [bs, l0, l1, l2, l3, l4, l5, l6, l7, l8, l9, l10, l12, l15, l30, l31, l32, l40, l42, l48, l57, l60, l64, l98, l99, l100, l109, l110, l112, l115, l265, l1000, l518400, ngd, if_true, if_false, bn0, reduceCtorEq, n10, z1, z3, z0]
      · rw [iF (fun q => by have := (clt (by omega)).mp q; omega), iT ((cgt (by omega)).mpr (by omega))]; simp only [bs, l0, l1, l2, l3, l4, l5, l6, l7, l8, l9, l10, l12, l15, l30, l31, l32, l40, l42, l48, l57, l60, l64, l98, l99, l100, l109, l110, l112, l115, l265, l1000, l518400, ngd, if_true, if_false, bn0, reduceCtorEq, n10, z1, z3, z0]
  by_cases c0 : q = 0
  · subst c0
    refine ⟨ng 1, w, w, ?_, ?_, o, H, hW, hT⟩
    · unfold f_X4_mark; rw [e_isMate_t hn h3.1 hx]; simp only [bs, l0, l1, l2, l3, l4, l5, l6, l7, l8, l9, l10, l12, l15, l30, l31, l32, l40, l42, l48, l57, l60, l64, l98, l99, l100, l109, l110, l112, l115, l265, l1000, l518400, ngd, if_true, if_false, bn0, reduceCtorEq, n10, z1, z3, z0]
    · unfold f_X5_mark; rw [e_misMate_t hn h4.1 hx]; simp only [bs, l0, l1, l2, l3, l4, l5, l6, l7, l8, l9, l10, l12, l15, l30, l31, l32, l40, l42, l48, l57, l60, l64, l98, l99, l100, l109, l110, l112, l115, l265, l1000, l518400, ngd, if_true, if_false, bn0, reduceCtorEq, n10, z1, z3, z0]; rw [e_in (by omega) (by omega) (by omega)]; simp only [bs, l0, l1, l2, l3, l4, l5, l6, l7, l8, l9, l10, l12, l15, l30, l31, l32, l40, l42, l48, l57, l60, l64, l98, l99, l100, l109, l110, l112, l115, l265, l1000, l518400, ngd, if_true, if_false, bn0, reduceCtorEq, n10, z1, z3, z0]; rw [iT (by simp)]
  have kx := (h1.2.2.1 x hx).1
  have hq5 : 1 ≤ q ∧ q ≤ 5 := by omega
  cases c1 : isO (oK o x) q with
  | false =>
    refine ⟨ng 3, cref 3 w, mref 3 (cref 3 w), ?_, ?_, Inv_ref0 hW hT⟩
    · unfold f_X4_mark; rw [e_isMate_t hn h3.1 hx]; simp only [bs, l0, l1, l2, l3, l4, l5, l6, l7, l8, l9, l10, l12, l15, l30, l31, l32, l40, l42, l48, l57, l60, l64, l98, l99, l100, l109, l110, l112, l115, l265, l1000, l518400, ngd, if_true, if_false, bn0, reduceCtorEq, n10, z1, z3, z0]; rw [iF (nI_ge (a := 0) (b := q) (by omega) (by omega)), iT (nI_le (by omega) (by omega)), gd_in (by omega) (by omega), nI_clamp (by omega), (h3.2.2.2.1 x hx).1, e_isOf (by omega) (by omega)]; simp only [bs, l0, l1, l2, l3, l4, l5, l6, l7, l8, l9, l10, l12, l15, l30, l31, l32, l40, l42, l48, l57, l60, l64, l98, l99, l100, l109, l110, l112, l115, l265, l1000, l518400, ngd, if_true, if_false, bn0, reduceCtorEq, n10, z1, z3, z0]; rw [iT c1, e_refuse (by omega)]; simp only [bs, l0, l1, l2, l3, l4, l5, l6, l7, l8, l9, l10, l12, l15, l30, l31, l32, l40, l42, l48, l57, l60, l64, l98, l99, l100, l109, l110, l112, l115, l265, l1000, l518400, ngd, if_true, if_false, bn0, reduceCtorEq, n10, z1, z3, z0]
    · have h4' := RM_ag h4 (cref_ag 3 w)
      unfold f_X5_mark; rw [e_misMate_t hn h4'.1 hx]; simp only [bs, l0, l1, l2, l3, l4, l5, l6, l7, l8, l9, l10, l12, l15, l30, l31, l32, l40, l42, l48, l57, l60, l64, l98, l99, l100, l109, l110, l112, l115, l265, l1000, l518400, ngd, if_true, if_false, bn0, reduceCtorEq, n10, z1, z3, z0]; rw [e_in (by omega) (by omega) (by omega)]; simp only [bs, l0, l1, l2, l3, l4, l5, l6, l7, l8, l9, l10, l12, l15, l30, l31, l32, l40, l42, l48, l57, l60, l64, l98, l99, l100, l109, l110, l112, l115, l265, l1000, l518400, ngd, if_true, if_false, bn0, reduceCtorEq, n10, z1, z3, z0]; rw [iF (by simp [hq5]), e_isA h4' h1 hx (by omega)]; simp only [bs, l0, l1, l2, l3, l4, l5, l6, l7, l8, l9, l10, l12, l15, l30, l31, l32, l40, l42, l48, l57, l60, l64, l98, l99, l100, l109, l110, l112, l115, l265, l1000, l518400, ngd, if_true, if_false, bn0, reduceCtorEq, n10, z1, z3, z0]; rw [iT c1, e_meet (by omega)]; simp only [bs, l0, l1, l2, l3, l4, l5, l6, l7, l8, l9, l10, l12, l15, l30, l31, l32, l40, l42, l48, l57, l60, l64, l98, l99, l100, l109, l110, l112, l115, l265, l1000, l518400, ngd, if_true, if_false, bn0, reduceCtorEq, n10, z1, z3, z0]
  | true =>
    obtain ⟨v, hv⟩ : ∃ v, v = (if q = 4 then pc (opn o x) else cnt (fun k => decide (q = 2 ∧ ypp o k (ypp o k x) = x)) (oC o) 0 (cnt (mqf o x q) (oN o) 0 0)) := ⟨_, rfl⟩
    refine ⟨nI v, w, w, ?_, ?_, o, H, hW, hT⟩
    · unfold f_X4_mark; rw [e_isMate_t hn h3.1 hx]; simp only [bs, l0, l1, l2, l3, l4, l5, l6, l7, l8, l9, l10, l12, l15, l30, l31, l32, l40, l42, l48, l57, l60, l64, l98, l99, l100, l109, l110, l112, l115, l265, l1000, l518400, ngd, if_true, if_false, bn0, reduceCtorEq, n10, z1, z3, z0]; rw [iF (nI_ge (a := 0) (b := q) (by omega) (by omega)), iT (nI_le (by omega) (by omega)), gd_in (by omega) (by omega), nI_clamp (by omega), (h3.2.2.2.1 x hx).1, e_isOf (by omega) (by omega)]; simp only [bs, l0, l1, l2, l3, l4, l5, l6, l7, l8, l9, l10, l12, l15, l30, l31, l32, l40, l42, l48, l57, l60, l64, l98, l99, l100, l109, l110, l112, l115, l265, l1000, l518400, ngd, if_true, if_false, bn0, reduceCtorEq, n10, z1, z3, z0]; rw [iF (by simp [c1])]
      unfold f_X0_othersAtTable f_X0_yearsPaired f_X0_worthier f_X0_othersBarredFrom
      simp only [bs, l0, l1, l2, l3, l4, l5, l6, l7, l8, l9, l10, l12, l15, l30, l31, l32, l40, l42, l48, l57, l60, l64, l98, l99, l100, l109, l110, l112, l115, l265, l1000, l518400, ngd, if_true, if_false, bn0, reduceCtorEq, n10, z1, z3, z0]
      rw [e_otherT_L h3 h1 hx (oN o) 0 0 N (by omega) (by omega), e_paired_L h3 h1 hx (oC o) 0 0 N (by omega) (by omega), e_worth_L h3 h1 hx (oN o) 0 0 N (by omega) (by omega), e_barred_L h3 h1 hx (oN o) 0 0 N (by omega) (by omega), e_open hN h3 h1 hx]
      simp only [bs, l0, l1, l2, l3, l4, l5, l6, l7, l8, l9, l10, l12, l15, l30, l31, l32, l40, l42, l48, l57, l60, l64, l98, l99, l100, l109, l110, l112, l115, l265, l1000, l518400, ngd, if_true, if_false, bn0, reduceCtorEq, n10, z1, z3, z0]
      rw [e_bitCount (opn_lt h1 x)]
      simp only [bs, l0, l1, l2, l3, l4, l5, l6, l7, l8, l9, l10, l12, l15, l30, l31, l32, l40, l42, l48, l57, l60, l64, l98, l99, l100, l109, l110, l112, l115, l265, l1000, l518400, ngd, if_true, if_false, bn0, reduceCtorEq, n10, z1, z3, z0]
      rcases (show q = 1 ∨ q = 2 ∨ q = 3 ∨ q = 4 ∨ q = 5 by omega) with rfl | rfl | rfl | rfl | rfl
      · simp (disch := omega) only [nI_leI, nI_ltI, nI_eq, iT, iF, if_true, if_false]
        rw [hv, if_neg (by omega), cnt_none (oC o) 0 _ (fun j _ _ => by simp)]
        rw [cnt_congr (g := mqf o x 1) (oN o) 0 0 (fun j _ _ => by unfold mqf; simp)]
      · simp (disch := omega) only [nI_leI, nI_ltI, nI_eq, iT, iF, if_true, if_false]
        rw [hv, if_neg (by omega), cnt_none (f := mqf o x 2) (oN o) 0 _ (fun j _ _ => by unfold mqf; simp)]
        rw [cnt_congr (g := fun k => decide (2 = 2 ∧ ypp o k (ypp o k x) = x)) (oC o) 0 0 (fun j _ _ => by simp)]
      · simp (disch := omega) only [nI_leI, nI_ltI, nI_eq, iT, iF, if_true, if_false]
        rw [hv, if_neg (by omega), cnt_none (oC o) 0 _ (fun j _ _ => by simp)]
        rw [cnt_congr (g := mqf o x 3) (oN o) 0 0 (fun j _ _ => by
          unfold mqf
          by_cases e : j = x
          · subst e; simp
          · simp [e])]
      · simp (disch := omega) only [nI_leI, nI_ltI, nI_eq, iT, iF, if_true, if_false]
        rw [hv, if_pos rfl]
      · simp (disch := omega) only [nI_leI, nI_ltI, nI_eq, iT, iF, if_true, if_false]
        rw [hv, if_neg (by omega), cnt_none (oC o) 0 _ (fun j _ _ => by simp)]
        rw [cnt_congr (g := mqf o x 5) (oN o) 0 0 (fun j _ _ => by unfold mqf; simp)]
    · unfold f_X5_mark; rw [e_misMate_t hn h4.1 hx]; simp only [bs, l0, l1, l2, l3, l4, l5, l6, l7, l8, l9, l10, l12, l15, l30, l31, l32, l40, l42, l48, l57, l60, l64, l98, l99, l100, l109, l110, l112, l115, l265, l1000, l518400, ngd, if_true, if_false, bn0, reduceCtorEq, n10, z1, z3, z0]; rw [e_in (by omega) (by omega) (by omega)]; simp only [bs, l0, l1, l2, l3, l4, l5, l6, l7, l8, l9, l10, l12, l15, l30, l31, l32, l40, l42, l48, l57, l60, l64, l98, l99, l100, l109, l110, l112, l115, l265, l1000, l518400, ngd, if_true, if_false, bn0, reduceCtorEq, n10, z1, z3, z0]; rw [iF (by simp [hq5]), e_isA h4 h1 hx (by omega)]; simp only [bs, l0, l1, l2, l3, l4, l5, l6, l7, l8, l9, l10, l12, l15, l30, l31, l32, l40, l42, l48, l57, l60, l64, l98, l99, l100, l109, l110, l112, l115, l265, l1000, l518400, ngd, if_true, if_false, bn0, reduceCtorEq, n10, z1, z3, z0]; rw [iF (by simp [c1]), e_mmark_L1 h4 h1 hx hq5 (oN o) 0 0 N (by omega) (by omega)]; simp only [bs, l0, l1, l2, l3, l4, l5, l6, l7, l8, l9, l10, l12, l15, l30, l31, l32, l40, l42, l48, l57, l60, l64, l98, l99, l100, l109, l110, l112, l115, l265, l1000, l518400, ngd, if_true, if_false, bn0, reduceCtorEq, n10, z1, z3, z0]
      rw [e_mmark_L2 h4 h1 hx hq5 (oC o) 0 _ N (by omega) (by omega)]; simp only [bs, l0, l1, l2, l3, l4, l5, l6, l7, l8, l9, l10, l12, l15, l30, l31, l32, l40, l42, l48, l57, l60, l64, l98, l99, l100, l109, l110, l112, l115, l265, l1000, l518400, ngd, if_true, if_false, bn0, reduceCtorEq, n10, z1, z3, z0]; rw [e_mayOf hN h4 h1 hx]; simp only [bs, l0, l1, l2, l3, l4, l5, l6, l7, l8, l9, l10, l12, l15, l30, l31, l32, l40, l42, l48, l57, l60, l64, l98, l99, l100, l109, l110, l112, l115, l265, l1000, l518400, ngd, if_true, if_false, bn0, reduceCtorEq, n10, z1, z3, z0]
      rw [e_sizeOf hN (opn_lt h1 x)]; simp only [bs, l0, l1, l2, l3, l4, l5, l6, l7, l8, l9, l10, l12, l15, l30, l31, l32, l40, l42, l48, l57, l60, l64, l98, l99, l100, l109, l110, l112, l115, l265, l1000, l518400, ngd, if_true, if_false, bn0, reduceCtorEq, n10, z1, z3, z0]
      by_cases c4 : q = 4
      · rw [iT (by rw [c4]), hv, if_pos c4]
      · rw [iF (fun z => c4 ((nI_eq (by omega) (by omega)).mp z)), hv, if_neg c4]
