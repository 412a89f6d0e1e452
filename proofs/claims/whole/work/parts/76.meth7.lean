/-! table -/
theorem Wf_T {o : Of} {x q : Nat} (hf : Wf o) (hq : q ≤ 9) : Wf (setT o x q) := ⟨hf.1, hf.2.1, fun y hy => ⟨(hf.2.2.1 y hy).1, by
  show (if y = x then q else oT o y) ≤ 9
  have := (hf.2.2.1 y hy).2.1
  split <;> omega, (hf.2.2.1 y hy).2.2⟩, hf.2.2.2⟩
theorem RO_T {i x q q' : Nat} {o : Of} {w : Wd} (h : RO i (setT o x q) w) : RO i (setT o x q') (sA w 17 i (upd (gA w 17 i) x (nI q'))) := by
  refine ⟨h.1, h.2.1, h.2.2.1, fun y hy => ?_, fun k hk => ?_⟩
  · obtain ⟨a, b, c⟩ := h.2.2.2.1 y hy
    refine ⟨by rw [gA_sA, if_neg (by simp)]; exact a, ?_, by rw [gA_sA, if_neg (by simp)]; exact c⟩
    rw [gA_sA, if_pos ⟨rfl, rfl⟩]
    show _ = nI (if y = x then q' else oT o y)
    by_cases e : y = x
    · rw [if_pos e, e, pk_us]
    · rw [if_neg e, pk_un e, b]
      show nI (if y = x then q else oT o y) = _
      rw [if_neg e]
  · rw [gA_sA, if_neg (by simp)]; exact h.2.2.2.2 k hk
theorem RM_T {x q q' : Nat} {o : Of} {w : Wd} (h : RM (setT o x q) w) : RM (setT o x q') (sA w 37 0 (upd (gA w 37 0) x (nI q'))) := by
  refine ⟨h.1, h.2.1, h.2.2.1, fun y hy => ?_, fun k hk z hz => ?_⟩
  · obtain ⟨a, b, c⟩ := h.2.2.2.1 y hy
    refine ⟨by rw [gA_sA, if_neg (by simp)]; exact a, ?_, by rw [gA_sA, if_neg (by simp)]; exact c⟩
    rw [gA_sA, if_pos ⟨rfl, rfl⟩]
    show _ = nI (if y = x then q' else oT o y)
    by_cases e : y = x
    · rw [if_pos e, e, pk_us]
    · rw [if_neg e, pk_un e, b]
      show nI (if y = x then q else oT o y) = _
      rw [if_neg e]
  · rw [gA_sA, if_neg (by simp)]; exact h.2.2.2.2 k hk z hz
theorem RO_T0 {i x : Nat} {o : Of} {w : Wd} (h : RO i o w) : RO i (setT o x (oT o x)) w := by
  refine ⟨h.1, h.2.1, h.2.2.1, fun y hy => ?_, h.2.2.2.2⟩
  obtain ⟨a, b, c⟩ := h.2.2.2.1 y hy
  refine ⟨a, ?_, c⟩
  show _ = nI (if y = x then oT o x else oT o y)
  by_cases e : y = x
  · rw [if_pos e, b, e]
  · rw [if_neg e]; exact b
theorem RM_T0 {x : Nat} {o : Of} {w : Wd} (h : RM o w) : RM (setT o x (oT o x)) w := by
  refine ⟨h.1, h.2.1, h.2.2.1, fun y hy => ?_, h.2.2.2.2⟩
  obtain ⟨a, b, c⟩ := h.2.2.2.1 y hy
  refine ⟨a, ?_, c⟩
  show _ = nI (if y = x then oT o x else oT o y)
  by_cases e : y = x
  · rw [if_pos e, b, e]
  · rw [if_neg e]; exact b
theorem RM_T1 {x : Nat} {o : Of} {w : Wd} (h : RM (setT o x (oT o x)) w) : RM o w := by
  refine ⟨h.1, h.2.1, h.2.2.1, fun y hy => ?_, h.2.2.2.2⟩
  obtain ⟨a, b, c⟩ := h.2.2.2.1 y hy
  refine ⟨a, ?_, c⟩
  rw [b]
  show nI (if y = x then oT o x else oT o y) = _
  by_cases e : y = x
  · rw [if_pos e, e]
  · rw [if_neg e]
def mo (x : Option Nat) : Int32 := match x with | some k => nI k | none => ng 1
def lth (b : Option Nat) (f : Nat) : Bool := match b with | none => true | some z => decide (z < f)
def tbf (o : Of) (x : Nat) : Nat → Nat → Nat → Option Nat → Nat × Option Nat
  | 0, _, b, l => (b, l)
  | m + 1, k, b, l => if lth l (rights (setT o x k)).length = true then tbf o x m (k + 1) k (some (rights (setT o x k)).length) else tbf o x m (k + 1) b l
theorem mo_le {l : Option Nat} {f : Nat} (hl : ∀ z, l = some z → z ≤ 265) (hf : f ≤ 265) : (nI f ≤ mo l) ↔ lth l f = false := by
  cases l with
  | none => show nI f ≤ ng 1 ↔ true = false; rw [ng_nn (by omega) (by omega) (by omega)]; simp
  | some z =>
    have := hl z rfl
    show nI f ≤ nI z ↔ decide (z < f) = false
    rw [nI_leI (by omega) (by omega)]; simp
theorem e_table_L {N x : Nat} {o : Of} (hN : 1000 ≤ N) (hf : Wf o) (hx : x < oN o) : ∀ (m k b F : Nat) (l : Option Nat) (w : Wd), k + m = 10 → m < F → (∃ q, RO 1 (setT o x q) w) → (∀ z, l = some z → z ≤ 265) → ∃ w', X4_table_L1 N (nI x) F (nI b) (mo l) (nI k) w = some (nI (tbf o x m k b l).1, mo (tbf o x m k b l).2, w') ∧ ag [1017, 1020, 1201, 1204, 1205, 1021] w w' := by
  have hn := hf.1
  intro m
  induction m with
  | zero =>
    intro k b F l w hk hF hR hl
    obtain ⟨F, rfl, _⟩ := fuel_s hF
    rw [X4_table_L1]
    simp only [bs, l0, l1, l2, l3, l4, l5, l6, l7, l8, l9, l10, l12, l15, l30, l31, l32, l40, l42, l48, l57, l60, l64, l98, l99, l100, l109, l110, l112, l115, l265, l1000, l518400, ngd]
    rw [iT (nI_lt (by omega) (by omega)), tbf]
    exact ⟨w, rfl, ag.rf _ _⟩
  | succ m ih =>
    intro k b F l w hk hF hR hl
    obtain ⟨F, rfl, hF'⟩ := fuel_s hF
    obtain ⟨q, hq⟩ := hR
    have g1 : ag [1017, 1020, 1201, 1204, 1205, 1021] w (sA w 17 1 (upd (gA w 17 1) x (nI k))) := (ag.rf _ w).sA (by decide)
    have hR1 := RO_T (q' := k) hq
    have hwf := Wf_T (x := x) hf (show k ≤ 9 by omega)
    have hlen := rights_len hwf
    obtain ⟨w2, e2, b1, b2⟩ := e_listAll (N := N) (i := 1) hN hwf hR1
    have hR2 : RO 1 (setT o x k) w2 := RO_ag hR1 b1 (by decide)
    have b1' : ag [1017, 1020, 1201, 1204, 1205, 1021] (sA w 17 1 (upd (gA w 17 1) x (nI k))) w2 := b1.mono (by decide)
    rw [X4_table_L1]
    simp only [bs, l0, l1, l2, l3, l4, l5, l6, l7, l8, l9, l10, l12, l15, l30, l31, l32, l40, l42, l48, l57, l60, l64, l98, l99, l100, l109, l110, l112, l115, l265, l1000, l518400, ngd]
    rw [iF (nI_nlt (by omega) (by omega)), gd_in (by omega) (by omega), nI_clamp (by omega), e2, tbf]
    simp only [bs, l0, l1, l2, l3, l4, l5, l6, l7, l8, l9, l10, l12, l15, l30, l31, l32, l40, l42, l48, l57, l60, l64, l98, l99, l100, l109, l110, l112, l115, l265, l1000, l518400, ngd]
    rw [nI_add]
    cases c : lth l (rights (setT o x k)).length with
    | false =>
      obtain ⟨w', e, a1⟩ := ih (k + 1) b F l w2 (by omega) (by omega) ⟨k, hR2⟩ hl
      rw [iT ((mo_le hl hlen).mpr c), e, if_neg (by simp)]
      exact ⟨w', rfl, (g1.tr b1').tr a1⟩
    | true =>
      obtain ⟨w', e, a1⟩ := ih (k + 1) k F (some (rights (setT o x k)).length) w2 (by omega) (by omega) ⟨k, hR2⟩ (fun z e => by obtain rfl := Option.some.inj e; exact hlen)
      rw [iF (fun z => by have := (mo_le hl hlen).mp z; rw [c] at this; cases this), show nI (rights (setT o x k)).length = mo (some (rights (setT o x k)).length) from rfl, e, if_pos rfl]
      exact ⟨w', rfl, (g1.tr b1').tr a1⟩
theorem e_mtable_L {N x : Nat} {x2 : Int32} {o : Of} (hN : 1000 ≤ N) (hf : Wf o) (hx : x < oN o) : ∀ (m k b F : Nat) (l : Option Nat) (w : Wd), k + m = 10 → m < F → (∃ q, RM (setT o x q) w) → (∀ z, l = some z → z ≤ 265) → ∃ w', X5_table_L1 N (nI x) x2 F (nI b) (mo l) (nI k) w = some (nI (tbf o x m k b l).1, mo (tbf o x m k b l).2, w') ∧ ag [40, 41, 520, 522, 523, 37] w w' ∧ ∃ q, RM (setT o x q) w' := by
  have hn := hf.1
  intro m
  induction m with
  | zero =>
    intro k b F l w hk hF hR hl
    obtain ⟨F, rfl, _⟩ := fuel_s hF
    rw [X5_table_L1]
    simp only [bs, l0, l1, l2, l3, l4, l5, l6, l7, l8, l9, l10, l12, l15, l30, l31, l32, l40, l42, l48, l57, l60, l64, l98, l99, l100, l109, l110, l112, l115, l265, l1000, l518400, ngd]
    rw [iT (nI_lt (by omega) (by omega)), tbf]
    exact ⟨w, rfl, ag.rf _ _, hR⟩
  | succ m ih =>
    intro k b F l w hk hF hR hl
    obtain ⟨F, rfl, hF'⟩ := fuel_s hF
    obtain ⟨q, hq⟩ := hR
    have g1 : ag [40, 41, 520, 522, 523, 37] w (sA w 37 0 (upd (gA w 37 0) x (nI k))) := (ag.rf _ w).sA (by decide)
    have hR1 := RM_T (q' := k) hq
    have hwf := Wf_T (x := x) hf (show k ≤ 9 by omega)
    have hlen := rights_len hwf
    obtain ⟨w2, e2, b1, b2⟩ := e_setRights (N := N) hN hwf hR1
    have hR2 := RM_ag hR1 b1
    have b1' : ag [40, 41, 520, 522, 523, 37] (sA w 37 0 (upd (gA w 37 0) x (nI k))) w2 := b1.mono (by decide)
    rw [X5_table_L1]
    unfold X5_table_J59
    simp only [bs, l0, l1, l2, l3, l4, l5, l6, l7, l8, l9, l10, l12, l15, l30, l31, l32, l40, l42, l48, l57, l60, l64, l98, l99, l100, l109, l110, l112, l115, l265, l1000, l518400, ngd]
    rw [iF (nI_nlt (by omega) (by omega)), gd_in (by omega) (by omega), nI_clamp (by omega), e2, tbf]
    simp only [bs, l0, l1, l2, l3, l4, l5, l6, l7, l8, l9, l10, l12, l15, l30, l31, l32, l40, l42, l48, l57, l60, l64, l98, l99, l100, l109, l110, l112, l115, l265, l1000, l518400, ngd]
    rw [nI_add, b2.1]
    cases c : lth l (rights (setT o x k)).length with
    | false =>
      obtain ⟨w', e, a1, a2⟩ := ih (k + 1) b F l w2 (by omega) (by omega) ⟨k, hR2⟩ hl
      rw [iT ((mo_le hl hlen).mpr c), iT ((mo_le hl hlen).mpr c), e, if_neg (by simp)]
      exact ⟨w', rfl, (g1.tr b1').tr a1, a2⟩
    | true =>
      have cn : ¬ nI (rights (setT o x k)).length ≤ mo l := fun z => by have := (mo_le hl hlen).mp z; rw [c] at this; cases this
      obtain ⟨w', e, a1, a2⟩ := ih (k + 1) k F (some (rights (setT o x k)).length) w2 (by omega) (by omega) ⟨k, hR2⟩ (fun z e => by obtain rfl := Option.some.inj e; exact hlen)
      rw [iF cn, iF cn, show nI (rights (setT o x k)).length = mo (some (rights (setT o x k)).length) from rfl, e, if_pos rfl]
      exact ⟨w', rfl, (g1.tr b1').tr a1, a2⟩
theorem ok_table {N : Nat} (hN : 1000 ≤ N) : Ok_table N Inv := fun a1 w hI => by
  obtain ⟨o, H, hW, hT⟩ := hI
  obtain ⟨h1, h2, h3, h4, h5, h6, h7, h8, h9⟩ := id hW
  have hn := h1.1
  rcases cix a1 (n := oN o) (by omega) with h | ⟨x, hx, rfl⟩
  · refine ⟨ng 1, w, w, ?_, ?_, o, H, hW, hT⟩
    · unfold f_X4_table; rw [e_isMate_f hn h3.1 h]; simp only [bs, l0, l1, l2, l3, l4, l5, l6, l7, l8, l9, l10, l12, l15, l30, l31, l32, l40, l42, l48, l57, l60, l64, l98, l99, l100, l109, l110, l112, l115, l265, l1000, l518400, ngd, if_true, if_false, bn0, reduceCtorEq, n10, z1, z3, z0]
    · unfold f_X5_table; rw [e_misMate_f hn h4.1 h]; simp only [bs, l0, l1, l2, l3, l4, l5, l6, l7, l8, l9, l10, l12, l15, l30, l31, l32, l40, l42, l48, l57, l60, l64, l98, l99, l100, l109, l110, l112, l115, l265, l1000, l518400, ngd, if_true, if_false, bn0, reduceCtorEq, n10, z1, z3, z0]
  obtain ⟨wa, ea, u1, u2⟩ := e_become (N := N) h3 h1
  obtain ⟨wb, eb, v1⟩ := e_table_L (N := N) hN h1 hx 10 0 0 N none wa (by omega) (by omega) ⟨oT o x, RO_T0 u2⟩ (fun z e => by cases e)
  have gab : ag [1016, 1017, 1018, 1019, 1004, 1005, 1006, 1020, 1201, 1204, 1205, 1021] w wb := (u1.mono (by decide)).tr (v1.mono (by decide))
  have hWb : IW o H wb := IW_ag hW gab
  have hTb := Itl_ag hT gab
  obtain ⟨v, hv⟩ : ∃ v, v = mo (tbf o x 10 0 0 none).2 := ⟨_, rfl⟩
  have g1 : ag [412] wb (sI wb 412 0 v) := (ag.rf _ wb).sI (by simp)
  have hW1 := IW_ag hWb g1
  have h4c := hW1.2.2.2.1
  obtain ⟨wc, ec, x1, q, hq⟩ := e_mtable_L (N := N) (x2 := nI (oT o x)) hN h1 hx 10 0 0 N none (sI wb 412 0 v) (by omega) (by omega) ⟨oT o x, RM_T0 h4c⟩ (fun z e => by cases e)
  obtain ⟨wd, hwd⟩ : ∃ wd, wd = sA wc 37 0 (upd (gA wc 37 0) x (nI (oT o x))) := ⟨_, rfl⟩
  have hRd : RM o wd := by rw [hwd]; exact RM_T1 (RM_T hq)
  have gx : ag [40, 41, 520, 522, 523, 37] (sI wb 412 0 v) wd := by rw [hwd]; exact x1.sA (by simp)
  have hWd : IW o H wd := by
    obtain ⟨k1, k2, k3, k4, k5, k6, k7, k8, k9⟩ := hW1
    exact ⟨k1, k2, RO_ag k3 gx, hRd, Iro_ag k5 gx, Itx_ag k6 gx, Iht_ag k7 gx, Ikp_ag k8 gx, Ist_ag k9 gx⟩
  refine ⟨nI (tbf o x 10 0 0 none).1, sI wb 412 0 v, sI wd 502 0 v, ?_, ?_, o, H, IW_ag hWd ((ag.rf [502] _).sI (by simp)), Itl_ask hTb gx⟩
  · have eb' : X4_table_L1 N (nI x) N (nI 0) (ng 1) (nI 0) wa = _ := eb
    unfold f_X4_table; rw [e_isMate_t hn h3.1 hx]; simp only [bs, l0, l1, l2, l3, l4, l5, l6, l7, l8, l9, l10, l12, l15, l30, l31, l32, l40, l42, l48, l57, l60, l64, l98, l99, l100, l109, l110, l112, l115, l265, l1000, l518400, ngd, if_true, if_false, bn0, reduceCtorEq, n10, z1, z3, z0]; rw [ea]; simp only [bs, l0, l1, l2, l3, l4, l5, l6, l7, l8, l9, l10, l12, l15, l30, l31, l32, l40, l42, l48, l57, l60, l64, l98, l99, l100, l109, l110, l112, l115, l265, l1000, l518400, ngd, if_true, if_false, bn0, reduceCtorEq, n10, z1, z3, z0]; rw [eb']; simp only [bs, l0, l1, l2, l3, l4, l5, l6, l7, l8, l9, l10, l12, l15, l30, l31, l32, l40, l42, l48, l57, l60, l64, l98, l99, l100, l109, l110, l112, l115, l265, l1000, l518400, ngd, if_true, if_false, bn0, reduceCtorEq, n10, z1, z3, z0]; rw [hv]
  · have ec' : X5_table_L1 N (nI x) (nI (oT o x)) N (nI 0) (ng 1) (nI 0) (sI wb 412 0 v) = _ := ec
    unfold f_X5_table; rw [e_misMate_t hn h4c.1 hx]; simp only [bs, l0, l1, l2, l3, l4, l5, l6, l7, l8, l9, l10, l12, l15, l30, l31, l32, l40, l42, l48, l57, l60, l64, l98, l99, l100, l109, l110, l112, l115, l265, l1000, l518400, ngd, if_true, if_false, bn0, reduceCtorEq, n10, z1, z3, z0]; rw [gd_in (by omega) (by omega), nI_clamp (by omega), (h4c.2.2.2.1 x hx).2.1, ec']; simp only [bs, l0, l1, l2, l3, l4, l5, l6, l7, l8, l9, l10, l12, l15, l30, l31, l32, l40, l42, l48, l57, l60, l64, l98, l99, l100, l109, l110, l112, l115, l265, l1000, l518400, ngd, if_true, if_false, bn0, reduceCtorEq, n10, z1, z3, z0]; rw [gd_in (by omega) (by omega), e_ask, ← hwd, ← hv]; simp only [bs, l0, l1, l2, l3, l4, l5, l6, l7, l8, l9, l10, l12, l15, l30, l31, l32, l40, l42, l48, l57, l60, l64, l98, l99, l100, l109, l110, l112, l115, l265, l1000, l518400, ngd, if_true, if_false, bn0, reduceCtorEq, n10, z1, z3, z0]
/-! play -/
def nbf (s : Nat) : Nat → Nat → Nat → Nat
  | 0, y, _ => y
  | m + 1, y, l => if s.testBit y = true then (if l = 0 then y else nbf s m (y + 1) (l - 1)) else nbf s m (y + 1) l
theorem nbf_in {s : Nat} : ∀ (m y l : Nat), l < cnt (fun j => s.testBit j) m y 0 → y ≤ nbf s m y l ∧ nbf s m y l < y + m ∧ s.testBit (nbf s m y l) = true := by
  intro m
  induction m with
  | zero => intro y l h; exact absurd h (by unfold cnt; omega)
  | succ m ih =>
    intro y l h
    rw [nbf]
    cases c : s.testBit y with
    | false =>
      rw [if_neg (by simp)]
      rw [cnt_f (f := fun j => s.testBit j) c] at h
      obtain ⟨a, b, d⟩ := ih (y + 1) l h
      exact ⟨by omega, by omega, d⟩
    | true =>
      rw [if_pos rfl]
      by_cases c2 : l = 0
      · rw [if_pos c2]; exact ⟨by omega, by omega, c⟩
      · rw [if_neg c2]
        rw [cnt_t (f := fun j => s.testBit j) c] at h
        have e : cnt (fun j => s.testBit j) m (y + 1) (0 + 1) = cnt (fun j => s.testBit j) m (y + 1) 0 + 1 := by
          have key : ∀ (m k c : Nat), cnt (fun j => s.testBit j) m k (c + 1) = cnt (fun j => s.testBit j) m k c + 1 := by
            intro m
            induction m with
            | zero => intro k c; rfl
            | succ m jh => intro k c; rw [cnt, cnt, show c + 1 + bn (s.testBit k) = (c + bn (s.testBit k)) + 1 by omega, jh]
          exact key m (y + 1) 0
        rw [e] at h
        obtain ⟨a, b, d⟩ := ih (y + 1) (l - 1) (by omega)
        exact ⟨by omega, by omega, d⟩
theorem pc_cnt : ∀ s, s < 64 → pc s = cnt (fun j => s.testBit j) 6 0 0 := by decide +kernel
theorem pc_0 : ∀ s, s < 64 → (pc s = 0 ↔ s = 0) := by decide +kernel
theorem cnt_pred {s m y l : Nat} (h : l < cnt (fun j => s.testBit j) (m + 1) y 0) : (s.testBit y = false → l < cnt (fun j => s.testBit j) m (y + 1) 0) ∧ (s.testBit y = true → l ≠ 0 → l - 1 < cnt (fun j => s.testBit j) m (y + 1) 0) := by
  constructor
  · intro c; rwa [cnt_f (f := fun j => s.testBit j) c] at h
  · intro c c2
    rw [cnt_t (f := fun j => s.testBit j) c] at h
    have key : ∀ (m k c : Nat), cnt (fun j => s.testBit j) m k (c + 1) = cnt (fun j => s.testBit j) m k c + 1 := by
      intro m
      induction m with
      | zero => intro k c; rfl
      | succ m jh => intro k c; rw [cnt, cnt, show c + 1 + bn (s.testBit k) = (c + bn (s.testBit k)) + 1 by omega, jh]
    rw [key] at h; omega
theorem e_bitNum_L {N s : Nat} {w : Wd} (hs : s < 64) : ∀ (m y l F : Nat), y + m = 6 → m < F → l < cnt (fun j => s.testBit j) m y 0 → l < 100 → X4_bitNumber_L1 N (nI s) F (nI l) (nI y) w = some (.inl (nI (nbf s m y l), w)) := by
  intro m
  induction m with
  | zero => intro y l F hy hF h; exact absurd h (by unfold cnt; omega)
  | succ m ih =>
    intro y l F hy hF h hl
    obtain ⟨F, rfl, hF'⟩ := fuel_s hF
    obtain ⟨k1, k2⟩ := cnt_pred h
    rw [X4_bitNumber_L1]
    simp only [bs, l0, l1, l2, l3, l4, l5, l6, l7, l8, l9, l10, l12, l15, l30, l31, l32, l40, l42, l48, l57, l60, l64, l98, l99, l100, l109, l110, l112, l115, l265, l1000, l518400, ngd]
    rw [iF (nI_ge (by omega) (by omega)), nI_add, nbf]
    cases c : s.testBit y with
    | false => rw [iT (by rw [bit0c (by omega) (by omega), c]), ih (y + 1) l F (by omega) (by omega) (k1 c) hl, if_neg (by simp)]
    | true =>
      rw [iF (by rw [bit0c (by omega) (by omega), c]; simp), if_pos rfl]
      by_cases c2 : l = 0
      · rw [iT (by rw [c2]), if_pos c2]
      · have e : nI l + ng 1 = nI (l - 1) := by rw [show ng 1 = (-1 : Int32) from by decide]; exact sb_m1 (by omega)
        rw [iF (fun z => c2 ((nI_eq (by omega) (by omega)).mp z)), e, ih (y + 1) (l - 1) F (by omega) (by omega) (k2 c c2) (by omega), if_neg c2]
theorem e_bitNum {N s l : Nat} {w : Wd} (hN : 1000 ≤ N) (hs : s < 64) (hl : l < pc s) : f_X4_bitNumber N (nI s) (nI l) w = some (nI (nbf s 6 0 l), w) := by
  have := pc_le s hs
  rw [pc_cnt s hs] at hl
  unfold f_X4_bitNumber
  simp only [bs, l0, l1, l2, l3, l4, l5, l6, l7, l8, l9, l10, l12, l15, l30, l31, l32, l40, l42, l48, l57, l60, l64, l98, l99, l100, l109, l110, l112, l115, l265, l1000, l518400, ngd]
  rw [e_bitNum_L hs 6 0 l N (by omega) (by omega) hl (by have := cnt_le (fun j => s.testBit j) 6 0 0; omega)]
  rfl
theorem e_play_L2 {N s : Nat} {x2 : Int64} {w : Wd} (hs : s < 64) : ∀ (m y l F : Nat), y + m = 6 → m < F → l < cnt (fun j => s.testBit j) m y 0 → l < 100 → X5_play_L2 N x2 (nI s) F (nI l) (nI y) w = some (nI (nbf s m y l), w) := by
  intro m
  induction m with
  | zero => intro y l F hy hF h; exact absurd h (by unfold cnt; omega)
  | succ m ih =>
    intro y l F hy hF h hl
    obtain ⟨F, rfl, hF'⟩ := fuel_s hF
    obtain ⟨k1, k2⟩ := cnt_pred h
    rw [X5_play_L2]
    unfold X5_play_J70
    rw [e_has (by omega) (by omega), nbf]
    simp only [bs, l0, l1, l2, l3, l4, l5, l6, l7, l8, l9, l10, l12, l15, l30, l31, l32, l40, l42, l48, l57, l60, l64, l98, l99, l100, l109, l110, l112, l115, l265, l1000, l518400, ngd]
    rw [e_has (by omega) (by omega)]
    simp only [bs, l0, l1, l2, l3, l4, l5, l6, l7, l8, l9, l10, l12, l15, l30, l31, l32, l40, l42, l48, l57, l60, l64, l98, l99, l100, l109, l110, l112, l115, l265, l1000, l518400, ngd]
    rw [nI_add]
    cases c : s.testBit y with
    | false => rw [iT bnFc, iT bnFc, show nI l - nI 0 = nI l from by rw [pk_sub (by omega)]; rfl, ih (y + 1) l F (by omega) (by omega) (k1 c) hl, if_neg (by simp)]
    | true =>
      rw [iF bnTc, iF bnTc, if_pos rfl]
      by_cases c2 : l = 0
      · rw [iT (nI_le (by omega) (by omega)), if_pos c2]
      · rw [iF (nI_ge (by omega) (by omega)), pk_sub (by omega), ih (y + 1) (l - 1) F (by omega) (by omega) (k2 c c2) (by omega), if_neg c2]
/-- the hat drawn on: seed and hat -/
def plf (n : Nat) (L : List (List Nat)) : Nat → List Nat → Nat → List Nat
  | 0, H, _ => H
  | m + 1, H, s => if cns n L H = 0 then H else plf n L m (H ++ [nbf (cns n L H) 6 0 (nxt s % pc (cns n L H))]) (nxt s)
theorem orf_bit {f : Nat → Bool} {g : Nat → Nat} {j : Nat} : ∀ (m k s : Nat), (orf f g m k s).testBit j = true → s.testBit j = true ∨ ∃ i, k ≤ i ∧ i < k + m ∧ f i = true ∧ g i = j := by
  intro m
  induction m with
  | zero => intro k s h; exact Or.inl h
  | succ m ih =>
    intro k s h
    rw [orf] at h
    rcases ih _ _ h with q | ⟨i, a, b, c, d⟩
    · by_cases c : f k = true
      · rw [if_pos c, Nat.testBit_or, shl_bit, Bool.or_eq_true, decide_eq_true_eq] at q
        rcases q with q | q
        · exact Or.inl q
        · exact Or.inr ⟨k, by omega, by omega, c, q⟩
      · rw [if_neg c] at q; exact Or.inl q
    · exact Or.inr ⟨i, by omega, by omega, c, d⟩
theorem cns_bit {n j : Nat} {L : List (List Nat)} {H : List Nat} (hL : LOk n L) (h : (cns n L H).testBit j = true) : H.length < n ∧ j < n := by
  unfold cns at h
  by_cases c : H.length < n
  · rw [if_pos c] at h
    rcases orf_bit _ _ _ h with q | ⟨i, a, b, _, d⟩
    · simp at q
    · have := Pm_dg (LOk_at hL (k := i) (by omega)) c
      exact ⟨c, by omega⟩
  · rw [if_neg c] at h; simp at h
theorem cns_nz {n : Nat} {L : List (List Nat)} {H : List Nat} (h : cns n L H ≠ 0) : H.length < n := by
  unfold cns at h
  by_cases c : H.length < n
  · exact c
  · rw [if_neg c] at h; exact absurd rfl h
theorem pl_x {n s : Nat} {L : List (List Nat)} {H : List Nat} (hL : LOk n L) (h : cns n L H ≠ 0) : s % pc (cns n L H) < pc (cns n L H) ∧ nbf (cns n L H) 6 0 (s % pc (cns n L H)) < n := by
  have hlt := cns_lt (n := n) (L := L) (H := H) hL
  have h1 : pc (cns n L H) ≠ 0 := fun e => h ((pc_0 _ hlt).mp e)
  have h2 := Nat.mod_lt s (show 0 < pc (cns n L H) by omega)
  refine ⟨h2, ?_⟩
  rw [pc_cnt _ hlt] at h2 ⊢
  exact (cns_bit hL (nbf_in 6 0 _ h2).2.2).2
theorem e_play_L {N n : Nat} {L : List (List Nat)} (hN : 1000 ≤ N) (hL : LOk n L) : ∀ (m k s F : Nat) (H : List Nat) (w : Wd), H.length + m = n → k + m ≤ 6 → m < F → (∀ y ∈ H, y < n) → RTC 0 L w → gI w 4 0 = nI n → gI w 407 0 = nI H.length → gI w 406 0 = nI (cd H) → s < 2147483648 → ∃ w', X4_play_L1 N F (nI s) (nI k) w = some (.inr w') ∧ ag [406, 407] w w' ∧ gI w' 407 0 = nI (plf n L m H s).length ∧ gI w' 406 0 = nI (cd (plf n L m H s)) := by
  have hn := hL.1
  intro m
  induction m with
  | zero =>
    intro k s F H w hl hk hF hH hC hm h1 h2 hs
    obtain ⟨F, rfl, _⟩ := fuel_s hF
    have c0 : cns n L H = 0 := Decidable.byContradiction fun q => by have := cns_nz q; omega
    rw [X4_play_L1, plf]
    simp only [bsn, l0, l1, l2, l3, l4, l5, l6, l7, l8, l9, l10, l12, l15, l30, l31, l32, l40, l42, l48, l57, l60, l64, l98, l99, l100, l109, l110, l112, l115, l265, l1000, l518400, ngd]
    by_cases c : 6 ≤ k
    · rw [iT (nI_le c (by omega))]; exact ⟨w, rfl, ag.rf _ _, h1, h2⟩
    · rw [iF (nI_ge (by omega) (by omega)), e_nextOpen hN hL hC hH (by omega) hm h1 h2, c0]
      simp only [bsn, l0, l1, l2, l3, l4, l5, l6, l7, l8, l9, l10, l12, l15, l30, l31, l32, l40, l42, l48, l57, l60, l64, l98, l99, l100, l109, l110, l112, l115, l265, l1000, l518400, ngd]
      rw [e_bitCount (by omega), show pc 0 = 0 from rfl]
      simp only [bsn, l0, l1, l2, l3, l4, l5, l6, l7, l8, l9, l10, l12, l15, l30, l31, l32, l40, l42, l48, l57, l60, l64, l98, l99, l100, l109, l110, l112, l115, l265, l1000, l518400, ngd]
      rw [iT trivial]; exact ⟨w, rfl, ag.rf _ _, h1, h2⟩
  | succ m ih =>
    intro k s F H w hl hk hF hH hC hm h1 h2 hs
    obtain ⟨F, rfl, hF'⟩ := fuel_s hF
    have hclt := cns_lt (n := n) (L := L) (H := H) hL
    have hpl := pc_le _ hclt
    have hnx := nxt_lt s
    rw [X4_play_L1, plf]
    simp only [bsn, l0, l1, l2, l3, l4, l5, l6, l7, l8, l9, l10, l12, l15, l30, l31, l32, l40, l42, l48, l57, l60, l64, l98, l99, l100, l109, l110, l112, l115, l265, l1000, l518400, ngd]
    rw [iF (nI_ge (by omega) (by omega)), e_nextOpen hN hL hC hH (by omega) hm h1 h2]
    simp only [bsn, l0, l1, l2, l3, l4, l5, l6, l7, l8, l9, l10, l12, l15, l30, l31, l32, l40, l42, l48, l57, l60, l64, l98, l99, l100, l109, l110, l112, l115, l265, l1000, l518400, ngd]
    rw [e_bitCount hclt]
    simp only [bsn, l0, l1, l2, l3, l4, l5, l6, l7, l8, l9, l10, l12, l15, l30, l31, l32, l40, l42, l48, l57, l60, l64, l98, l99, l100, l109, l110, l112, l115, l265, l1000, l518400, ngd]
    by_cases c : cns n L H = 0
    · rw [iT (by rw [c]; rfl), if_pos c]; exact ⟨w, rfl, ag.rf _ _, h1, h2⟩
    · obtain ⟨p1, p2⟩ := pl_x (s := nxt s) hL c
      have p0 : ¬ nI (pc (cns n L H)) = nI 0 := fun q => by have := (nI_eq (by omega) (by omega)).mp q; omega
      rw [iF p0, e_nextLot hs, if_neg c]
      simp only [bsn, l0, l1, l2, l3, l4, l5, l6, l7, l8, l9, l10, l12, l15, l30, l31, l32, l40, l42, l48, l57, l60, l64, l98, l99, l100, l109, l110, l112, l115, l265, l1000, l518400, ngd]
      rw [gd_t p0, pk_rem (by omega) (by omega) (by omega), e_bitNum hN hclt p1]
      simp only [bsn, l0, l1, l2, l3, l4, l5, l6, l7, l8, l9, l10, l12, l15, l30, l31, l32, l40, l42, l48, l57, l60, l64, l98, l99, l100, l109, l110, l112, l115, l265, l1000, l518400, ngd]
      rw [e_takePaper hn hH (by omega) p2 h1 h2]
      simp only [bsn, l0, l1, l2, l3, l4, l5, l6, l7, l8, l9, l10, l12, l15, l30, l31, l32, l40, l42, l48, l57, l60, l64, l98, l99, l100, l109, l110, l112, l115, l265, l1000, l518400, ngd]
      rw [nI_add]
      have hl2 : (H ++ [nbf (cns n L H) 6 0 (nxt s % pc (cns n L H))]).length = H.length + 1 := by rw [List.length_append, List.length_singleton]
      have g1 : ag [406, 407] w (sI (sI w 406 0 (nI (cd (H ++ [nbf (cns n L H) 6 0 (nxt s % pc (cns n L H))])))) 407 0 (nI (H.length + 1))) := ((ag.rf _ w).sI (by simp)).sI (by simp)
      obtain ⟨w', e, a1, a2, a3⟩ := ih (k + 1) (nxt s) F _ _ (by rw [hl2]; omega) (by omega) (by omega) (mem_snoc hH p2) (RTC_ag hC g1) (by rw [agI g1 4 0]; exact hm) (by rw [gI_sI, if_pos ⟨rfl, rfl⟩, hl2]) (by rw [gI_sI, if_neg (by decide), gI_sI, if_pos ⟨rfl, rfl⟩]) (by omega)
      exact ⟨w', e, g1.tr a1, a2, a3⟩
theorem e_mplay_L {N n : Nat} {L : List (List Nat)} (hN : 1000 ≤ N) (hL : LOk n L) : ∀ (m s F : Nat) (H : List Nat) (w : Wd), H.length + m = n → m < F → (∀ y ∈ H, y < n) → RTS n L w → gI w 510 0 = nI n → gI w 524 0 = nI H.length → (∀ x, x < H.length → gA w 42 0 x = nI (dg H x)) → s < 2147483648 → ∃ w', X5_play_L1 N F (lN s) (nI (cns n L H)) w = some w' ∧ ag [42, 524, 526] w w' ∧ gI w' 524 0 = nI (plf n L m H s).length ∧ ∀ x, x < (plf n L m H s).length → gA w' 42 0 x = nI (dg (plf n L m H s) x) := by
  have hn := hL.1
  intro m
  induction m with
  | zero =>
    intro s F H w hl hF hH hT hm h1 h2 hs
    obtain ⟨F, rfl, _⟩ := fuel_s hF
    have c0 : cns n L H = 0 := Decidable.byContradiction fun q => by have := cns_nz q; omega
    rw [X5_play_L1, plf, c0]
    simp only [bs, l0, l1, l2, l3, l4, l5, l6, l7, l8, l9, l10, l12, l15, l30, l31, l32, l40, l42, l48, l57, l60, l64, l98, l99, l100, l109, l110, l112, l115, l265, l1000, l518400, ngd]
    rw [iT trivial]; exact ⟨w, rfl, ag.rf _ _, h1, h2⟩
  | succ m ih =>
    intro s F H w hl hF hH hT hm h1 h2 hs
    obtain ⟨F, rfl, hF'⟩ := fuel_s hF
    have hclt := cns_lt (n := n) (L := L) (H := H) hL
    have hpl := pc_le _ hclt
    have hnx := nxt_lt s
    rw [X5_play_L1, plf]
    simp only [bs, l0, l1, l2, l3, l4, l5, l6, l7, l8, l9, l10, l12, l15, l30, l31, l32, l40, l42, l48, l57, l60, l64, l98, l99, l100, l109, l110, l112, l115, l265, l1000, l518400, ngd]
    by_cases c : cns n L H = 0
    · rw [iT (by rw [c]), if_pos c]; exact ⟨w, rfl, ag.rf _ _, h1, h2⟩
    · obtain ⟨p1, p2⟩ := pl_x (s := nxt s) hL c
      have c' : ¬ nI (cns n L H) = nI 0 := fun q => c ((nI_eq (by omega) (by omega)).mp q)
      have p64' : ¬ lN (pc (cns n L H)) = (0 : Int64) := fun q => by have := (lN_eq (by omega) (by omega)).mp (show lN (pc (cns n L H)) = lN 0 from q); omega
      rw [iF c', gd_t p64, e_sizeOf hN hclt, if_neg c]
      simp only [bs, l0, l1, l2, l3, l4, l5, l6, l7, l8, l9, l10, l12, l15, l30, l31, l32, l40, l42, l48, l57, l60, l64, l98, l99, l100, l109, l110, l112, l115, l265, l1000, l518400, ngd]
      rw [nI_l (by omega), gd_t p64', lot64 hs, pk_lRem (by omega) (by omega) (by omega), lN_i, e_play_L2 hclt 6 0 _ N (by omega) (by omega) (by rw [← pc_cnt _ hclt]; exact p1) (by omega)]
      simp only [bs, l0, l1, l2, l3, l4, l5, l6, l7, l8, l9, l10, l12, l15, l30, l31, l32, l40, l42, l48, l57, l60, l64, l98, l99, l100, l109, l110, l112, l115, l265, l1000, l518400, ngd]
      obtain ⟨x, hx⟩ : ∃ x, x = nbf (cns n L H) 6 0 (nxt s % pc (cns n L H)) := ⟨_, rfl⟩
      rw [← hx] at p2 ⊢
      have hl2 : (H ++ [x]).length = H.length + 1 := by rw [List.length_append, List.length_singleton]
      rw [h1, gd_in (by omega) (by omega), nI_clamp (by omega), show gI (sA w 42 0 (upd (gA w 42 0) H.length (nI x))) 524 0 = nI H.length from h1, nI_add, gI_sI, iT ⟨rfl, rfl⟩, ← hl2]
      obtain ⟨wx, hwx⟩ : ∃ wx, wx = sI (sA w 42 0 (upd (gA w 42 0) H.length (nI x))) 524 0 (nI (H ++ [x]).length) := ⟨_, rfl⟩
      rw [← hwx]
      have g1 : ag [42, 524, 526] w wx := by rw [hwx]; exact ((ag.rf _ w).sA (by simp)).sI (by simp)
      have hTx := RTS_ag hT g1
      have hmx : gI wx 510 0 = nI n := by rw [agI g1 510 0]; exact hm
      have hhx : ∀ z, z < (H ++ [x]).length → gA wx 42 0 z = nI (dg (H ++ [x]) z) := fun z hz => by
        rw [hl2] at hz
        rw [hwx, gA_sI, gA_sA, if_pos ⟨rfl, rfl⟩]
        by_cases q : z = H.length
        · rw [q, pk_us, dg_app_r]
        · rw [pk_un q, dg_app_l (by omega)]; exact h2 z (by omega)
      obtain ⟨wy, ey, y1, y2⟩ := e_cans (N := N) (H := H ++ [x]) (w := wx) hN hL (mem_snoc hH p2) (by rw [hl2]; omega) hTx hmx hhx
      rw [ey]
      simp only [bs, l0, l1, l2, l3, l4, l5, l6, l7, l8, l9, l10, l12, l15, l30, l31, l32, l40, l42, l48, l57, l60, l64, l98, l99, l100, l109, l110, l112, l115, l265, l1000, l518400, ngd]
      have y1' : ag [42, 524, 526] wx wy := y1.mono (by decide)
      obtain ⟨w', e, a1, a2, a3⟩ := ih (nxt s) F (H ++ [x]) wy (by rw [hl2]; omega) (by omega) (mem_snoc hH p2) (RTS_ag hTx y1) (by rw [agI y1 510 0]; exact hmx) (by rw [agI y1 524 0, hwx, gI_sI, if_pos ⟨rfl, rfl⟩]) (by rw [agA y1 42 0]; exact hhx) (by omega)
      exact ⟨w', e, (g1.tr y1').tr a1, a2, a3⟩
theorem plf_in {n : Nat} {L : List (List Nat)} (hL : LOk n L) : ∀ (m s : Nat) (H : List Nat), H.length + m = n → (∀ y ∈ H, y < n) → (plf n L m H s).length ≤ n ∧ ∀ y ∈ plf n L m H s, y < n := by
  intro m
  induction m with
  | zero => intro s H hl hH; exact ⟨by rw [plf]; omega, hH⟩
  | succ m ih =>
    intro s H hl hH
    rw [plf]
    by_cases c : cns n L H = 0
    · rw [if_pos c]; exact ⟨by omega, hH⟩
    · rw [if_neg c]
      exact ih _ _ (by rw [List.length_append, List.length_singleton]; omega) (mem_snoc hH (pl_x hL c).2)
theorem ok_play {N : Nat} (hN : 1000 ≤ N) : Ok_play N Inv := fun a1 w hI => by
  obtain ⟨o, H, hW, hT⟩ := hI
  by_cases c0 : a1.toInt < 1 ∨ 2147483647 ≤ a1.toInt
  · refine ⟨ng 1, w, w, ?_, ?_, o, H, hW, hT⟩
    · unfold f_X4_play; rw [e_isSeed_f c0]; simp only [bs, l0, l1, l2, l3, l4, l5, l6, l7, l8, l9, l10, l12, l15, l30, l31, l32, l40, l42, l48, l57, l60, l64, l98, l99, l100, l109, l110, l112, l115, l265, l1000, l518400, ngd, if_true, if_false, bn0, reduceCtorEq, n10, z1, z3, z0]
    · unfold f_X5_play; rw [e_misSeed_f c0]; simp only [bs, l0, l1, l2, l3, l4, l5, l6, l7, l8, l9, l10, l12, l15, l30, l31, l32, l40, l42, l48, l57, l60, l64, l98, l99, l100, l109, l110, l112, l115, l265, l1000, l518400, ngd, if_true, if_false, bn0, reduceCtorEq, n10, z1, z3, z0]
  have s1 : 1 ≤ a1.toInt := by omega
  have s2 : a1.toInt < 2147483647 := by omega
  obtain ⟨wa, ea, u1, u2, hWa⟩ := IW_list (N := N) hN hW
  obtain ⟨h1, h2, h3, h4, h5, h6, h7, h8, h9⟩ := id hWa
  obtain ⟨t1, t2, t3, t4, t5, t6⟩ := id h7
  have hn := h1.1
  have hL := LOk_r h1
  have hTa := Itl_ag hT u1
  have ec1 := e_isSeed_t (N := N) (w := w) s1 s2
  have ec2 : ∀ w', f_X5_isSeed N a1 w' = some (nI 1, w') := fun w' => e_misSeed_t s1 s2
  obtain ⟨s, hs, rfl⟩ := seed_of s1 s2
  obtain ⟨K, hK⟩ : ∃ K, K = plf (oN o) (rights o) (oN o - H.length) H s := ⟨_, rfl⟩
  obtain ⟨p1, p2⟩ := plf_in hL (oN o - H.length) s H (by omega) t2
  rw [← hK] at p1 p2
  obtain ⟨w1, e1, a1, a2, a3⟩ := e_play_L (N := N) hN hL (oN o - H.length) 0 s N H wa (by omega) (by omega) (by omega) t2 u2 h3.1 t3 t4 (by omega)
  rw [← hK] at a2 a3
  have h4' := RM_ag h4 a1
  obtain ⟨w2, e2, b1, b2⟩ := e_setRights (N := N) hN h1 h4'
  have t5' : gI w2 524 0 = nI H.length := by rw [agI b1 524 0, agI a1 524 0]; exact t5
  have t6' : ∀ x, x < H.length → gA w2 42 0 x = nI (dg H x) := by rw [agA b1 42 0, agA a1 42 0]; exact t6
  obtain ⟨w3, e3, d1, d2⟩ := e_cans (N := N) (H := H) (w := w2) hN hL t2 t1 b2 (RM_ag h4' b1).1 t6'
  obtain ⟨w4, e4, f1, f2, f3⟩ := e_mplay_L (N := N) hN hL (oN o - H.length) s N H w3 (by omega) (by omega) t2 (RTS_ag b2 d1) (RM_ag (RM_ag h4' b1) d1).1 (by rw [agI d1 524 0]; exact t5') (by rw [agA d1 42 0]; exact t6') (by omega)
  rw [← hK] at f2 f3
  have gm : ag [40, 41, 520, 522, 523, 526, 42, 524] w1 w4 := ((b1.mono (by decide)).tr (d1.mono (by decide))).tr (f1.mono (by decide))
  have g : ag [406, 407, 40, 41, 520, 522, 523, 526, 42, 524] wa w4 := (a1.mono (by decide)).tr (gm.mono (by decide))
  refine ⟨nI K.length, w1, w4, ?_, ?_, o, K, ⟨h1, h2, RO_ag h3 g, RM_ag h4 g, Iro_ag h5 g, Itx_ag h6 g, ⟨p1, p2, ?_, ?_, f2, f3⟩, Ikp_ag h8 g, Ist_ag h9 g⟩, Itl_ag hTa g⟩
  · unfold f_X4_play; rw [ec1]; simp only [bs, l0, l1, l2, l3, l4, l5, l6, l7, l8, l9, l10, l12, l15, l30, l31, l32, l40, l42, l48, l57, l60, l64, l98, l99, l100, l109, l110, l112, l115, l265, l1000, l518400, ngd, if_true, if_false, bn0, reduceCtorEq, n10, z1, z3, z0]; rw [ea]; simp only [bs, l0, l1, l2, l3, l4, l5, l6, l7, l8, l9, l10, l12, l15, l30, l31, l32, l40, l42, l48, l57, l60, l64, l98, l99, l100, l109, l110, l112, l115, l265, l1000, l518400, ngd, if_true, if_false, bn0, reduceCtorEq, n10, z1, z3, z0]; rw [e1]; simp only [bs, Sum.elim_inr]; rw [a2]
  · unfold f_X5_play; rw [ec2]; simp only [bs, l0, l1, l2, l3, l4, l5, l6, l7, l8, l9, l10, l12, l15, l30, l31, l32, l40, l42, l48, l57, l60, l64, l98, l99, l100, l109, l110, l112, l115, l265, l1000, l518400, ngd, if_true, if_false, bn0, reduceCtorEq, n10, z1, z3, z0]; rw [e2]; simp only [bs, l0, l1, l2, l3, l4, l5, l6, l7, l8, l9, l10, l12, l15, l30, l31, l32, l40, l42, l48, l57, l60, l64, l98, l99, l100, l109, l110, l112, l115, l265, l1000, l518400, ngd, if_true, if_false, bn0, reduceCtorEq, n10, z1, z3, z0]; rw [t5', e3]; simp only [bs, l0, l1, l2, l3, l4, l5, l6, l7, l8, l9, l10, l12, l15, l30, l31, l32, l40, l42, l48, l57, l60, l64, l98, l99, l100, l109, l110, l112, l115, l265, l1000, l518400, ngd, if_true, if_false, bn0, reduceCtorEq, n10, z1, z3, z0]; rw [nI_l (by omega), e4]; simp only [bs, l0, l1, l2, l3, l4, l5, l6, l7, l8, l9, l10, l12, l15, l30, l31, l32, l40, l42, l48, l57, l60, l64, l98, l99, l100, l109, l110, l112, l115, l265, l1000, l518400, ngd, if_true, if_false, bn0, reduceCtorEq, n10, z1, z3, z0]; rw [f2]
  · rw [agI gm 407 0]; exact a2
  · rw [agI gm 406 0]; exact a3
