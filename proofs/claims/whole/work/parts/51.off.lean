/-! negative constants, truth values -/
def ng (n : Nat) : Int32 := -nI n
theorem ngd (n : Nat) : -nI n = ng n := (rfl)
theorem ng_neg (n : Nat) : -ng n = nI n := by unfold ng; exact Int32.neg_neg
theorem ng_toInt {n : Nat} (h : n < 2 ^ 31) : (ng n).toInt = -(n : Int) := sb_negT h
theorem ng_eq {a b : Nat} (ha : a < 2 ^ 31) (hb : b < 2 ^ 31) : ng a = ng b ↔ a = b := by
  rw [← Int32.toInt_inj, ng_toInt ha, ng_toInt hb]; omega
theorem nI_ng {a b : Nat} (ha : a < 2 ^ 31) (hb : b < 2 ^ 31) (h0 : 0 < b) : (nI a = ng b) = False := by
  refine eq_false ?_
  rw [← Int32.toInt_inj, nI_toInt ha, ng_toInt hb]; omega
theorem ng_nI {a b : Nat} (ha : a < 2 ^ 31) (hb : b < 2 ^ 31) (h0 : 0 < b) : (ng b = nI a) = False := by
  refine eq_false ?_
  rw [← Int32.toInt_inj, nI_toInt ha, ng_toInt hb]; omega
theorem ng_nn {a b : Nat} (ha : a < 2 ^ 31) (hb : b < 2 ^ 31) (h0 : 0 < b) : (nI a ≤ ng b) = False := by
  refine eq_false ?_
  rw [Int32.le_iff_toInt_le, nI_toInt ha, ng_toInt hb]; omega
theorem ng_le {a b : Nat} (ha : a < 2 ^ 31) (hb : b < 2 ^ 31) : (ng b ≤ nI a) = True := by
  refine eq_true ?_
  rw [Int32.le_iff_toInt_le, nI_toInt ha, ng_toInt hb]; omega
theorem ng_lt {a b : Nat} (ha : a < 2 ^ 31) (hb : b < 2 ^ 31) (h0 : 0 < b) : (ng b < nI a) = True := by
  refine eq_true ?_
  rw [Int32.lt_iff_toInt_lt, nI_toInt ha, ng_toInt hb]; omega
theorem ng_nlt {a b : Nat} (ha : a < 2 ^ 31) (hb : b < 2 ^ 31) : (nI a < ng b) = False := by
  refine eq_false ?_
  rw [Int32.lt_iff_toInt_lt, nI_toInt ha, ng_toInt hb]; omega
def bn (b : Bool) : Nat := if b then 1 else 0
theorem bn0 (b : Bool) : (nI (bn b) = nI 0) = (b = false) := by cases b <;> decide
theorem bn1 (b : Bool) : (nI (bn b) = nI 1) = (b = true) := by cases b <;> decide
theorem bnt : bn true = 1 := rfl
theorem bnf : bn false = 0 := rfl
theorem bn_lt (b : Bool) : bn b < 2 := by cases b <;> decide
/-! offices -/
abbrev Of : Type := (Nat × Nat) × ((Nat → Nat) × (Nat → Nat) × (Nat → Nat)) × List (List Nat)
def oN (o : Of) : Nat := o.1.1
def oR (o : Of) : Nat := o.1.2
def oK (o : Of) : Nat → Nat := o.2.1.1
def oT (o : Of) : Nat → Nat := o.2.1.2.1
def oW (o : Of) : Nat → Nat := o.2.1.2.2
def oY (o : Of) : List (List Nat) := o.2.2
def oC (o : Of) : Nat := (oY o).length
def dr (L : List (List Nat)) (k : Nat) : List Nat := L.getD k []
def Pm (n : Nat) (d : List Nat) : Prop := d.length = n ∧ (∀ y ∈ d, y < n) ∧ d.Nodup
def Wf (o : Of) : Prop := oN o ≤ 6 ∧ oR o ≤ 15 ∧ (∀ x, x < oN o → oK o x ≤ 5 ∧ oT o x ≤ 9 ∧ oW o x ≤ 9) ∧ oC o ≤ 42 ∧ ∀ d ∈ oY o, Pm (oN o) d
def RO (i : Nat) (o : Of) (w : Wd) : Prop := gI w 4 i = nI (oN o) ∧ gI w 5 i = nI (oC o) ∧ gI w 6 i = nI (oR o) ∧ (∀ x, x < oN o → gA w 16 i x = nI (oK o x) ∧ gA w 17 i x = nI (oT o x) ∧ gA w 18 i x = nI (oW o x)) ∧ ∀ k, k < oC o → gA w 19 i k = nI (cd (dr (oY o) k))
def RM (o : Of) (w : Wd) : Prop := gI w 510 0 = nI (oN o) ∧ gI w 518 0 = nI (oC o) ∧ gI w 511 0 = nI (oR o) ∧ (∀ x, x < oN o → gA w 36 0 x = nI (oK o x) ∧ gA w 37 0 x = nI (oT o x) ∧ gA w 38 0 x = nI (oW o x)) ∧ ∀ k, k < oC o → ∀ x, x < oN o → gA w 39 0 (6 * k + x) = nI (dg (dr (oY o) k) x)
theorem RO_ag {S : List Nat} {i : Nat} {o : Of} {w w' : Wd} (h : RO i o w) (g : ag S w w') (hs : ∀ k ∈ [4, 5, 6, 16, 17, 18, 19], k + 1000 * i ∉ S := by decide) : RO i o w' := by
  obtain ⟨h1, h2, h3, h4, h5⟩ := h
  have e := fun k (hk : k ∈ [4, 5, 6, 16, 17, 18, 19]) => hs k hk
  refine ⟨?_, ?_, ?_, fun x hx => ?_, fun k hk => ?_⟩
  · rw [g.1 4 i (e 4 (by decide)) (by decide)]; exact h1
  · rw [g.1 5 i (e 5 (by decide)) (by decide)]; exact h2
  · rw [g.1 6 i (e 6 (by decide)) (by decide)]; exact h3
  · rw [g.2.2 16 i (e 16 (by decide)) (by decide), g.2.2 17 i (e 17 (by decide)) (by decide), g.2.2 18 i (e 18 (by decide)) (by decide)]; exact h4 x hx
  · rw [g.2.2 19 i (e 19 (by decide)) (by decide)]; exact h5 k hk
theorem RM_ag {S : List Nat} {o : Of} {w w' : Wd} (h : RM o w) (g : ag S w w') (hs : ∀ k ∈ [510, 518, 511, 36, 37, 38, 39], k ∉ S := by decide) : RM o w' := by
  obtain ⟨h1, h2, h3, h4, h5⟩ := h
  have e := fun k (hk : k ∈ [510, 518, 511, 36, 37, 38, 39]) => hs k hk
  refine ⟨?_, ?_, ?_, fun x hx => ?_, fun k hk => ?_⟩
  · rw [g.1 510 0 (e 510 (by decide)) (by decide)]; exact h1
  · rw [g.1 518 0 (e 518 (by decide)) (by decide)]; exact h2
  · rw [g.1 511 0 (e 511 (by decide)) (by decide)]; exact h3
  · rw [g.2.2 36 0 (e 36 (by decide)) (by decide), g.2.2 37 0 (e 37 (by decide)) (by decide), g.2.2 38 0 (e 38 (by decide)) (by decide)]; exact h4 x hx
  · rw [g.2.2 39 0 (e 39 (by decide)) (by decide)]; exact h5 k hk
theorem Pm8 {n : Nat} {d : List Nat} (h : Pm n d) (hn : n ≤ 6) : ∀ y ∈ d, y < 8 := fun y hy => by have := h.2.1 y hy; omega
theorem Pm_dg {n : Nat} {d : List Nat} (h : Pm n d) {x : Nat} (hx : x < n) : dg d x < n := h.2.1 _ (dg_mem (by rw [h.1]; exact hx))
theorem Pm_cd {n : Nat} {d : List Nat} (h : Pm n d) (hn : n ≤ 6) : cd d < 262144 := cd_small (Pm8 h hn) (by rw [h.1]; exact hn)
theorem Pm_pp {n : Nat} {d : List Nat} (h : Pm n d) (hn : n ≤ 6) (x : Nat) : pp (cd d) x = dg d x := pp_cd d x (Pm8 h hn)
theorem dr_mem {L : List (List Nat)} {k : Nat} (h : k < L.length) : dr L k ∈ L := by
  unfold dr; rw [List.getD_eq_getElem?_getD, List.getElem?_eq_getElem h]; exact List.getElem_mem h
theorem Wf_yr {o : Of} (h : Wf o) {k : Nat} (hk : k < oC o) : Pm (oN o) (dr (oY o) k) := h.2.2.2.2 _ (dr_mem hk)
/-! kinds, barred -/
def isO (k w : Nat) : Bool := decide (k = w ∨ (w = 1 ∧ k = 5) ∨ (w = 2 ∧ k = 4))
def lst (o : Of) (x : Nat) : Int32 := if oC o = 0 then ng 9 else nI (dg (dr (oY o) (oC o - 1)) x)
def rb (o : Of) (k : Nat) : Bool := (oR o).testBit k
def bar (o : Of) (x y : Nat) : Nat :=
  if x = y then 1
  else if (oT o x = oT o y ∧ (isO (oK o y) 1 = true ∨ oK o x = 5)) ∨ (oK o y = 3 ∧ oW o y < oW o x) then 2
  else if oT o x = oT o y ∧ rb o 2 = true then 3
  else if rb o 1 = true ∧ isO (oK o x) 2 = false ∧ lst o x = nI y then 4 else 0
def mnd (o : Of) (x y : Nat) : Bool := decide (rb o 0 = true ∧ oK o x ≠ 4 ∧ oK o y ≠ 4)
theorem rbit : ∀ r, r ≤ 15 → (nI r &&& nI 1 = nI 0 ↔ r.testBit 0 = false) ∧ (nI r &&& nI 2 = nI 0 ↔ r.testBit 1 = false) ∧ (nI r &&& nI 4 = nI 0 ↔ r.testBit 2 = false) ∧ (nI r &&& nI 8 = nI 0 ↔ r.testBit 3 = false) := by
  intro r hr
  have h := (show ∀ r, r < 16 → (nI r &&& nI 1 = nI 0 ↔ r.testBit 0 = false) ∧ (nI r &&& nI 2 = nI 0 ↔ r.testBit 1 = false) ∧ (nI r &&& nI 4 = nI 0 ↔ r.testBit 2 = false) ∧ (nI r &&& nI 8 = nI 0 ↔ r.testBit 3 = false) from by decide +kernel)
  exact h r (by omega)
theorem e_isFor1 {N i : Nat} {o : Of} {w : Wd} (h : RO i o w) (hf : Wf o) : f_X0_isFor N i (nI 1) w = some (nI (bn (rb o 0)), w) := by
  unfold f_X0_isFor rb
  rw [h.2.2.1, l0, l1]
  cases e : (oR o).testBit 0
  · rw [if_pos ((rbit _ hf.2.1).1.mpr e)]; rfl
  · rw [if_neg (fun q => by rw [(rbit _ hf.2.1).1.mp q] at e; cases e)]; rfl
theorem e_isFor2 {N i : Nat} {o : Of} {w : Wd} (h : RO i o w) (hf : Wf o) : f_X0_isFor N i (nI 2) w = some (nI (bn (rb o 1)), w) := by
  unfold f_X0_isFor rb
  rw [h.2.2.1, l0, l1]
  cases e : (oR o).testBit 1
  · rw [if_pos ((rbit _ hf.2.1).2.1.mpr e)]; rfl
  · rw [if_neg (fun q => by rw [(rbit _ hf.2.1).2.1.mp q] at e; cases e)]; rfl
theorem e_isFor4 {N i : Nat} {o : Of} {w : Wd} (h : RO i o w) (hf : Wf o) : f_X0_isFor N i (nI 4) w = some (nI (bn (rb o 2)), w) := by
  unfold f_X0_isFor rb
  rw [h.2.2.1, l0, l1]
  cases e : (oR o).testBit 2
  · rw [if_pos ((rbit _ hf.2.1).2.2.1.mpr e)]; rfl
  · rw [if_neg (fun q => by rw [(rbit _ hf.2.1).2.2.1.mp q] at e; cases e)]; rfl
theorem e_isFor8 {N i : Nat} {o : Of} {w : Wd} (h : RO i o w) (hf : Wf o) : f_X0_isFor N i (nI 8) w = some (nI (bn (rb o 3)), w) := by
  unfold f_X0_isFor rb
  rw [h.2.2.1, l0, l1]
  cases e : (oR o).testBit 3
  · rw [if_pos ((rbit _ hf.2.1).2.2.2.mpr e)]; rfl
  · rw [if_neg (fun q => by rw [(rbit _ hf.2.1).2.2.2.mp q] at e; cases e)]; rfl
theorem e_isOf {N k v : Nat} {w : Wd} (hk : k < 2 ^ 31) (hv : v < 2 ^ 31) : f_X4_isOf N (nI k) (nI v) w = some (nI (bn (isO k v)), w) := by
  unfold f_X4_isOf X4_isOf_J15 isO bn
  simp (disch := omega) only [l0, l1, l2, l3, l4, l5, l6, l7, l8, l9, l10, l12, l15, l30, l31, l32, l40, l42, l48, l57, l60, l64, l98, l99, l100, l109, l110, l112, l115, l265, l1000, l518400, nI_eq, decide_eq_true_eq]
  by_cases h1 : k = v
  · simp [h1]
  · by_cases h2 : v = 1
    · subst h2; by_cases h3 : k = 5 <;> simp [h1, h3]
    · by_cases h3 : v = 2
      · subst h3; by_cases h4 : k = 4 <;> simp [h1, h4]
      · simp [h1, h2, h3]
theorem e_latest {N i x : Nat} {o : Of} {w : Wd} (h : RO i o w) (hf : Wf o) (hx : x < oN o) : f_X0_latest N i (nI x) w = some (lst o x, w) := by
  have hc := hf.2.2.2.1
  have hn := hf.1
  unfold f_X0_latest lst
  rw [h.2.1]
  by_cases c : oC o = 0
  · simp only [c, l0, l1, l2, l3, l4, l5, l6, l7, l8, l9, l10, l12, l15, l30, l31, l32, l40, l42, l48, l57, l60, l64, l98, l99, l100, l109, l110, l112, l115, l265, l1000, l518400, ngd, if_true]
  · have hp := Wf_yr hf (k := oC o - 1) (by omega)
    have hcd := Pm_cd hp hn
    simp (disch := omega) only [l0, l1, l2, l3, l4, l5, l6, l7, l8, l9, l10, l12, l15, l30, l31, l32, l40, l42, l48, l57, l60, l64, l98, l99, l100, l109, l110, l112, l115, l265, l1000, l518400, nI_eq, c, if_false, pk_sub, gd_in, nI_clamp, h.2.2.2.2 (oC o - 1) (by omega), e_paper, bs, Pm_pp hp hn]
theorem e_minds {N i x y : Nat} {o : Of} {w : Wd} (h : RO i o w) (hf : Wf o) (hx : x < oN o) (hy : y < oN o) : f_X0_minds N i (nI x) (nI y) w = some (nI (bn (mnd o x y)), w) := by
  have hn := hf.1
  have kx := (hf.2.2.1 x hx).1
  have ky := (hf.2.2.1 y hy).1
  unfold f_X0_minds mnd
  simp (disch := omega) only [l0, l1, l2, l3, l4, l5, l6, l7, l8, l9, l10, l12, l15, l30, l31, l32, l40, l42, l48, l57, l60, l64, l98, l99, l100, l109, l110, l112, l115, l265, l1000, l518400, e_isFor1 h hf, bs, nI_clamp, gd_in, (h.2.2.2.1 x hx).1, (h.2.2.2.1 y hy).1, nI_eq, bn0]
  by_cases c1 : rb o 0 = true
  · by_cases c2 : oK o x = 4
    · simp [c1, c2, bn]
    · by_cases c3 : oK o y = 4 <;> simp [c1, c2, c3, bn]
  · simp [c1, bn]
def b98 (o : Of) (x y : Nat) : Nat := if rb o 1 = true ∧ isO (oK o x) 2 = false ∧ lst o x = nI y then 4 else 0
def b84 (o : Of) (x y s : Nat) : Nat := if s = 1 ∧ rb o 2 = true then 3 else b98 o x y
def b57 (o : Of) (x y s : Nat) : Nat := if oK o y = 3 ∧ oW o y < oW o x then 2 else b84 o x y s
def b27 (o : Of) (x y s : Nat) : Nat := if s = 1 ∧ (isO (oK o y) 1 = true ∨ oK o x = 5) then 2 else b57 o x y s
theorem bar_27 (o : Of) (x y : Nat) : bar o x y = if x = y then 1 else if oT o x = oT o y then b27 o x y 1 else b27 o x y 0 := by
  unfold bar b27 b57 b84 b98
  by_cases c1 : x = y
  · simp [c1]
  by_cases c2 : oT o x = oT o y
  · by_cases c3 : isO (oK o y) 1 = true ∨ oK o x = 5
    · simp [c1, c2, c3]
    · by_cases c4 : oK o y = 3 ∧ oW o y < oW o x <;> simp [c1, c2, c3, c4]
  · by_cases c4 : oK o y = 3 ∧ oW o y < oW o x <;> simp [c1, c2, c4]
theorem e_b98 {N i x y : Nat} {o : Of} {w : Wd} (h : RO i o w) (hf : Wf o) (hx : x < oN o) (hy : y < oN o) : X0_barrier_J98 N i (nI x) (nI y) w = some (nI (b98 o x y), w) := by
  have hn := hf.1
  have kx := (hf.2.2.1 x hx).1
  unfold X0_barrier_J98 b98
  simp (disch := omega) only [l0, l1, l2, l3, l4, l5, l6, l7, l8, l9, l10, l12, l15, l30, l31, l32, l40, l42, l48, l57, l60, l64, l98, l99, l100, l109, l110, l112, l115, l265, l1000, l518400, bs, nI_clamp, gd_in, (h.2.2.2.1 x hx).1, e_isOf, e_isFor2 h hf, e_latest h hf hx, bn0]
  cases c9 : rb o 1
  · simp
  · cases c10 : isO (oK o x) 2
    · by_cases c11 : lst o x = nI y <;> simp [c11]
    · simp
theorem e_b84 {N i x y s : Nat} {o : Of} {w : Wd} (h : RO i o w) (hf : Wf o) (hx : x < oN o) (hy : y < oN o) (hs : s < 2) : X0_barrier_J84 N i (nI x) (nI y) (nI s) w = some (nI (b84 o x y s), w) := by
  unfold X0_barrier_J84 b84
  simp (disch := omega) only [l0, l1, l2, l3, l4, l5, l6, l7, l8, l9, l10, l12, l15, l30, l31, l32, l40, l42, l48, l57, l60, l64, l98, l99, l100, l109, l110, l112, l115, l265, l1000, l518400, bs, nI_eq, e_isFor4 h hf, e_b98 h hf hx hy, bn0]
  rcases (show s = 0 ∨ s = 1 by omega) with rfl | rfl
  · simp
  · cases c9 : rb o 2 <;> simp
theorem e_b57 {N i x y s : Nat} {o : Of} {w : Wd} (h : RO i o w) (hf : Wf o) (hx : x < oN o) (hy : y < oN o) (hs : s < 2) : X0_barrier_J57 N i (nI x) (nI y) (nI s) w = some (nI (b57 o x y s), w) := by
  have hn := hf.1
  obtain ⟨kx, tx, wx⟩ := hf.2.2.1 x hx
  obtain ⟨ky, ty, wy⟩ := hf.2.2.1 y hy
  unfold X0_barrier_J57 b57
  simp (disch := omega) only [l0, l1, l2, l3, l4, l5, l6, l7, l8, l9, l10, l12, l15, l30, l31, l32, l40, l42, l48, l57, l60, l64, l98, l99, l100, l109, l110, l112, l115, l265, l1000, l518400, nI_clamp, gd_in, (h.2.2.2.1 x hx).2.2, (h.2.2.2.1 y hy).1, (h.2.2.2.1 y hy).2.2, nI_eq, nI_leI, e_b84 h hf hx hy]
  by_cases c1 : oK o y = 3
  · by_cases c2 : oW o x ≤ oW o y
    · have c3 : ¬ oW o y < oW o x := by omega
      simp [c1, c2, c3]
    · have c3 : oW o y < oW o x := by omega
      simp [c1, c2, c3]
  · simp [c1]
theorem e_b27 {N i x y s : Nat} {o : Of} {w : Wd} (h : RO i o w) (hf : Wf o) (hx : x < oN o) (hy : y < oN o) (hs : s < 2) : X0_barrier_J27 N i (nI x) (nI y) (nI s) w = some (nI (b27 o x y s), w) := by
  have hn := hf.1
  obtain ⟨kx, tx, wx⟩ := hf.2.2.1 x hx
  obtain ⟨ky, ty, wy⟩ := hf.2.2.1 y hy
  unfold X0_barrier_J27 b27
  simp (disch := omega) only [l0, l1, l2, l3, l4, l5, l6, l7, l8, l9, l10, l12, l15, l30, l31, l32, l40, l42, l48, l57, l60, l64, l98, l99, l100, l109, l110, l112, l115, l265, l1000, l518400, bs, nI_clamp, gd_in, (h.2.2.2.1 x hx).1, (h.2.2.2.1 y hy).1, nI_eq, e_isOf, e_b57 h hf hx hy, bn0]
  rcases (show s = 0 ∨ s = 1 by omega) with rfl | rfl
  · simp
  · cases c1 : isO (oK o y) 1
    · by_cases c2 : oK o x = 5 <;> simp [c2]
    · simp
theorem e_barrier {N i x y : Nat} {o : Of} {w : Wd} (h : RO i o w) (hf : Wf o) (hx : x < oN o) (hy : y < oN o) : f_X0_barrier N i (nI x) (nI y) w = some (nI (bar o x y), w) := by
  have hn := hf.1
  obtain ⟨kx, tx, wx⟩ := hf.2.2.1 x hx
  obtain ⟨ky, ty, wy⟩ := hf.2.2.1 y hy
  unfold f_X0_barrier
  rw [bar_27]
  simp (disch := omega) only [l0, l1, l2, l3, l4, l5, l6, l7, l8, l9, l10, l12, l15, l30, l31, l32, l40, l42, l48, l57, l60, l64, l98, l99, l100, l109, l110, l112, l115, l265, l1000, l518400, nI_clamp, gd_in, (h.2.2.2.1 x hx).2.1, (h.2.2.2.1 y hy).2.1, nI_eq, e_b27 h hf hx hy]
  by_cases c1 : x = y
  · simp [c1]
  by_cases c2 : oT o x = oT o y <;> simp [c1, c2]
theorem bar_le (o : Of) (x y : Nat) : bar o x y ≤ 4 := by
  unfold bar
  repeat' split
  all_goals omega
/-! the model's -/
theorem e_in {N a b c : Nat} {w : Wd} (ha : a < 2 ^ 31) (hb : b < 2 ^ 31) (hc : c < 2 ^ 31) : f_X5_in N (nI a) (nI b) (nI c) w = some (nI (bn (decide (b ≤ a ∧ a ≤ c))), w) := by
  unfold f_X5_in
  simp (disch := omega) only [l0, l1, l2, l3, l4, l5, l6, l7, l8, l9, l10, l12, l15, l30, l31, l32, l40, l42, l48, l57, l60, l64, l98, l99, l100, l109, l110, l112, l115, l265, l1000, l518400, nI_ltI]
  by_cases c1 : a < b
  · have : ¬ (b ≤ a ∧ a ≤ c) := by omega
    simp [c1, this, bn]
  · by_cases c2 : c < a
    · have : ¬ (b ≤ a ∧ a ≤ c) := by omega
      simp [c1, c2, this, bn]
    · have : b ≤ a ∧ a ≤ c := by omega
      simp [c1, c2, this, bn]
theorem e_has {N s k : Nat} {w : Wd} (hs : s < 2 ^ 31) (hk : k < 32) : f_X5_has N (nI s) (nI k) w = some (nI (bn (s.testBit k)), w) := by
  unfold f_X5_has
  rw [nx_shr hs hk, l1, nx_and, Nat.testBit_eq_decide_div_mod_eq, Nat.and_one_is_mod, Nat.shiftRight_eq_div_pow]
  simp (disch := omega) only [l0, l1, l2, l3, l4, l5, l6, l7, l8, l9, l10, l12, l15, l30, l31, l32, l40, l42, l48, l57, l60, l64, l98, l99, l100, l109, l110, l112, l115, l265, l1000, l518400, nI_eq]
  by_cases c : s / 2 ^ k % 2 = 1 <;> simp [c, bn]
theorem e_isA {N x v : Nat} {o : Of} {w : Wd} (h : RM o w) (hf : Wf o) (hx : x < oN o) (hv : v < 2 ^ 31) : f_X5_isA N (nI x) (nI v) w = some (nI (bn (isO (oK o x) v)), w) := by
  have hn := hf.1
  have kx := (hf.2.2.1 x hx).1
  unfold f_X5_isA X5_isA_J25 isO bn
  simp (disch := omega) only [l0, l1, l2, l3, l4, l5, l6, l7, l8, l9, l10, l12, l15, l30, l31, l32, l40, l42, l48, l57, l60, l64, l98, l99, l100, l109, l110, l112, l115, l265, l1000, l518400, nI_clamp, gd_in, (h.2.2.2.1 x hx).1, nI_eq, decide_eq_true_eq]
  by_cases h1 : oK o x = v
  · simp [h1]
  · by_cases h2 : v = 1
    · subst h2; by_cases h3 : oK o x = 5 <;> simp [h1, h3]
    · by_cases h3 : v = 2
      · subst h3; by_cases h4 : oK o x = 4 <;> simp [h1, h4]
      · simp [h1, h2, h3]
theorem e_lastOf {N x : Nat} {o : Of} {w : Wd} (h : RM o w) (hf : Wf o) (hx : x < oN o) : f_X5_lastOf N (nI x) w = some (lst o x, w) := by
  have hc := hf.2.2.2.1
  have hn := hf.1
  unfold f_X5_lastOf lst
  rw [h.2.1]
  by_cases c : oC o = 0
  · simp only [c, l0, l1, l2, l3, l4, l5, l6, l7, l8, l9, l10, l12, l15, l30, l31, l32, l40, l42, l48, l57, l60, l64, l98, l99, l100, l109, l110, l112, l115, l265, l1000, l518400, ngd, if_true]
  · simp (disch := omega) only [l0, l1, l2, l3, l4, l5, l6, l7, l8, l9, l10, l12, l15, l30, l31, l32, l40, l42, l48, l57, l60, l64, l98, l99, l100, l109, l110, l112, l115, l265, l1000, l518400, nI_eq, c, if_false, pk_sub, pk_mul, nI_add, gd_in, nI_clamp, h.2.2.2.2 (oC o - 1) (by omega) x hx]
theorem e_isBack {N x y : Nat} {o : Of} {w : Wd} (h : RM o w) (hf : Wf o) (hx : x < oN o) (hy : y < oN o) : f_X5_isBack N (nI x) (nI y) w = some (nI (bn (mnd o x y)), w) := by
  have hn := hf.1
  have hr := hf.2.1
  have kx := (hf.2.2.1 x hx).1
  have ky := (hf.2.2.1 y hy).1
  unfold f_X5_isBack mnd rb
  simp (disch := omega) only [l0, l1, l2, l3, l4, l5, l6, l7, l8, l9, l10, l12, l15, l30, l31, l32, l40, l42, l48, l57, l60, l64, l98, l99, l100, l109, l110, l112, l115, l265, l1000, l518400, h.2.2.1, e_has, bs, nI_clamp, gd_in, (h.2.2.2.1 x hx).1, (h.2.2.2.1 y hy).1, nI_eq, bn0]
  by_cases c1 : (oR o).testBit 0 = true
  · by_cases c2 : oK o x = 4
    · simp [c1, c2, bn]
    · by_cases c3 : oK o y = 4 <;> simp [c1, c2, c3, bn]
  · simp [c1, bn]
theorem e_m95 {N x y : Nat} {o : Of} {w : Wd} (h : RM o w) (hf : Wf o) (hx : x < oN o) (hy : y < oN o) : X5_barOf_J95 N (nI x) (nI y) w = some (nI (b98 o x y), w) := by
  have hr := hf.2.1
  unfold X5_barOf_J95 b98 rb
  simp (disch := omega) only [l0, l1, l2, l3, l4, l5, l6, l7, l8, l9, l10, l12, l15, l30, l31, l32, l40, l42, l48, l57, l60, l64, l98, l99, l100, l109, l110, l112, l115, l265, l1000, l518400, bs, h.2.2.1, e_isA h hf hx, e_has, e_lastOf h hf hx, bn0]
  cases c9 : (oR o).testBit 1
  · simp
  · cases c10 : isO (oK o x) 2 <;> by_cases c11 : lst o x = nI y <;> simp [c11]
theorem e_m78 {N x y s : Nat} {o : Of} {w : Wd} (h : RM o w) (hf : Wf o) (hx : x < oN o) (hy : y < oN o) (hs : s < 2) : X5_barOf_J78 N (nI x) (nI y) (nI s) w = some (nI (b84 o x y s), w) := by
  have hr := hf.2.1
  unfold X5_barOf_J78 b84 rb
  simp (disch := omega) only [l0, l1, l2, l3, l4, l5, l6, l7, l8, l9, l10, l12, l15, l30, l31, l32, l40, l42, l48, l57, l60, l64, l98, l99, l100, l109, l110, l112, l115, l265, l1000, l518400, bs, h.2.2.1, nI_eq, e_has, e_m95 h hf hx hy, bn0]
  rcases (show s = 0 ∨ s = 1 by omega) with rfl | rfl
  · cases c9 : (oR o).testBit 2 <;> simp
  · cases c9 : (oR o).testBit 2 <;> simp
theorem e_m51 {N x y s : Nat} {o : Of} {w : Wd} (h : RM o w) (hf : Wf o) (hx : x < oN o) (hy : y < oN o) (hs : s < 2) : X5_barOf_J51 N (nI x) (nI y) (nI s) w = some (nI (b57 o x y s), w) := by
  have hn := hf.1
  obtain ⟨kx, tx, wx⟩ := hf.2.2.1 x hx
  obtain ⟨ky, ty, wy⟩ := hf.2.2.1 y hy
  unfold X5_barOf_J51 b57
  simp (disch := omega) only [l0, l1, l2, l3, l4, l5, l6, l7, l8, l9, l10, l12, l15, l30, l31, l32, l40, l42, l48, l57, l60, l64, l98, l99, l100, l109, l110, l112, l115, l265, l1000, l518400, nI_clamp, gd_in, (h.2.2.2.1 x hx).2.2, (h.2.2.2.1 y hy).1, (h.2.2.2.1 y hy).2.2, nI_eq, nI_leI, e_m78 h hf hx hy]
  by_cases c1 : oK o y = 3
  · by_cases c2 : oW o x ≤ oW o y
    · have c3 : ¬ oW o y < oW o x := by omega
      simp [c1, c2, c3]
    · have c3 : oW o y < oW o x := by omega
      simp [c1, c2, c3]
  · simp [c1]
theorem e_m20 {N x y s : Nat} {o : Of} {w : Wd} (h : RM o w) (hf : Wf o) (hx : x < oN o) (hy : y < oN o) (hs : s < 2) : X5_barOf_J20 N (nI x) (nI y) (nI s) w = some (nI (if x = y then 1 else b27 o x y s), w) := by
  have hn := hf.1
  obtain ⟨kx, tx, wx⟩ := hf.2.2.1 x hx
  obtain ⟨ky, ty, wy⟩ := hf.2.2.1 y hy
  unfold X5_barOf_J20 b27
  simp (disch := omega) only [l0, l1, l2, l3, l4, l5, l6, l7, l8, l9, l10, l12, l15, l30, l31, l32, l40, l42, l48, l57, l60, l64, l98, l99, l100, l109, l110, l112, l115, l265, l1000, l518400, bs, nI_clamp, gd_in, (h.2.2.2.1 x hx).1, nI_eq, e_isA h hf hy, e_m51 h hf hx hy, bn0]
  by_cases c0 : x = y
  · simp [c0]
  rcases (show s = 0 ∨ s = 1 by omega) with rfl | rfl
  · simp [c0]
  · cases c1 : isO (oK o y) 1
    · by_cases c2 : oK o x = 5 <;> simp [c0, c2]
    · simp [c0]
theorem e_barOf {N x y : Nat} {o : Of} {w : Wd} (h : RM o w) (hf : Wf o) (hx : x < oN o) (hy : y < oN o) : f_X5_barOf N (nI x) (nI y) w = some (nI (bar o x y), w) := by
  have hn := hf.1
  obtain ⟨kx, tx, wx⟩ := hf.2.2.1 x hx
  obtain ⟨ky, ty, wy⟩ := hf.2.2.1 y hy
  unfold f_X5_barOf
  rw [bar_27]
  simp (disch := omega) only [l0, l1, l2, l3, l4, l5, l6, l7, l8, l9, l10, l12, l15, l30, l31, l32, l40, l42, l48, l57, l60, l64, l98, l99, l100, l109, l110, l112, l115, l265, l1000, l518400, nI_clamp, gd_in, (h.2.2.2.1 x hx).2.1, (h.2.2.2.1 y hy).2.1, nI_eq, e_m20 h hf hx hy]
  by_cases c1 : x = y
  · simp [c1]
  by_cases c2 : oT o x = oT o y <;> simp [c1, c2]
