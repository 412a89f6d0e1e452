/-! any int against a small one -/
theorem cle {a : Int32} {n : Nat} (hn : n < 2 ^ 31) : a ≤ nI n ↔ a.toInt ≤ (n : Int) := by rw [Int32.le_iff_toInt_le, nI_toInt hn]
theorem cge {a : Int32} {n : Nat} (hn : n < 2 ^ 31) : nI n ≤ a ↔ (n : Int) ≤ a.toInt := by rw [Int32.le_iff_toInt_le, nI_toInt hn]
theorem clt {a : Int32} {n : Nat} (hn : n < 2 ^ 31) : a < nI n ↔ a.toInt < (n : Int) := by rw [Int32.lt_iff_toInt_lt, nI_toInt hn]
theorem cgt {a : Int32} {n : Nat} (hn : n < 2 ^ 31) : nI n < a ↔ (n : Int) < a.toInt := by rw [Int32.lt_iff_toInt_lt, nI_toInt hn]
theorem neg0 {a : Int32} (h : a.toInt < 0) : a < nI 0 := (clt (n := 0) (by omega)).mpr (by omega)
theorem cix (a : Int32) {n : Nat} (hn : n < 2 ^ 31) : (a.toInt < 0 ∨ (n : Int) ≤ a.toInt) ∨ ∃ j : Nat, j < n ∧ a = nI j := by
  rcases pk_ix a hn with h | h | h
  · exact Or.inl (Or.inl ((clt (n := 0) (by omega)).mp h))
  · exact Or.inl (Or.inr ((cge hn).mp h))
  · exact Or.inr h
theorem e_in_f {N n : Nat} {a c : Int32} {w : Wd} (hn : n < 2 ^ 30) (h : a.toInt < 0 ∨ (n : Int) ≤ a.toInt) (hc : c.toInt = (n : Int) - 1) : f_X5_in N a (nI 0) c w = some (nI 0, w) := by
  unfold f_X5_in
  simp only [bs, l0, l1, l2, l3, l4, l5, l6, l7, l8, l9, l10, l12, l15, l30, l31, l32, l40, l42, l48, l57, l60, l64, l98, l99, l100, l109, l110, l112, l115, l265, l1000, l518400, ngd]
  rcases h with h | h
  · rw [iT (neg0 h)]
  · rw [iF (fun q => by have := (clt (n := 0) (by omega)).mp q; omega), iT (by rw [Int32.lt_iff_toInt_lt]; omega)]
theorem e_in_t {N n j : Nat} {c : Int32} {w : Wd} (hn : n < 2 ^ 30) (h : j < n) (hc : c.toInt = (n : Int) - 1) : f_X5_in N (nI j) (nI 0) c w = some (nI 1, w) := by
  unfold f_X5_in
  simp only [bs, l0, l1, l2, l3, l4, l5, l6, l7, l8, l9, l10, l12, l15, l30, l31, l32, l40, l42, l48, l57, l60, l64, l98, l99, l100, l109, l110, l112, l115, l265, l1000, l518400, ngd]
  rw [iF (nI_nlt (by omega) (by omega)), iF (by rw [Int32.lt_iff_toInt_lt, nI_toInt (by omega)]; omega)]
theorem nn1 {n : Nat} (hn : n < 2 ^ 30) : (nI n - nI 1).toInt = (n : Int) - 1 := pk_sub_toInt hn (by omega)
theorem nn2 {n : Nat} (hn : n < 2 ^ 30) : (nI n).toInt = ((n + 1 : Nat) : Int) - 1 := by rw [nI_toInt (by omega)]; omega
theorem e_isRow_f {N : Nat} {a : Int32} {w : Wd} (h : a.toInt < 0 ∨ (6 : Nat) ≤ a.toInt) : f_X4_isRow N a w = some (nI 0, w) := by
  unfold f_X4_isRow
  simp only [bs, l0, l1, l2, l3, l4, l5, l6, l7, l8, l9, l10, l12, l15, l30, l31, l32, l40, l42, l48, l57, l60, l64, l98, l99, l100, l109, l110, l112, l115, l265, l1000, l518400, ngd]
  rcases h with h | h
  · rw [iT (neg0 h)]
  · rw [iF (fun q => by have := (clt (n := 0) (by omega)).mp q; omega), iT ((cge (by omega)).mpr h)]
theorem e_isRow_t {N r : Nat} {w : Wd} (h : r < 6) : f_X4_isRow N (nI r) w = some (nI 1, w) := by
  unfold f_X4_isRow
  simp only [bs, l0, l1, l2, l3, l4, l5, l6, l7, l8, l9, l10, l12, l15, l30, l31, l32, l40, l42, l48, l57, l60, l64, l98, l99, l100, l109, l110, l112, l115, l265, l1000, l518400, ngd]
  rw [iF (nI_nlt (by omega) (by omega)), iF (nI_ge (by omega) (by omega))]
theorem e_misRow_f {N : Nat} {a : Int32} {w : Wd} (h : a.toInt < 0 ∨ (6 : Nat) ≤ a.toInt) : f_X5_isRow N a w = some (nI 0, w) := by
  unfold f_X5_isRow
  simp only [bs, l0, l1, l2, l3, l4, l5, l6, l7, l8, l9, l10, l12, l15, l30, l31, l32, l40, l42, l48, l57, l60, l64, l98, l99, l100, l109, l110, l112, l115, l265, l1000, l518400, ngd]
  rw [e_in_f (n := 6) (by omega) h (by decide)]
  simp only [bs, l0, l1, l2, l3, l4, l5, l6, l7, l8, l9, l10, l12, l15, l30, l31, l32, l40, l42, l48, l57, l60, l64, l98, l99, l100, l109, l110, l112, l115, l265, l1000, l518400, ngd]
  exact gd_t (by simp)
theorem e_misRow_t {N r : Nat} {w : Wd} (h : r < 6) : f_X5_isRow N (nI r) w = some (nI 1, w) := by
  unfold f_X5_isRow
  simp only [bs, l0, l1, l2, l3, l4, l5, l6, l7, l8, l9, l10, l12, l15, l30, l31, l32, l40, l42, l48, l57, l60, l64, l98, l99, l100, l109, l110, l112, l115, l265, l1000, l518400, ngd]
  rw [e_in_t (n := 6) (by omega) h (by decide)]
  simp only [bs, l0, l1, l2, l3, l4, l5, l6, l7, l8, l9, l10, l12, l15, l30, l31, l32, l40, l42, l48, l57, l60, l64, l98, l99, l100, l109, l110, l112, l115, l265, l1000, l518400, ngd]
  exact gd_t (by simp)
theorem e_isText_f {N : Nat} {a : Int32} {w : Wd} (h : a.toInt < 0 ∨ (4 : Nat) ≤ a.toInt) : f_X4_isText N a w = some (nI 0, w) := by
  unfold f_X4_isText
  simp only [bs, l0, l1, l2, l3, l4, l5, l6, l7, l8, l9, l10, l12, l15, l30, l31, l32, l40, l42, l48, l57, l60, l64, l98, l99, l100, l109, l110, l112, l115, l265, l1000, l518400, ngd]
  rcases h with h | h
  · rw [iT (neg0 h)]
  · rw [iF (fun q => by have := (clt (n := 0) (by omega)).mp q; omega), iT ((cge (by omega)).mpr h)]
theorem e_isText_t {N r : Nat} {w : Wd} (h : r < 4) : f_X4_isText N (nI r) w = some (nI 1, w) := by
  unfold f_X4_isText
  simp only [bs, l0, l1, l2, l3, l4, l5, l6, l7, l8, l9, l10, l12, l15, l30, l31, l32, l40, l42, l48, l57, l60, l64, l98, l99, l100, l109, l110, l112, l115, l265, l1000, l518400, ngd]
  rw [iF (nI_nlt (by omega) (by omega)), iF (nI_ge (by omega) (by omega))]
theorem e_misText_f {N : Nat} {a : Int32} {w : Wd} (h : a.toInt < 0 ∨ (4 : Nat) ≤ a.toInt) : f_X5_isText N a w = some (nI 0, w) := by
  unfold f_X5_isText
  simp only [bs, l0, l1, l2, l3, l4, l5, l6, l7, l8, l9, l10, l12, l15, l30, l31, l32, l40, l42, l48, l57, l60, l64, l98, l99, l100, l109, l110, l112, l115, l265, l1000, l518400, ngd]
  rw [e_in_f (n := 4) (by omega) h (by decide)]
  simp only [bs, l0, l1, l2, l3, l4, l5, l6, l7, l8, l9, l10, l12, l15, l30, l31, l32, l40, l42, l48, l57, l60, l64, l98, l99, l100, l109, l110, l112, l115, l265, l1000, l518400, ngd]
  exact gd_t (by simp)
theorem e_misText_t {N r : Nat} {w : Wd} (h : r < 4) : f_X5_isText N (nI r) w = some (nI 1, w) := by
  unfold f_X5_isText
  simp only [bs, l0, l1, l2, l3, l4, l5, l6, l7, l8, l9, l10, l12, l15, l30, l31, l32, l40, l42, l48, l57, l60, l64, l98, l99, l100, l109, l110, l112, l115, l265, l1000, l518400, ngd]
  rw [e_in_t (n := 4) (by omega) h (by decide)]
  simp only [bs, l0, l1, l2, l3, l4, l5, l6, l7, l8, l9, l10, l12, l15, l30, l31, l32, l40, l42, l48, l57, l60, l64, l98, l99, l100, l109, l110, l112, l115, l265, l1000, l518400, ngd]
  exact gd_t (by simp)
theorem e_isMate_f {N n : Nat} {a : Int32} {w : Wd} (hn : n ≤ 6) (hm : gI w 4 0 = nI n) (h : a.toInt < 0 ∨ (n : Int) ≤ a.toInt) : f_X4_isMate N a w = some (nI 0, w) := by
  unfold f_X4_isMate
  simp only [bs, l0, l1, l2, l3, l4, l5, l6, l7, l8, l9, l10, l12, l15, l30, l31, l32, l40, l42, l48, l57, l60, l64, l98, l99, l100, l109, l110, l112, l115, l265, l1000, l518400, ngd]
  rcases h with h | h
  · rw [iT (neg0 h)]
  · rw [iF (fun q => by have := (clt (n := 0) (by omega)).mp q; omega), hm, iT ((cge (by omega)).mpr h)]
theorem e_isMate_t {N n x : Nat} {w : Wd} (hn : n ≤ 6) (hm : gI w 4 0 = nI n) (h : x < n) : f_X4_isMate N (nI x) w = some (nI 1, w) := by
  unfold f_X4_isMate
  simp only [bs, l0, l1, l2, l3, l4, l5, l6, l7, l8, l9, l10, l12, l15, l30, l31, l32, l40, l42, l48, l57, l60, l64, l98, l99, l100, l109, l110, l112, l115, l265, l1000, l518400, ngd]
  rw [iF (nI_nlt (by omega) (by omega)), hm, iF (nI_ge (by omega) (by omega))]
theorem e_misMate_f {N n : Nat} {a : Int32} {w : Wd} (hn : n ≤ 6) (hm : gI w 510 0 = nI n) (h : a.toInt < 0 ∨ (n : Int) ≤ a.toInt) : f_X5_isMate N a w = some (nI 0, w) := by
  unfold f_X5_isMate
  simp only [bs, l0, l1, l2, l3, l4, l5, l6, l7, l8, l9, l10, l12, l15, l30, l31, l32, l40, l42, l48, l57, l60, l64, l98, l99, l100, l109, l110, l112, l115, l265, l1000, l518400, ngd]
  rw [hm, e_in_f (n := n) (by omega) h (nn1 (by omega))]
  simp only [bs, l0, l1, l2, l3, l4, l5, l6, l7, l8, l9, l10, l12, l15, l30, l31, l32, l40, l42, l48, l57, l60, l64, l98, l99, l100, l109, l110, l112, l115, l265, l1000, l518400, ngd]
  exact gd_t (by simp)
theorem e_misMate_t {N n x : Nat} {w : Wd} (hn : n ≤ 6) (hm : gI w 510 0 = nI n) (h : x < n) : f_X5_isMate N (nI x) w = some (nI 1, w) := by
  unfold f_X5_isMate
  simp only [bs, l0, l1, l2, l3, l4, l5, l6, l7, l8, l9, l10, l12, l15, l30, l31, l32, l40, l42, l48, l57, l60, l64, l98, l99, l100, l109, l110, l112, l115, l265, l1000, l518400, ngd]
  rw [hm, e_in_t (n := n) (by omega) h (nn1 (by omega))]
  simp only [bs, l0, l1, l2, l3, l4, l5, l6, l7, l8, l9, l10, l12, l15, l30, l31, l32, l40, l42, l48, l57, l60, l64, l98, l99, l100, l109, l110, l112, l115, l265, l1000, l518400, ngd]
  exact gd_t (by simp)
/-! the invariant -/
def szr (a b : Int32) (M : Nat) : Prop := (a = ng 1 ∧ b = ng 9) ∨ ∃ n, n ≤ M ∧ a = nI n ∧ b = nI n
def Iro (w : Wd) : Prop := ∀ r, r < 6 → szr (gA w 12 0 r) (gA w 31 0 r) 40 ∧ ∀ i, i < 40 → gA w 11 r i = gA w 32 0 (40 * r + i)
def Itx (w : Wd) : Prop := ∀ t, t < 4 → szr (gA w 15 0 t) (gA w 34 0 t) 60 ∧ ∀ i, i < 60 → gA w 14 t i = gA w 35 0 (60 * t + i)
def Itl (w : Wd) : Prop := gI w 412 0 = gI w 502 0 ∧ gL w 413 0 = gL w 503 0 ∧ gL w 414 0 = gL w 504 0 ∧ gI w 415 0 = gI w 500 0 ∧ ∀ f, f < 6 → gA w 25 0 f = gA w 30 0 f
def Iht (o : Of) (H : List Nat) (w : Wd) : Prop := H.length ≤ oN o ∧ (∀ y ∈ H, y < oN o) ∧ gI w 407 0 = nI H.length ∧ gI w 406 0 = nI (cd H) ∧ gI w 524 0 = nI H.length ∧ ∀ x, x < H.length → gA w 42 0 x = nI (dg H x)
def kpt (o : Of) (w : Wd) (k : Nat) (K : List Nat) (q : Nat) : Prop := K.length ≤ oN o ∧ (∀ y ∈ K, y < oN o) ∧ q ≤ 15 ∧ gA w 23 0 k = nI K.length ∧ gA w 22 0 k = nI (cd K) ∧ gA w 24 0 k = nI q ∧ gA w 44 0 (8 * k) = nI K.length ∧ gA w 44 0 (8 * k + 1) = nI q ∧ ∀ x, x < K.length → gA w 44 0 (8 * k + 2 + x) = nI (dg K x)
def Ikp (o : Of) (w : Wd) : Prop := ∀ k, k < 3 → (gA w 23 0 k = ng 1 ∧ gA w 44 0 (8 * k) = ng 9) ∨ ∃ K q, kpt o w k K q
def IW (o : Of) (H : List Nat) (w : Wd) : Prop := Wf o ∧ oC o ≤ 12 ∧ RO 0 o w ∧ RM o w ∧ Iro w ∧ Itx w ∧ Iht o H w ∧ Ikp o w ∧ Ist o w
def Inv (w : Wd) : Prop := ∃ o H, IW o H w ∧ Itl w
theorem Iro_ag {S : List Nat} {w w' : Wd} (h : Iro w) (g : ag S w w') (hs : ∀ k ∈ [12, 31, 32, 11, 1011, 2011, 3011, 4011, 5011], k ∉ S := by decide) : Iro w' := fun r hr => by
  obtain ⟨h1, h2⟩ := h r hr
  refine ⟨?_, fun i hi => ?_⟩
  · rw [g.2.2 12 0 (hs 12 (by decide)) (by decide), g.2.2 31 0 (hs 31 (by decide)) (by decide)]; exact h1
  · have hk : 11 + 1000 * r ∈ [12, 31, 32, 11, 1011, 2011, 3011, 4011, 5011] := by
      rcases (show r = 0 ∨ r = 1 ∨ r = 2 ∨ r = 3 ∨ r = 4 ∨ r = 5 by omega) with rfl | rfl | rfl | rfl | rfl | rfl <;> decide
    rw [g.2.2 11 r (hs _ hk) (by decide), g.2.2 32 0 (hs 32 (by decide)) (by decide)]; exact h2 i hi
theorem Itx_ag {S : List Nat} {w w' : Wd} (h : Itx w) (g : ag S w w') (hs : ∀ k ∈ [15, 34, 35, 14, 1014, 2014, 3014], k ∉ S := by decide) : Itx w' := fun r hr => by
  obtain ⟨h1, h2⟩ := h r hr
  refine ⟨?_, fun i hi => ?_⟩
  · rw [g.2.2 15 0 (hs 15 (by decide)) (by decide), g.2.2 34 0 (hs 34 (by decide)) (by decide)]; exact h1
  · have hk : 14 + 1000 * r ∈ [15, 34, 35, 14, 1014, 2014, 3014] := by
      rcases (show r = 0 ∨ r = 1 ∨ r = 2 ∨ r = 3 by omega) with rfl | rfl | rfl | rfl <;> decide
    rw [g.2.2 14 r (hs _ hk) (by decide), g.2.2 35 0 (hs 35 (by decide)) (by decide)]; exact h2 i hi
theorem Itl_ag {S : List Nat} {w w' : Wd} (h : Itl w) (g : ag S w w') (hs : ∀ k ∈ [412, 502, 413, 503, 414, 504, 415, 500, 25, 30], k ∉ S := by decide) : Itl w' := by
  obtain ⟨h1, h2, h3, h4, h5⟩ := h
  refine ⟨?_, ?_, ?_, ?_, fun f hf => ?_⟩
  · rw [g.1 412 0 (hs 412 (by decide)) (by decide), g.1 502 0 (hs 502 (by decide)) (by decide)]; exact h1
  · rw [g.2.1 413 0 (hs 413 (by decide)) (by decide), g.2.1 503 0 (hs 503 (by decide)) (by decide)]; exact h2
  · rw [g.2.1 414 0 (hs 414 (by decide)) (by decide), g.2.1 504 0 (hs 504 (by decide)) (by decide)]; exact h3
  · rw [g.1 415 0 (hs 415 (by decide)) (by decide), g.1 500 0 (hs 500 (by decide)) (by decide)]; exact h4
  · rw [g.2.2 25 0 (hs 25 (by decide)) (by decide), g.2.2 30 0 (hs 30 (by decide)) (by decide)]; exact h5 f hf
theorem Iht_ag {S : List Nat} {o : Of} {H : List Nat} {w w' : Wd} (h : Iht o H w) (g : ag S w w') (hs : ∀ k ∈ [407, 406, 524, 42], k ∉ S := by decide) : Iht o H w' := by
  obtain ⟨h1, h2, h3, h4, h5, h6⟩ := h
  refine ⟨h1, h2, ?_, ?_, ?_, fun x hx => ?_⟩
  · rw [g.1 407 0 (hs 407 (by decide)) (by decide)]; exact h3
  · rw [g.1 406 0 (hs 406 (by decide)) (by decide)]; exact h4
  · rw [g.1 524 0 (hs 524 (by decide)) (by decide)]; exact h5
  · rw [g.2.2 42 0 (hs 42 (by decide)) (by decide)]; exact h6 x hx
theorem Ikp_ag {S : List Nat} {o : Of} {w w' : Wd} (h : Ikp o w) (g : ag S w w') (hs : ∀ k ∈ [22, 23, 24, 44], k ∉ S := by decide) : Ikp o w' := fun k hk => by
  have e1 := g.2.2 22 0 (hs 22 (by decide)) (by decide)
  have e2 := g.2.2 23 0 (hs 23 (by decide)) (by decide)
  have e3 := g.2.2 24 0 (hs 24 (by decide)) (by decide)
  have e4 := g.2.2 44 0 (hs 44 (by decide)) (by decide)
  have := h k hk
  unfold kpt at *
  rw [e1, e2, e3, e4]
  exact this
theorem Ist_ag {S : List Nat} {o : Of} {w w' : Wd} (h : Ist o w) (g : ag S w w') (hs : ∀ k ∈ [411, 201, 20], k ∉ S := by decide) : Ist o w' := by
  unfold Ist at *
  rw [g.1 411 0 (hs 411 (by decide)) (by decide)]
  refine h.imp id (fun q => ⟨q.1, RTC_ag q.2 g (fun k hk => hs k ?_)⟩)
  simp only [List.mem_cons, List.not_mem_nil, or_false] at hk ⊢; omega
abbrev KW : List Nat := [4, 5, 6, 16, 17, 18, 19, 510, 518, 511, 36, 37, 38, 39, 12, 31, 32, 11, 1011, 2011, 3011, 4011, 5011, 15, 34, 35, 14, 1014, 2014, 3014, 407, 406, 524, 42, 22, 23, 24, 44]
theorem IW_ag0 {S : List Nat} {o : Of} {H : List Nat} {w w' : Wd} (h : IW o H w) (g : ag S w w') (hst : Ist o w') (hs : ∀ k ∈ KW, k ∉ S := by decide) : IW o H w' := by
  obtain ⟨h1, h2, h3, h4, h5, h6, h7, h8, h9⟩ := h
  have sub : ∀ T : List Nat, (∀ k ∈ T, k ∈ KW) → ∀ k ∈ T, k ∉ S := fun T hT k hk => hs k (hT k hk)
  exact ⟨h1, h2, RO_ag h3 g (fun k hk => sub [4, 5, 6, 16, 17, 18, 19] (by decide) _ (by simpa using hk)), RM_ag h4 g (sub _ (by decide)), Iro_ag h5 g (sub _ (by decide)), Itx_ag h6 g (sub _ (by decide)), Iht_ag h7 g (sub _ (by decide)), Ikp_ag h8 g (sub _ (by decide)), hst⟩
theorem IW_ag {S : List Nat} {o : Of} {H : List Nat} {w w' : Wd} (h : IW o H w) (g : ag S w w') (hs : ∀ k ∈ KW ++ [411, 201, 20], k ∉ S := by decide) : IW o H w' :=
  IW_ag0 h g (Ist_ag h.2.2.2.2.2.2.2.2 g (fun k hk => hs k (List.mem_append_right _ hk))) (fun k hk => hs k (List.mem_append_left _ hk))
/-- the class lists its right drawings -/
theorem IW_list {N : Nat} {o : Of} {H : List Nat} {w : Wd} (hN : 1000 ≤ N) (h : IW o H w) : ∃ w', f_X4_listRight N w = some w' ∧ ag SL w w' ∧ RTC 0 (rights o) w' ∧ IW o H w' := by
  obtain ⟨w', e, a1, a2, a3⟩ := e_listRight (N := N) hN h.1 h.2.2.1 h.2.2.2.2.2.2.2.2
  exact ⟨w', e, a1, a2, IW_ag0 h a1 (Or.inr ⟨a3, a2⟩)⟩
/-! refused, told -/
def cref (f : Nat) (w : Wd) : Wd := sA (sI w 415 0 (nI f)) 25 0 (upd (gA w 25 0) f (gA w 25 0 f + nI 1))
def mref (f : Nat) (w : Wd) : Wd := sA (sI w 500 0 (nI f)) 30 0 (upd (gA w 30 0) f (gA w 30 0 f + nI 1))
theorem e_refuse {N f : Nat} {w : Wd} (h : f < 6) : f_X4_refuse N (nI f) w = some (ng 3, cref f w) := by
  unfold f_X4_refuse cref
  simp only [bs, l0, l1, l2, l3, l4, l5, l6, l7, l8, l9, l10, l12, l15, l30, l31, l32, l40, l42, l48, l57, l60, l64, l98, l99, l100, l109, l110, l112, l115, l265, l1000, l518400, ngd]
  rw [gd_in h (by omega), gd_in h (by omega), nI_clamp (by omega)]
  rfl
theorem e_meet {N f : Nat} {w : Wd} (h : f < 6) : f_X5_meet N (nI f) w = some (ng 3, mref f w) := by
  unfold f_X5_meet mref
  simp only [bs, l0, l1, l2, l3, l4, l5, l6, l7, l8, l9, l10, l12, l15, l30, l31, l32, l40, l42, l48, l57, l60, l64, l98, l99, l100, l109, l110, l112, l115, l265, l1000, l518400, ngd]
  rw [gd_in h (by omega), gd_in h (by omega), nI_clamp (by omega)]
  rfl
theorem cref_ag (f : Nat) (w : Wd) : ag [415, 25] w (cref f w) := ((ag.rf _ w).sI (by decide)).sA (by decide)
theorem mref_ag (f : Nat) (w : Wd) : ag [500, 30] w (mref f w) := ((ag.rf _ w).sI (by decide)).sA (by decide)
theorem Itl_ref {S : List Nat} {f : Nat} {w w' : Wd} (h : Itl w) (g : ag S (cref f w) w') (hs : ∀ k ∈ [412, 502, 413, 503, 414, 504, 415, 500, 25, 30], k ∉ S := by decide) : Itl (mref f w') := by
  obtain ⟨h1, h2, h3, h4, h5⟩ := h
  have e := g.2.2 25 0 (hs 25 (by decide)) (by decide)
  have e2 := g.2.2 30 0 (hs 30 (by decide)) (by decide)
  refine ⟨?_, ?_, ?_, ?_, fun k hk => ?_⟩
  · show gI w' 412 0 = gI w' 502 0
    rw [g.1 412 0 (hs 412 (by decide)) (by decide), g.1 502 0 (hs 502 (by decide)) (by decide)]; exact h1
  · show gL w' 413 0 = gL w' 503 0
    rw [g.2.1 413 0 (hs 413 (by decide)) (by decide), g.2.1 503 0 (hs 503 (by decide)) (by decide)]; exact h2
  · show gL w' 414 0 = gL w' 504 0
    rw [g.2.1 414 0 (hs 414 (by decide)) (by decide), g.2.1 504 0 (hs 504 (by decide)) (by decide)]; exact h3
  · show gI w' 415 0 = nI f
    rw [g.1 415 0 (hs 415 (by decide)) (by decide)]; rfl
  · show gA w' 25 0 k = upd (gA w' 30 0) f (gA w' 30 0 f + nI 1) k
    rw [e, e2]
    show upd (gA w 25 0) f (gA w 25 0 f + nI 1) k = upd (gA w 30 0) f (gA w 30 0 f + nI 1) k
    by_cases q : k = f
    · subst q; rw [pk_us, pk_us, h5 k hk]
    · rw [pk_un q, pk_un q, h5 k hk]
theorem Inv_ref {S : List Nat} {f : Nat} {o : Of} {H : List Nat} {w w' : Wd} (h : IW o H w) (ht : Itl w) (g : ag S (cref f w) w') (hs : ∀ k ∈ KW ++ [411, 201, 20], k ∉ S := by decide) (hs2 : ∀ k ∈ [412, 502, 413, 503, 414, 504, 415, 500, 25, 30], k ∉ S := by decide) : Inv (mref f w') :=
  ⟨o, H, IW_ag (IW_ag (IW_ag h (cref_ag f w)) g hs) (mref_ag f w'), Itl_ref ht g hs2⟩
theorem Inv_ref0 {f : Nat} {o : Of} {H : List Nat} {w : Wd} (h : IW o H w) (ht : Itl w) : Inv (mref f (cref f w)) := Inv_ref h ht (ag.rf [] _)
theorem Itl_ask {S : List Nat} {v : Int32} {w w' : Wd} (h : Itl w) (g : ag S (sI w 412 0 v) w') (hs : ∀ k ∈ [412, 502, 413, 503, 414, 504, 415, 500, 25, 30], k ∉ S := by decide) : Itl (sI w' 502 0 v) := by
  obtain ⟨h1, h2, h3, h4, h5⟩ := h
  refine ⟨?_, ?_, ?_, ?_, fun k hk => ?_⟩
  · show gI w' 412 0 = v
    rw [g.1 412 0 (hs 412 (by decide)) (by decide)]; rfl
  · show gL w' 413 0 = gL w' 503 0
    rw [g.2.1 413 0 (hs 413 (by decide)) (by decide), g.2.1 503 0 (hs 503 (by decide)) (by decide)]; exact h2
  · show gL w' 414 0 = gL w' 504 0
    rw [g.2.1 414 0 (hs 414 (by decide)) (by decide), g.2.1 504 0 (hs 504 (by decide)) (by decide)]; exact h3
  · show gI w' 415 0 = gI w' 500 0
    rw [g.1 415 0 (hs 415 (by decide)) (by decide), g.1 500 0 (hs 500 (by decide)) (by decide)]; exact h4
  · show gA w' 25 0 k = gA w' 30 0 k
    rw [g.2.2 25 0 (hs 25 (by decide)) (by decide), g.2.2 30 0 (hs 30 (by decide)) (by decide)]; exact h5 k hk
theorem Inv_ask {S : List Nat} {v : Int32} {o : Of} {H : List Nat} {w w' : Wd} (h : IW o H w) (ht : Itl w) (g : ag S (sI w 412 0 v) w') (hs : ∀ k ∈ KW ++ [411, 201, 20], k ∉ S := by decide) (hs2 : ∀ k ∈ [412, 502, 413, 503, 414, 504, 415, 500, 25, 30], k ∉ S := by decide) : Inv (sI w' 502 0 v) :=
  ⟨o, H, IW_ag (IW_ag (IW_ag h ((ag.rf [412] w).sI (by decide))) g hs) ((ag.rf [502] w').sI (by decide)), Itl_ask ht g hs2⟩
theorem e_ask {N : Nat} {v r : Int32} {w : Wd} : f_X5_ask N v r w = some (r, sI w 502 0 v) := rfl
/-! rows there or not -/
theorem e_isMissing {N r : Nat} {w : Wd} (hr : r < 6) : f_X1_isMissing N (nI r) w = some (nI (bn (decide (gA w 12 0 r = ng 1))), w) := by
  unfold f_X1_isMissing
  simp only [bs, l0, l1, l2, l3, l4, l5, l6, l7, l8, l9, l10, l12, l15, l30, l31, l32, l40, l42, l48, l57, l60, l64, l98, l99, l100, l109, l110, l112, l115, l265, l1000, l518400, ngd]
  rw [gd_in hr (by omega), nI_clamp (by omega)]
  by_cases c : gA w 12 0 r = ng 1
  · rw [iT c]; simp [c, bn]
  · rw [iF c]; simp [c, bn]
theorem e_askedRow_f {N : Nat} {a : Int32} {w : Wd} (h : a.toInt < 0 ∨ (6 : Nat) ≤ a.toInt) : f_X5_askedRow N a w = some (ng 1, w) := by
  unfold f_X5_askedRow
  rw [e_misRow_f h]
  simp only [bs, l0, l1, l2, l3, l4, l5, l6, l7, l8, l9, l10, l12, l15, l30, l31, l32, l40, l42, l48, l57, l60, l64, l98, l99, l100, l109, l110, l112, l115, l265, l1000, l518400, ngd]
  rw [iT trivial]
theorem e_askedRow_m {N r : Nat} {w : Wd} (hr : r < 6) (h : gA w 31 0 r = ng 9) : f_X5_askedRow N (nI r) w = some (ng 3, mref 1 w) := by
  unfold f_X5_askedRow
  rw [e_misRow_t hr]
  simp only [bs, l0, l1, l2, l3, l4, l5, l6, l7, l8, l9, l10, l12, l15, l30, l31, l32, l40, l42, l48, l57, l60, l64, l98, l99, l100, l109, l110, l112, l115, l265, l1000, l518400, ngd]
  rw [iF (by decide), gd_in hr (by omega), nI_clamp (by omega), h, iF (by decide), e_meet (by omega)]
  rfl
theorem e_askedRow_t {N r n : Nat} {w : Wd} (hr : r < 6) (hn : n < 2 ^ 31) (h : gA w 31 0 r = nI n) : f_X5_askedRow N (nI r) w = some (nI 0, w) := by
  unfold f_X5_askedRow
  rw [e_misRow_t hr]
  simp only [bs, l0, l1, l2, l3, l4, l5, l6, l7, l8, l9, l10, l12, l15, l30, l31, l32, l40, l42, l48, l57, l60, l64, l98, l99, l100, l109, l110, l112, l115, l265, l1000, l518400, ngd]
  rw [iF (by decide), gd_in hr (by omega), nI_clamp (by omega), h, iT (nI_le (by omega) hn)]
theorem e_askedText_f {N : Nat} {a : Int32} {w : Wd} (h : a.toInt < 0 ∨ (4 : Nat) ≤ a.toInt) : f_X5_askedText N a w = some (ng 1, w) := by
  unfold f_X5_askedText
  rw [e_misText_f h]
  simp only [bs, l0, l1, l2, l3, l4, l5, l6, l7, l8, l9, l10, l12, l15, l30, l31, l32, l40, l42, l48, l57, l60, l64, l98, l99, l100, l109, l110, l112, l115, l265, l1000, l518400, ngd]
  rw [iT trivial]
theorem e_askedText_m {N r : Nat} {w : Wd} (hr : r < 4) (h : gA w 34 0 r = ng 9) : f_X5_askedText N (nI r) w = some (ng 3, mref 1 w) := by
  unfold f_X5_askedText
  rw [e_misText_t hr]
  simp only [bs, l0, l1, l2, l3, l4, l5, l6, l7, l8, l9, l10, l12, l15, l30, l31, l32, l40, l42, l48, l57, l60, l64, l98, l99, l100, l109, l110, l112, l115, l265, l1000, l518400, ngd]
  rw [iF (by decide), gd_in hr (by omega), nI_clamp (by omega), h, iF (by decide), e_meet (by omega)]
  rfl
theorem e_askedText_t {N r n : Nat} {w : Wd} (hr : r < 4) (hn : n < 2 ^ 31) (h : gA w 34 0 r = nI n) : f_X5_askedText N (nI r) w = some (nI 0, w) := by
  unfold f_X5_askedText
  rw [e_misText_t hr]
  simp only [bs, l0, l1, l2, l3, l4, l5, l6, l7, l8, l9, l10, l12, l15, l30, l31, l32, l40, l42, l48, l57, l60, l64, l98, l99, l100, l109, l110, l112, l115, l265, l1000, l518400, ngd]
  rw [iF (by decide), gd_in hr (by omega), nI_clamp (by omega), h, iT (nI_le (by omega) hn)]
theorem e_tisMissing {N r : Nat} {w : Wd} (hr : r < 4) : f_X3_isMissing N (nI r) w = some (nI (bn (decide (gA w 15 0 r = ng 1))), w) := by
  unfold f_X3_isMissing
  simp only [bs, l0, l1, l2, l3, l4, l5, l6, l7, l8, l9, l10, l12, l15, l30, l31, l32, l40, l42, l48, l57, l60, l64, l98, l99, l100, l109, l110, l112, l115, l265, l1000, l518400, ngd]
  rw [gd_in hr (by omega), nI_clamp (by omega)]
  by_cases c : gA w 15 0 r = ng 1
  · rw [iT c]; simp [c, bn]
  · rw [iF c]; simp [c, bn]
/-! plain answers -/
theorem ok_asked (N : Nat) : Ok_asked N Inv := fun w h => by
  refine ⟨_, w, w, rfl, ?_, h⟩
  obtain ⟨o, H, _, h1, _⟩ := h
  unfold f_X5_asked; rw [h1]
theorem ok_upper (N : Nat) : Ok_upper N Inv := fun w h => by
  refine ⟨_, w, w, rfl, ?_, h⟩
  obtain ⟨o, H, _, h1, h2, _⟩ := h
  unfold f_X5_upper; rw [h2]
theorem ok_lower (N : Nat) : Ok_lower N Inv := fun w h => by
  refine ⟨_, w, w, rfl, ?_, h⟩
  obtain ⟨o, H, _, h1, h2, h3, _⟩ := h
  unfold f_X5_lower; rw [h3]
theorem ok_finding (N : Nat) : Ok_finding N Inv := fun w h => by
  refine ⟨_, w, w, rfl, ?_, h⟩
  obtain ⟨o, H, _, h1, h2, h3, h4, _⟩ := h
  unfold f_X5_finding; rw [h4]
