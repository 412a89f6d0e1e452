theorem n10 : (nI 1 = nI 0) = False := eq_false (by decide)
theorem z1 : (nI 0 ≤ ng 1) = False := eq_false (by decide)
theorem z3 : (nI 0 ≤ ng 3) = False := eq_false (by decide)
theorem z0 : (nI 0 ≤ nI 0) = True := eq_true (by decide)
/-! rows: fill, row, lay, at, tear, mean, copy -/
theorem e_fill_L {N g i n : Nat} {v : Int32} (hn : n < 500) (ha : (arr g).2 = n) : ∀ (m k F : Nat) (w : Wd), k + m = n → m < F → (∀ j, j < k → gA w g i j = v) → ∃ w', J7_fill_53178_L1 N g i v (nI n) F (nI k) w = some w' ∧ ag [g + 1000 * i] w w' ∧ ∀ j, j < n → gA w' g i j = v := by
  intro m
  induction m with
  | zero =>
    intro k F w hk hF h0
    obtain ⟨F, rfl, _⟩ := fuel_s hF
    rw [J7_fill_53178_L1, iT (nI_le (by omega) (by omega))]
    exact ⟨w, rfl, ag.rf _ _, fun j hj => h0 j (by omega)⟩
  | succ m ih =>
    intro k F w hk hF h0
    obtain ⟨F, rfl, hF'⟩ := fuel_s hF
    rw [J7_fill_53178_L1, iF (nI_ge (by omega) (by omega)), ha, gd_in (by omega) (by omega), nI_clamp (by omega), nI_add1]
    obtain ⟨w', e, a1, a2⟩ := ih (k + 1) F (sA w g i (upd (gA w g i) k v)) (by omega) (by omega) (fun j hj => by
      rw [gA_sA, if_pos ⟨rfl, rfl⟩]
      by_cases q : j = k
      · rw [q, pk_us]
      · rw [pk_un q]; exact h0 j (by omega))
    exact ⟨w', e, ((ag.rf _ w).sA (by simp)).tr a1, a2⟩
theorem e_fill {N g i n : Nat} {v : Int32} {w : Wd} (hN : 1000 ≤ N) (hn : n < 500) (ha : (arr g).2 = n) : ∃ w', f_J7_fill_53178 N g i v w = some w' ∧ ag [g + 1000 * i] w w' ∧ ∀ j, j < n → gA w' g i j = v := by
  unfold f_J7_fill_53178
  obtain ⟨w', e, a1, a2⟩ := e_fill_L (N := N) (i := i) (v := v) hn ha n 0 N w (by omega) (by omega) (fun j hj => by omega)
  rw [ha, l0, show Int32.ofNat n = nI n from rfl, e]
  exact ⟨w', rfl, a1, a2⟩
theorem e_fillb_L {N g i n : Nat} {v : Int32} (hn : n < 500) (ha : (arr g).2 = n) : ∀ (m k F : Nat) (w : Wd), k + m = n → m < F → (∀ j, j < k → gA w g i j = vp_nar .byte v) → ∃ w', J7_fill_031fb_L1 N g i v (nI n) F (nI k) w = some w' ∧ ag [g + 1000 * i] w w' ∧ ∀ j, j < n → gA w' g i j = vp_nar .byte v := by
  intro m
  induction m with
  | zero =>
    intro k F w hk hF h0
    obtain ⟨F, rfl, _⟩ := fuel_s hF
    rw [J7_fill_031fb_L1, iT (nI_le (by omega) (by omega))]
    exact ⟨w, rfl, ag.rf _ _, fun j hj => h0 j (by omega)⟩
  | succ m ih =>
    intro k F w hk hF h0
    obtain ⟨F, rfl, hF'⟩ := fuel_s hF
    rw [J7_fill_031fb_L1, iF (nI_ge (by omega) (by omega)), ha, gd_in (by omega) (by omega), nI_clamp (by omega), nI_add1]
    obtain ⟨w', e, a1, a2⟩ := ih (k + 1) F (sA w g i (upd (gA w g i) k (vp_nar .byte v))) (by omega) (by omega) (fun j hj => by
      rw [gA_sA, if_pos ⟨rfl, rfl⟩]
      by_cases q : j = k
      · rw [q, pk_us]
      · rw [pk_un q]; exact h0 j (by omega))
    exact ⟨w', e, ((ag.rf _ w).sA (by simp)).tr a1, a2⟩
theorem e_fillb {N g i n : Nat} {v : Int32} {w : Wd} (hN : 1000 ≤ N) (hn : n < 500) (ha : (arr g).2 = n) : ∃ w', f_J7_fill_031fb N g i v w = some w' ∧ ag [g + 1000 * i] w w' ∧ ∀ j, j < n → gA w' g i j = vp_nar .byte v := by
  unfold f_J7_fill_031fb
  obtain ⟨w', e, a1, a2⟩ := e_fillb_L (N := N) (i := i) (v := v) hn ha n 0 N w (by omega) (by omega) (fun j hj => by omega)
  rw [ha, l0, show Int32.ofNat n = nI n from rfl, e]
  exact ⟨w', rfl, a1, a2⟩
/-- a row anew, class -/
theorem e_renew {N r n : Nat} {w : Wd} (hN : 1000 ≤ N) (hr : r < 6) : ∃ w', f_X1_renew N (nI r) (nI n) w = some w' ∧ ag [11 + 1000 * r, 12] w w' ∧ (∀ j, j < 40 → gA w' 11 r j = nI 0) ∧ gA w' 12 0 = upd (gA w 12 0) r (nI n) := by
  unfold f_X1_renew
  simp only [bs, l0, l1, l2, l3, l4, l5, l6, l7, l8, l9, l10, l12, l15, l30, l31, l32, l40, l42, l48, l57, l60, l64, l98, l99, l100, l109, l110, l112, l115, l265, l1000, l518400, ngd]
  obtain ⟨w', e, a1, a2⟩ := e_fill (N := N) (g := 11) (i := r) (n := 40) (v := nI 0) (w := w) hN (by omega) rfl
  rw [gd_in hr (by omega), nI_clamp (by omega), e]
  simp only [bs, l0, l1, l2, l3, l4, l5, l6, l7, l8, l9, l10, l12, l15, l30, l31, l32, l40, l42, l48, l57, l60, l64, l98, l99, l100, l109, l110, l112, l115, l265, l1000, l518400, ngd]
  rw [gd_in hr (by omega)]
  refine ⟨_, rfl, (a1.mono (by simp)).sA (by simp), fun j hj => ?_, ?_⟩
  · rw [gA_sA, if_neg (by simp)]; exact a2 j hj
  · rw [gA_sA, if_pos ⟨rfl, rfl⟩, a1.2.2 12 0 (by simp; omega) (by decide)]
theorem e_setRow {N r i : Nat} {v : Int32} {w : Wd} (hr : r < 6) (hi : i < 40) : f_X5_setRow N (nI r) (nI i) v w = some (sA w 32 0 (upd (gA w 32 0) (40 * r + i) v)) := by
  unfold f_X5_setRow
  simp only [bs, l0, l1, l2, l3, l4, l5, l6, l7, l8, l9, l10, l12, l15, l30, l31, l32, l40, l42, l48, l57, l60, l64, l98, l99, l100, l109, l110, l112, l115, l265, l1000, l518400, ngd]
  rw [pk_mul, nI_add, gd_in (by omega) (by omega), nI_clamp (by omega)]
theorem e_rowAt {N r i : Nat} {w : Wd} (hr : r < 6) (hi : i < 40) : f_X5_rowAt N (nI r) (nI i) w = some (gA w 32 0 (40 * r + i), w) := by
  unfold f_X5_rowAt
  simp only [bs, l0, l1, l2, l3, l4, l5, l6, l7, l8, l9, l10, l12, l15, l30, l31, l32, l40, l42, l48, l57, l60, l64, l98, l99, l100, l109, l110, l112, l115, l265, l1000, l518400, ngd]
  rw [pk_mul, nI_add, gd_in (by omega) (by omega), nI_clamp (by omega)]
theorem e_mrow_L {N r : Nat} {x2 : Int32} (hr : r < 6) : ∀ (m k F : Nat) (w : Wd), k + m = 40 → m < F → (∀ j, j < k → gA w 32 0 (40 * r + j) = nI 0) → ∃ w', X5_row_L1 N (nI r) x2 F (nI k) w = some w' ∧ ag [32] w w' ∧ (∀ j, j < 40 → gA w' 32 0 (40 * r + j) = nI 0) ∧ ∀ j, (j < 40 * r ∨ 40 * r + 40 ≤ j) → gA w' 32 0 j = gA w 32 0 j := by
  intro m
  induction m with
  | zero =>
    intro k F w hk hF h0
    obtain ⟨F, rfl, _⟩ := fuel_s hF
    rw [X5_row_L1, l40, iT (nI_le (by omega) (by omega))]
    exact ⟨w, rfl, ag.rf _ _, fun j hj => h0 j (by omega), fun _ _ => rfl⟩
  | succ m ih =>
    intro k F w hk hF h0
    obtain ⟨F, rfl, hF'⟩ := fuel_s hF
    rw [X5_row_L1]
    simp only [bs, l0, l1, l2, l3, l4, l5, l6, l7, l8, l9, l10, l12, l15, l30, l31, l32, l40, l42, l48, l57, l60, l64, l98, l99, l100, l109, l110, l112, l115, l265, l1000, l518400, ngd]
    rw [iF (nI_ge (by omega) (by omega)), e_setRow hr (by omega)]
    simp only [bs, l0, l1, l2, l3, l4, l5, l6, l7, l8, l9, l10, l12, l15, l30, l31, l32, l40, l42, l48, l57, l60, l64, l98, l99, l100, l109, l110, l112, l115, l265, l1000, l518400, ngd]
    rw [nI_add]
    obtain ⟨w', e, a1, a2, a3⟩ := ih (k + 1) F (sA w 32 0 (upd (gA w 32 0) (40 * r + k) (nI 0))) (by omega) (by omega) (fun j hj => by
      rw [gA_sA, if_pos ⟨rfl, rfl⟩]
      by_cases q : j = k
      · rw [q, pk_us]
      · rw [pk_un (by omega)]; exact h0 j (by omega))
    refine ⟨w', e, ((ag.rf _ w).sA (by simp)).tr a1, a2, fun j hj => ?_⟩
    rw [a3 j hj, gA_sA, if_pos ⟨rfl, rfl⟩, pk_un (by omega)]
theorem e_mrow {N r n : Nat} {w : Wd} (hN : 1000 ≤ N) (hr : r < 6) (hn : n ≤ 40) : ∃ w', f_X5_row N (nI r) (nI n) w = some (nI n, w') ∧ ag [31, 32] w w' ∧ (∀ j, j < 40 → gA w' 32 0 (40 * r + j) = nI 0) ∧ (∀ j, (j < 40 * r ∨ 40 * r + 40 ≤ j) → gA w' 32 0 j = gA w 32 0 j) ∧ gA w' 31 0 = upd (gA w 31 0) r (nI n) := by
  unfold f_X5_row
  rw [e_misRow_t hr]
  simp only [bs, l0, l1, l2, l3, l4, l5, l6, l7, l8, l9, l10, l12, l15, l30, l31, l32, l40, l42, l48, l57, l60, l64, l98, l99, l100, l109, l110, l112, l115, l265, l1000, l518400, ngd, if_true, if_false, bn0, reduceCtorEq, n10, z1, z3, z0]
  rw [iT (nI_le hn (by omega)), iT (nI_le (by omega) (by omega)), gd_in hr (by omega), nI_clamp (by omega)]
  obtain ⟨w', e, a1, a2, a3⟩ := e_mrow_L (N := N) (x2 := nI n) hr 40 0 N (sA w 31 0 (upd (gA w 31 0) r (nI n))) (by omega) (by omega) (fun j hj => by omega)
  rw [e]
  refine ⟨w', rfl, ((ag.rf _ w).sA (by simp)).tr (a1.mono (by simp)), a2, fun j hj => by rw [a3 j hj]; rfl, ?_⟩
  rw [agA a1 31 0]; rfl
/-- both rows anew -/
theorem Iro_renew {r n : Nat} {w w1 w2 : Wd} {S : List Nat} (h : Iro w) (hr : r < 6) (hn : n ≤ 40) (c1 : ag [11 + 1000 * r, 12] w w1) (c3 : gA w1 12 0 = upd (gA w 12 0) r (nI n)) (m1 : ag S w1 w2) (hs : ∀ k ∈ [12, 11, 1011, 2011, 3011, 4011, 5011], k ∉ S) (m2 : ∀ j, j < 40 → gA w1 11 r j = gA w2 32 0 (40 * r + j)) (m3 : ∀ j, (j < 40 * r ∨ 40 * r + 40 ≤ j) → gA w2 32 0 j = gA w 32 0 j) (m4 : gA w2 31 0 = upd (gA w 31 0) r (nI n)) : Iro w2 := fun q hq => by
  have hk : 11 + 1000 * q ∈ [12, 11, 1011, 2011, 3011, 4011, 5011] := by
    rcases (show q = 0 ∨ q = 1 ∨ q = 2 ∨ q = 3 ∨ q = 4 ∨ q = 5 by omega) with rfl | rfl | rfl | rfl | rfl | rfl <;> decide
  obtain ⟨h1, h2⟩ := h q hq
  rw [m1.2.2 12 0 (hs 12 (by decide)) (by decide), c3, m4, m1.2.2 11 q (hs _ hk) (by decide)]
  by_cases e : q = r
  · subst e
    rw [pk_us, pk_us]
    exact ⟨Or.inr ⟨n, hn, rfl, rfl⟩, m2⟩
  · rw [pk_un e, pk_un e, c1.2.2 11 q (by simp; omega) (by decide)]
    exact ⟨h1, fun i hi => by rw [m3 _ (by omega)]; exact h2 i hi⟩
theorem ok_row {N : Nat} (hN : 1000 ≤ N) : Ok_row N Inv := fun a1 a2 w hI => by
  obtain ⟨o, H, hW, hT⟩ := hI
  rcases cix a1 (n := 6) (by omega) with h | ⟨r, hr, rfl⟩
  · refine ⟨ng 1, w, w, ?_, ?_, o, H, hW, hT⟩
    · unfold f_X4_row; rw [e_isRow_f h]; simp only [bs, l0, l1, l2, l3, l4, l5, l6, l7, l8, l9, l10, l12, l15, l30, l31, l32, l40, l42, l48, l57, l60, l64, l98, l99, l100, l109, l110, l112, l115, l265, l1000, l518400, ngd, if_true, if_false, bn0, reduceCtorEq, n10, z1, z3, z0]
    · unfold f_X5_row; rw [e_misRow_f h]; simp only [bs, l0, l1, l2, l3, l4, l5, l6, l7, l8, l9, l10, l12, l15, l30, l31, l32, l40, l42, l48, l57, l60, l64, l98, l99, l100, l109, l110, l112, l115, l265, l1000, l518400, ngd, if_true, if_false, bn0, reduceCtorEq, n10, z1, z3, z0]
  · rcases cix a2 (n := 41) (by omega) with (h | h) | ⟨n, hn, rfl⟩
    · refine ⟨ng 3, cref 5 w, mref 5 (cref 5 w), ?_, ?_, Inv_ref0 hW hT⟩
      · unfold f_X4_row; rw [e_isRow_t hr]; simp only [bs, l0, l1, l2, l3, l4, l5, l6, l7, l8, l9, l10, l12, l15, l30, l31, l32, l40, l42, l48, l57, l60, l64, l98, l99, l100, l109, l110, l112, l115, l265, l1000, l518400, ngd, if_true, if_false, bn0, reduceCtorEq, n10, z1, z3, z0]; simp (disch := omega) only [cle, cge, clt, cgt, iT, iF]; rw [e_refuse (by omega)]; simp only [bs, l0, l1, l2, l3, l4, l5, l6, l7, l8, l9, l10, l12, l15, l30, l31, l32, l40, l42, l48, l57, l60, l64, l98, l99, l100, l109, l110, l112, l115, l265, l1000, l518400, ngd, if_true, if_false, bn0, reduceCtorEq, n10, z1, z3, z0]
      · unfold f_X5_row; rw [e_misRow_t hr]; simp only [bs, l0, l1, l2, l3, l4, l5, l6, l7, l8, l9, l10, l12, l15, l30, l31, l32, l40, l42, l48, l57, l60, l64, l98, l99, l100, l109, l110, l112, l115, l265, l1000, l518400, ngd, if_true, if_false, bn0, reduceCtorEq, n10, z1, z3, z0]; simp (disch := omega) only [cle, cge, clt, cgt, iT, iF]; rw [e_meet (by omega)]; simp only [bs, l0, l1, l2, l3, l4, l5, l6, l7, l8, l9, l10, l12, l15, l30, l31, l32, l40, l42, l48, l57, l60, l64, l98, l99, l100, l109, l110, l112, l115, l265, l1000, l518400, ngd, if_true, if_false, bn0, reduceCtorEq, n10, z1, z3, z0]
    · refine ⟨ng 1, w, w, ?_, ?_, o, H, hW, hT⟩
      · unfold f_X4_row; rw [e_isRow_t hr]; simp only [bs, l0, l1, l2, l3, l4, l5, l6, l7, l8, l9, l10, l12, l15, l30, l31, l32, l40, l42, l48, l57, l60, l64, l98, l99, l100, l109, l110, l112, l115, l265, l1000, l518400, ngd, if_true, if_false, bn0, reduceCtorEq, n10, z1, z3, z0]; simp (disch := omega) only [cle, cge, clt, cgt, iT, iF]
      · unfold f_X5_row; rw [e_misRow_t hr]; simp only [bs, l0, l1, l2, l3, l4, l5, l6, l7, l8, l9, l10, l12, l15, l30, l31, l32, l40, l42, l48, l57, l60, l64, l98, l99, l100, l109, l110, l112, l115, l265, l1000, l518400, ngd, if_true, if_false, bn0, reduceCtorEq, n10, z1, z3, z0]; simp (disch := omega) only [cle, cge, clt, cgt, iT, iF]
    · obtain ⟨w1, e1, a1, a2, a3⟩ := e_renew (N := N) (n := n) (w := w) hN hr
      obtain ⟨w2, e2, b1, b2, b3, b4⟩ := e_mrow (N := N) (w := w1) hN hr (show n ≤ 40 by omega)
      refine ⟨nI n, w1, w2, ?_, e2, o, H, ?_, ?_⟩
      · unfold f_X4_row; rw [e_isRow_t hr]; simp only [bs, l0, l1, l2, l3, l4, l5, l6, l7, l8, l9, l10, l12, l15, l30, l31, l32, l40, l42, l48, l57, l60, l64, l98, l99, l100, l109, l110, l112, l115, l265, l1000, l518400, ngd, if_true, if_false, bn0, reduceCtorEq, n10, z1, z3, z0]; simp (disch := omega) only [nI_leI, nI_ltI, nI_eq, iT, iF]; rw [e1]; simp only [bs, l0, l1, l2, l3, l4, l5, l6, l7, l8, l9, l10, l12, l15, l30, l31, l32, l40, l42, l48, l57, l60, l64, l98, l99, l100, l109, l110, l112, l115, l265, l1000, l518400, ngd, if_true, if_false, bn0, reduceCtorEq, n10, z1, z3, z0]
      · have hro : Iro w2 := Iro_renew hW.2.2.2.2.1 hr (by omega) a1 a3 b1 (by decide) (fun j hj => by rw [a2 j hj, b2 j hj]) (fun j hj => by rw [b3 j hj, a1.2.2 32 0 (by simp; omega) (by decide)]) (by rw [b4, a1.2.2 31 0 (by simp; omega) (by decide)])
        have g : ag [11, 1011, 2011, 3011, 4011, 5011, 12, 31, 32] w w2 := (a1.mono (fun k hk => by
          simp only [List.mem_cons, List.not_mem_nil, or_false] at hk ⊢; omega)).tr (b1.mono (by decide))
        obtain ⟨h1, h2, h3, h4, h5, h6, h7, h8, h9⟩ := hW
        exact ⟨h1, h2, RO_ag h3 g, RM_ag h4 g, hro, Itx_ag h6 g, Iht_ag h7 g, Ikp_ag h8 g, Ist_ag h9 g⟩
      · refine Itl_ag (Itl_ag hT a1 (fun k hk => ?_)) b1
        simp only [List.mem_cons, List.not_mem_nil, or_false] at hk ⊢; omega
