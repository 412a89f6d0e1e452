/-! keep, on -/
theorem e_isKept_f {N : Nat} {a : Int32} {w : Wd} (h : a.toInt < 0 ∨ (3 : Nat) ≤ a.toInt) : f_X4_isKeptPlace N a w = some (nI 0, w) := by
  unfold f_X4_isKeptPlace
  simp only [bs, l0, l1, l2, l3, l4, l5, l6, l7, l8, l9, l10, l12, l15, l30, l31, l32, l40, l42, l48, l57, l60, l64, l98, l99, l100, l109, l110, l112, l115, l265, l1000, l518400, ngd]
  rcases h with h | h
  · rw [iT (neg0 h)]
  · rw [iF (fun q => by have := (clt (n := 0) (by omega)).mp q; omega), iT ((cge (by omega)).mpr h)]
theorem e_isKept_t {N r : Nat} {w : Wd} (h : r < 3) : f_X4_isKeptPlace N (nI r) w = some (nI 1, w) := by
  unfold f_X4_isKeptPlace
  simp only [bs, l0, l1, l2, l3, l4, l5, l6, l7, l8, l9, l10, l12, l15, l30, l31, l32, l40, l42, l48, l57, l60, l64, l98, l99, l100, l109, l110, l112, l115, l265, l1000, l518400, ngd]
  rw [iF (nI_nlt (by omega) (by omega)), iF (nI_ge (by omega) (by omega))]
theorem e_keep_L {N k : Nat} (hk : k < 3) : ∀ (m x F : Nat) (w : Wd), x + m = 6 → m < F → ∃ w', X5_keep_L1 N (nI k) F (nI x) w = some w' ∧ ag [44] w w' ∧ (∀ z, x ≤ z → z < 6 → gA w' 44 0 (8 * k + 2 + z) = gA w 42 0 z) ∧ ∀ j, (j < 8 * k + 2 + x ∨ 8 * k + 8 ≤ j) → gA w' 44 0 j = gA w 44 0 j := by
  intro m
  induction m with
  | zero =>
    intro x F w hx hF
    obtain ⟨F, rfl, _⟩ := fuel_s hF
    rw [X5_keep_L1, l6, iT (nI_le (by omega) (by omega))]
    exact ⟨w, rfl, ag.rf _ _, fun z h1 h2 => by omega, fun _ _ => rfl⟩
  | succ m ih =>
    intro x F w hx hF
    obtain ⟨F, rfl, hF'⟩ := fuel_s hF
    rw [X5_keep_L1]
    simp only [bs, l0, l1, l2, l3, l4, l5, l6, l7, l8, l9, l10, l12, l15, l30, l31, l32, l40, l42, l48, l57, l60, l64, l98, l99, l100, l109, l110, l112, l115, l265, l1000, l518400, ngd]
    rw [iF (nI_ge (by omega) (by omega)), gd_in (by omega) (by omega), pk_mul, nI_add, nI_add, gd_in (by omega) (by omega), nI_clamp (by omega), nI_clamp (by omega), nI_add]
    obtain ⟨w', e, a1, a2, a3⟩ := ih (x + 1) F (sA w 44 0 (upd (gA w 44 0) (8 * k + 2 + x) (gA w 42 0 x))) (by omega) (by omega)
    refine ⟨w', e, ((ag.rf _ w).sA (by simp)).tr a1, fun z h1 h2 => ?_, fun j hj => ?_⟩
    · rcases Nat.eq_or_lt_of_le h1 with c | c
      · subst c
        rw [a3 _ (by omega), gA_sA, if_pos ⟨rfl, rfl⟩, pk_us]
      · rw [a2 z (by omega) h2, gA_sA, if_neg (by decide)]
    · rw [a3 j (by omega), gA_sA, if_pos ⟨rfl, rfl⟩, pk_un (by omega)]
theorem e_on_L {N k : Nat} (hk : k < 3) : ∀ (m x F : Nat) (w : Wd), x + m = 6 → m < F → (∀ z, z < x → gA w 42 0 z = gA w 44 0 (8 * k + 2 + z)) → ∃ w', X5_on_L1 N (nI k) F (nI x) w = some w' ∧ ag [42] w w' ∧ ∀ z, z < 6 → gA w' 42 0 z = gA w 44 0 (8 * k + 2 + z) := by
  intro m
  induction m with
  | zero =>
    intro x F w hx hF h0
    obtain ⟨F, rfl, _⟩ := fuel_s hF
    rw [X5_on_L1, l6, iT (nI_le (by omega) (by omega))]
    exact ⟨w, rfl, ag.rf _ _, fun z hz => h0 z (by omega)⟩
  | succ m ih =>
    intro x F w hx hF h0
    obtain ⟨F, rfl, hF'⟩ := fuel_s hF
    rw [X5_on_L1]
    simp only [bs, l0, l1, l2, l3, l4, l5, l6, l7, l8, l9, l10, l12, l15, l30, l31, l32, l40, l42, l48, l57, l60, l64, l98, l99, l100, l109, l110, l112, l115, l265, l1000, l518400, ngd]
    rw [iF (nI_ge (by omega) (by omega)), pk_mul, nI_add, nI_add, gd_in (by omega) (by omega), gd_in (by omega) (by omega), nI_clamp (by omega), nI_clamp (by omega), nI_add]
    obtain ⟨w', e, a1, a2⟩ := ih (x + 1) F (sA w 42 0 (upd (gA w 42 0) x (gA w 44 0 (8 * k + 2 + x)))) (by omega) (by omega) (fun z hz => by
      rw [gA_sA, if_pos ⟨rfl, rfl⟩, gA_sA, if_neg (by decide)]
      by_cases q : z = x
      · rw [q, pk_us]
      · rw [pk_un q]; exact h0 z (by omega))
    refine ⟨w', e, ((ag.rf _ w).sA (by simp)).tr a1, fun z hz => ?_⟩
    rw [a2 z hz, gA_sA, if_neg (by decide)]
theorem ok_keep {N : Nat} (hN : 1000 ≤ N) : Ok_keep N Inv := fun a1 w hI => by
  obtain ⟨o, H, hW, hT⟩ := hI
  obtain ⟨h1, h2, h3, h4, h5, h6, h7, h8, h9⟩ := id hW
  have hn := h1.1
  obtain ⟨t1, t2, t3, t4, t5, t6⟩ := id h7
  rcases cix a1 (n := 3) (by omega) with h | ⟨k, hk, rfl⟩
  · refine ⟨ng 1, w, w, ?_, ?_, o, H, hW, hT⟩
    · unfold f_X4_keep; rw [e_isKept_f h]; simp only [bs, l0, l1, l2, l3, l4, l5, l6, l7, l8, l9, l10, l12, l15, l30, l31, l32, l40, l42, l48, l57, l60, l64, l98, l99, l100, l109, l110, l112, l115, l265, l1000, l518400, ngd, if_true, if_false, bn0, reduceCtorEq, n10, z1, z3, z0]
    · unfold f_X5_keep; simp only [bs, l0, l1, l2, l3, l4, l5, l6, l7, l8, l9, l10, l12, l15, l30, l31, l32, l40, l42, l48, l57, l60, l64, l98, l99, l100, l109, l110, l112, l115, l265, l1000, l518400, ngd, if_true, if_false, bn0, reduceCtorEq, n10, z1, z3, z0]; rw [e_in_f (n := 3) (by omega) h (by decide)]; simp only [bs, l0, l1, l2, l3, l4, l5, l6, l7, l8, l9, l10, l12, l15, l30, l31, l32, l40, l42, l48, l57, l60, l64, l98, l99, l100, l109, l110, l112, l115, l265, l1000, l518400, ngd, if_true, if_false, bn0, reduceCtorEq, n10, z1, z3, z0]
  by_cases c : oN o = 0
  · refine ⟨ng 4, w, w, ?_, ?_, o, H, hW, hT⟩
    · unfold f_X4_keep; rw [e_isKept_t hk]; simp only [bs, l0, l1, l2, l3, l4, l5, l6, l7, l8, l9, l10, l12, l15, l30, l31, l32, l40, l42, l48, l57, l60, l64, l98, l99, l100, l109, l110, l112, l115, l265, l1000, l518400, ngd, if_true, if_false, bn0, reduceCtorEq, n10, z1, z3, z0]; rw [h3.1, iT (by rw [c])]
    · unfold f_X5_keep; simp only [bs, l0, l1, l2, l3, l4, l5, l6, l7, l8, l9, l10, l12, l15, l30, l31, l32, l40, l42, l48, l57, l60, l64, l98, l99, l100, l109, l110, l112, l115, l265, l1000, l518400, ngd, if_true, if_false, bn0, reduceCtorEq, n10, z1, z3, z0]; rw [e_in_t (n := 3) (by omega) hk (by decide)]; simp only [bs, l0, l1, l2, l3, l4, l5, l6, l7, l8, l9, l10, l12, l15, l30, l31, l32, l40, l42, l48, l57, l60, l64, l98, l99, l100, l109, l110, l112, l115, l265, l1000, l518400, ngd, if_true, if_false, bn0, reduceCtorEq, n10, z1, z3, z0]; rw [h4.1, iT (by rw [c])]
  have c' : ¬ nI (oN o) = nI 0 := fun q => c ((nI_eq (by omega) (by omega)).mp q)
  obtain ⟨w1, hw1⟩ : ∃ w1, w1 = sA (sA (sA w 22 0 (upd (gA w 22 0) k (nI (cd H)))) 23 0 (upd (gA w 23 0) k (nI H.length))) 24 0 (upd (gA w 24 0) k (nI (oR o))) := ⟨_, rfl⟩
  have g1 : ag [22, 23, 24] w w1 := by rw [hw1]; exact (((ag.rf _ w).sA (by simp)).sA (by simp)).sA (by simp)
  obtain ⟨wx, hwx⟩ : ∃ wx, wx = sA (sA w1 44 0 (upd (gA w1 44 0) (8 * k) (nI H.length))) 44 0 (upd (upd (gA w1 44 0) (8 * k) (nI H.length)) (8 * k + 1) (nI (oR o))) := ⟨_, rfl⟩
  have gx : ag [44] w1 wx := by rw [hwx]; exact ((ag.rf _ w1).sA (by simp)).sA (by simp)
  obtain ⟨w2, e2, b1, b2, b3⟩ := e_keep_L (N := N) hk 6 0 N wx (by omega) (by omega)
  have g : ag [22, 23, 24, 44] w w2 := ((g1.mono (by decide)).tr (gx.mono (by decide))).tr (b1.mono (by decide))
  have t5x : gI w1 524 0 = nI H.length := by rw [agI g1 524 0]; exact t5
  refine ⟨nI H.length, w1, w2, ?_, ?_, o, H, ?_, Itl_ag hT g⟩
  · have e406 : gI w 406 0 = nI (cd H) := t4
    unfold f_X4_keep; rw [e_isKept_t hk]; simp only [bs, l0, l1, l2, l3, l4, l5, l6, l7, l8, l9, l10, l12, l15, l30, l31, l32, l40, l42, l48, l57, l60, l64, l98, l99, l100, l109, l110, l112, l115, l265, l1000, l518400, ngd, if_true, if_false, bn0, reduceCtorEq, n10, z1, z3, z0]; rw [h3.1, iF c', gd_in hk (by omega), gd_in hk (by omega), gd_in hk (by omega), nI_clamp (by omega)]
    simp only [gI_sA, t3, t4, h3.2.2.1]
    rw [hw1, gA_sA, iF (by decide), gA_sA, iF (by decide), gA_sA, iF (by decide)]
  · unfold f_X5_keep; simp only [bs, l0, l1, l2, l3, l4, l5, l6, l7, l8, l9, l10, l12, l15, l30, l31, l32, l40, l42, l48, l57, l60, l64, l98, l99, l100, l109, l110, l112, l115, l265, l1000, l518400, ngd, if_true, if_false, bn0, reduceCtorEq, n10, z1, z3, z0]; rw [e_in_t (n := 3) (by omega) hk (by decide)]; simp only [bs, l0, l1, l2, l3, l4, l5, l6, l7, l8, l9, l10, l12, l15, l30, l31, l32, l40, l42, l48, l57, l60, l64, l98, l99, l100, l109, l110, l112, l115, l265, l1000, l518400, ngd, if_true, if_false, bn0, reduceCtorEq, n10, z1, z3, z0]; rw [(RM_ag h4 g1).1, iF c', pk_mul, nI_add, gd_in (by omega) (by omega), gd_in (by omega) (by omega), nI_clamp (by omega), nI_clamp (by omega)]
    rw [t5x, show gI (sA w1 44 0 (upd (gA w1 44 0) (8 * k) (nI H.length))) 511 0 = nI (oR o) from (RM_ag h4 g1).2.2.1, show gA (sA w1 44 0 (upd (gA w1 44 0) (8 * k) (nI H.length))) 44 0 = upd (gA w1 44 0) (8 * k) (nI H.length) from by rw [gA_sA, if_pos ⟨rfl, rfl⟩], ← hwx, e2]
    simp only [bs, l0, l1, l2, l3, l4, l5, l6, l7, l8, l9, l10, l12, l15, l30, l31, l32, l40, l42, l48, l57, l60, l64, l98, l99, l100, l109, l110, l112, l115, l265, l1000, l518400, ngd, if_true, if_false, bn0, reduceCtorEq, n10, z1, z3, z0]
    rw [agI b1 524 0, agI gx 524 0, t5x]
  · refine ⟨h1, h2, RO_ag h3 g, RM_ag h4 g, Iro_ag h5 g, Itx_ag h6 g, Iht_ag h7 g, fun j hj => ?_, Ist_ag h9 g⟩
    have e22 : gA w2 22 0 = upd (gA w 22 0) k (nI (cd H)) := by
      rw [agA b1 22 0, agA gx 22 0, hw1, gA_sA, if_neg (by simp), gA_sA, if_neg (by simp), gA_sA, if_pos ⟨rfl, rfl⟩]
    have e23 : gA w2 23 0 = upd (gA w 23 0) k (nI H.length) := by
      rw [agA b1 23 0, agA gx 23 0, hw1, gA_sA, if_neg (by simp), gA_sA, if_pos ⟨rfl, rfl⟩]
    have e24 : gA w2 24 0 = upd (gA w 24 0) k (nI (oR o)) := by
      rw [agA b1 24 0, agA gx 24 0, hw1, gA_sA, if_pos ⟨rfl, rfl⟩]
    have ex : ∀ z, gA wx 44 0 z = upd (upd (gA w 44 0) (8 * k) (nI H.length)) (8 * k + 1) (nI (oR o)) z := fun z => by
      rw [hwx, gA_sA, if_pos ⟨rfl, rfl⟩, agA g1 44 0]
    unfold kpt
    rw [e22, e23, e24]
    by_cases q : j = k
    · subst q
      refine Or.inr ⟨H, oR o, t1, t2, h1.2.1, pk_us, pk_us, pk_us, ?_, ?_, fun x hx => ?_⟩
      · rw [b3 _ (by omega), ex, pk_un (by omega), pk_us]
      · rw [b3 _ (by omega), ex, pk_us]
      · rw [b2 x (by omega) (by omega), agA gx 42 0, agA g1 42 0]; exact t6 x hx
    · rw [pk_un q, pk_un q, pk_un q]
      have oth : ∀ z, z < 8 → gA w2 44 0 (8 * j + z) = gA w 44 0 (8 * j + z) := fun z hz => by
        rw [b3 _ (by omega), ex, pk_un (by omega), pk_un (by omega)]
      rcases h8 j hj with ⟨k1, k2⟩ | ⟨K, v, k1, k2, k3, k4, k5, k6, k7, k8, k9⟩
      · exact Or.inl ⟨k1, by rw [show 8 * j = 8 * j + 0 from rfl, oth 0 (by omega)]; exact k2⟩
      · refine Or.inr ⟨K, v, k1, k2, k3, k4, k5, k6, by rw [show 8 * j = 8 * j + 0 from rfl, oth 0 (by omega)]; exact k7, by rw [oth 1 (by omega)]; exact k8, fun x hx => ?_⟩
        rw [Nat.add_assoc, oth (2 + x) (by omega), ← Nat.add_assoc]; exact k9 x hx
theorem ok_on {N : Nat} (hN : 1000 ≤ N) : Ok_on N Inv := fun a1 w hI => by
  obtain ⟨o, H, hW, hT⟩ := hI
  obtain ⟨h1, h2, h3, h4, h5, h6, h7, h8, h9⟩ := id hW
  have hn := h1.1
  rcases cix a1 (n := 3) (by omega) with h | ⟨k, hk, rfl⟩
  · refine ⟨ng 1, w, w, ?_, ?_, o, H, hW, hT⟩
    · unfold f_X4_on; rw [e_isKept_f h]; simp only [bs, l0, l1, l2, l3, l4, l5, l6, l7, l8, l9, l10, l12, l15, l30, l31, l32, l40, l42, l48, l57, l60, l64, l98, l99, l100, l109, l110, l112, l115, l265, l1000, l518400, ngd, if_true, if_false, bn0, reduceCtorEq, n10, z1, z3, z0]
    · unfold f_X5_on; simp only [bs, l0, l1, l2, l3, l4, l5, l6, l7, l8, l9, l10, l12, l15, l30, l31, l32, l40, l42, l48, l57, l60, l64, l98, l99, l100, l109, l110, l112, l115, l265, l1000, l518400, ngd, if_true, if_false, bn0, reduceCtorEq, n10, z1, z3, z0]; rw [e_in_f (n := 3) (by omega) h (by decide)]; simp only [bs, l0, l1, l2, l3, l4, l5, l6, l7, l8, l9, l10, l12, l15, l30, l31, l32, l40, l42, l48, l57, l60, l64, l98, l99, l100, l109, l110, l112, l115, l265, l1000, l518400, ngd, if_true, if_false, bn0, reduceCtorEq, n10, z1, z3, z0]
  rcases h8 k hk with ⟨k1, k2⟩ | ⟨K, v, k1, k2, k3, k4, k5, k6, k7, k8, k9⟩
  · refine ⟨ng 3, cref 1 w, mref 1 (cref 1 w), ?_, ?_, Inv_ref0 hW hT⟩
    · unfold f_X4_on; rw [e_isKept_t hk]; simp only [bs, l0, l1, l2, l3, l4, l5, l6, l7, l8, l9, l10, l12, l15, l30, l31, l32, l40, l42, l48, l57, l60, l64, l98, l99, l100, l109, l110, l112, l115, l265, l1000, l518400, ngd, if_true, if_false, bn0, reduceCtorEq, n10, z1, z3, z0]; rw [gd_in hk (by omega), nI_clamp (by omega), k1, iT rfl, e_refuse (by omega)]; simp only [bs, l0, l1, l2, l3, l4, l5, l6, l7, l8, l9, l10, l12, l15, l30, l31, l32, l40, l42, l48, l57, l60, l64, l98, l99, l100, l109, l110, l112, l115, l265, l1000, l518400, ngd, if_true, if_false, bn0, reduceCtorEq, n10, z1, z3, z0]
    · unfold f_X5_on; simp only [bs, l0, l1, l2, l3, l4, l5, l6, l7, l8, l9, l10, l12, l15, l30, l31, l32, l40, l42, l48, l57, l60, l64, l98, l99, l100, l109, l110, l112, l115, l265, l1000, l518400, ngd, if_true, if_false, bn0, reduceCtorEq, n10, z1, z3, z0]; rw [e_in_t (n := 3) (by omega) hk (by decide)]; simp only [bs, l0, l1, l2, l3, l4, l5, l6, l7, l8, l9, l10, l12, l15, l30, l31, l32, l40, l42, l48, l57, l60, l64, l98, l99, l100, l109, l110, l112, l115, l265, l1000, l518400, ngd, if_true, if_false, bn0, reduceCtorEq, n10, z1, z3, z0]; rw [pk_mul, gd_in (by omega) (by omega), nI_clamp (by omega), agA (cref_ag 1 w) 44 0, k2, iT rfl, e_meet (by omega)]; simp only [bs, l0, l1, l2, l3, l4, l5, l6, l7, l8, l9, l10, l12, l15, l30, l31, l32, l40, l42, l48, l57, l60, l64, l98, l99, l100, l109, l110, l112, l115, l265, l1000, l518400, ngd, if_true, if_false, bn0, reduceCtorEq, n10, z1, z3, z0]
  obtain ⟨w1, hw1⟩ : ∃ w1, w1 = sI (sI (sI (sI w 406 0 (nI (cd K))) 407 0 (nI K.length)) 6 0 (nI v)) 411 0 (nI 1) := ⟨_, rfl⟩
  have g1 : ag [406, 407, 6, 411] w w1 := by rw [hw1]; exact ((((ag.rf _ w).sI (by simp)).sI (by simp)).sI (by simp)).sI (by simp)
  have e44 : gA w1 44 0 = gA w 44 0 := agA g1 44 0
  obtain ⟨wx, hwx⟩ : ∃ wx, wx = sI (sI w1 524 0 (nI K.length)) 511 0 (nI v) := ⟨_, rfl⟩
  have gx : ag [524, 511] w1 wx := by rw [hwx]; exact ((ag.rf _ w1).sI (by simp)).sI (by simp)
  obtain ⟨w2, e2, b1, b2⟩ := e_on_L (N := N) hk 6 0 N wx (by omega) (by omega) (fun z hz => by omega)
  have g : ag [406, 407, 6, 411, 524, 511, 42] w w2 := ((g1.mono (by decide)).tr (gx.mono (by decide))).tr (b1.mono (by decide))
  have e524 : gI w2 524 0 = nI K.length := by rw [agI b1 524 0, hwx, gI_sI, if_neg (by decide), gI_sI, if_pos ⟨rfl, rfl⟩]
  refine ⟨nI K.length, w1, w2, ?_, ?_, setR o v, K, ?_, Itl_ag hT g⟩
  · unfold f_X4_on; rw [e_isKept_t hk]; simp only [bs, l0, l1, l2, l3, l4, l5, l6, l7, l8, l9, l10, l12, l15, l30, l31, l32, l40, l42, l48, l57, l60, l64, l98, l99, l100, l109, l110, l112, l115, l265, l1000, l518400, ngd, if_true, if_false, bn0, reduceCtorEq, n10, z1, z3, z0]; rw [gd_in hk (by omega), gd_in hk (by omega), gd_in hk (by omega), gd_in hk (by omega), nI_clamp (by omega), k4, iF (by rw [nI_ng (by omega) (by omega) (by omega)]; simp)]
    simp only [gA_sI, k4, k5, k6]
    rw [hw1, gI_sI, iF (by decide), gI_sI, iF (by decide), gI_sI, iT ⟨rfl, rfl⟩]
  · unfold f_X5_on; simp only [bs, l0, l1, l2, l3, l4, l5, l6, l7, l8, l9, l10, l12, l15, l30, l31, l32, l40, l42, l48, l57, l60, l64, l98, l99, l100, l109, l110, l112, l115, l265, l1000, l518400, ngd, if_true, if_false, bn0, reduceCtorEq, n10, z1, z3, z0]; rw [e_in_t (n := 3) (by omega) hk (by decide)]; simp only [bs, l0, l1, l2, l3, l4, l5, l6, l7, l8, l9, l10, l12, l15, l30, l31, l32, l40, l42, l48, l57, l60, l64, l98, l99, l100, l109, l110, l112, l115, l265, l1000, l518400, ngd, if_true, if_false, bn0, reduceCtorEq, n10, z1, z3, z0]; rw [pk_mul, nI_add, gd_in (by omega) (by omega), gd_in (by omega) (by omega), gd_in (by omega) (by omega), nI_clamp (by omega), nI_clamp (by omega), e44, k7, iF (by rw [nI_ng (by omega) (by omega) (by omega)]; simp)]
    rw [show gA (sI w1 524 0 (nI K.length)) 44 0 = gA w 44 0 from e44, k8, ← hwx, e2]
    simp only [bs, l0, l1, l2, l3, l4, l5, l6, l7, l8, l9, l10, l12, l15, l30, l31, l32, l40, l42, l48, l57, l60, l64, l98, l99, l100, l109, l110, l112, l115, l265, l1000, l518400, ngd, if_true, if_false, bn0, reduceCtorEq, n10, z1, z3, z0]
    rw [e524]
  · refine ⟨⟨h1.1, k3, h1.2.2⟩, h2, ⟨?_, ?_, ?_, fun x hx => ?_, fun x hx => ?_⟩, ⟨?_, ?_, ?_, fun x hx => ?_, fun x hx z hz => ?_⟩, Iro_ag h5 g, Itx_ag h6 g, ⟨k1, k2, ?_, ?_, e524, fun x hx => ?_⟩, Ikp_ag h8 g, Or.inl ?_⟩
    · rw [agI g 4 0]; exact h3.1
    · rw [agI g 5 0]; exact h3.2.1
    · rw [agI b1 6 0, agI gx 6 0, hw1]; rfl
    · rw [agA g 16 0, agA g 17 0, agA g 18 0]; exact h3.2.2.2.1 x hx
    · rw [agA g 19 0]; exact h3.2.2.2.2 x hx
    · rw [agI g 510 0]; exact h4.1
    · rw [agI g 518 0]; exact h4.2.1
    · rw [agI b1 511 0, hwx]; rfl
    · rw [agA g 36 0, agA g 37 0, agA g 38 0]; exact h4.2.2.2.1 x hx
    · rw [agA g 39 0]; exact h4.2.2.2.2 x hx z hz
    · rw [agI b1 407 0, agI gx 407 0, hw1]; rfl
    · rw [agI b1 406 0, agI gx 406 0, hw1]; rfl
    · have hk1 : K.length ≤ 6 := Nat.le_trans k1 hn
      rw [b2 x (by omega), agA gx 44 0, e44]; exact k9 x hx
    · rw [agI b1 411 0, agI gx 411 0, hw1]; rfl
/-! times -/
def ypp (o : Of) (k x : Nat) : Nat := dg (dr (oY o) k) x
theorem e_times_L {N x y : Nat} {o : Of} {w : Wd} (h : RO 0 o w) (hf : Wf o) (hx : x < oN o) (hy : y < oN o) : ∀ (m k c F : Nat), k + m = oC o → m < F → X4_times_L1 N (nI x) (nI y) F (nI c) (nI k) w = some (nI (cnt (fun k => decide (ypp o k x = y)) m k c), w) := by
  have hn := hf.1
  have hc := hf.2.2.2.1
  intro m
  induction m with
  | zero =>
    intro k c F hk hF
    obtain ⟨F, rfl, _⟩ := fuel_s hF
    rw [X4_times_L1, h.2.1, iT (nI_le (by omega) (by omega)), cnt]
  | succ m ih =>
    intro k c F hk hF
    obtain ⟨F, rfl, hF'⟩ := fuel_s hF
    have hp := Wf_yr hf (k := k) (by omega)
    have hcd := Pm_cd hp hn
    have hlt := Pm_dg hp hx
    rw [X4_times_L1, h.2.1, iF (nI_ge (by omega) (by omega)), gd_in (by omega) (by omega), nI_clamp (by omega), h.2.2.2.2 k (by omega), e_paper (by omega) (by omega), Pm_pp hp hn]
    simp only [bs, l0, l1, l2, l3, l4, l5, l6, l7, l8, l9, l10, l12, l15, l30, l31, l32, l40, l42, l48, l57, l60, l64, l98, l99, l100, l109, l110, l112, l115, l265, l1000, l518400, ngd]
    by_cases q : dg (dr (oY o) k) x = y
    · rw [iT (by rw [q]), nI_add, nI_add, ih (k + 1) _ F (by omega) (by omega), cnt_t (by unfold ypp; simp [q])]
    · rw [iF (fun z => q ((nI_eq (by omega) (by omega)).mp z)), nI_add, ih (k + 1) _ F (by omega) (by omega), cnt_f (by unfold ypp; simp [q])]
theorem e_mtimes_L {N x y : Nat} {o : Of} {w : Wd} (h : RM o w) (hf : Wf o) (hx : x < oN o) (hy : y < oN o) : ∀ (m k c F : Nat), k + m = oC o → m < F → X5_times_L1 N (nI x) (nI y) F (nI c) (nI k) w = some (nI (cnt (fun k => decide (ypp o k x = y)) m k c), w) := by
  have hn := hf.1
  have hc := hf.2.2.2.1
  intro m
  induction m with
  | zero =>
    intro k c F hk hF
    obtain ⟨F, rfl, _⟩ := fuel_s hF
    rw [X5_times_L1, h.2.1, iT (nI_le (by omega) (by omega)), cnt]
  | succ m ih =>
    intro k c F hk hF
    obtain ⟨F, rfl, hF'⟩ := fuel_s hF
    have hp := Wf_yr hf (k := k) (by omega)
    have hlt := Pm_dg hp hx
    rw [X5_times_L1, h.2.1, iF (nI_ge (by omega) (by omega))]
    simp only [bs, l0, l1, l2, l3, l4, l5, l6, l7, l8, l9, l10, l12, l15, l30, l31, l32, l40, l42, l48, l57, l60, l64, l98, l99, l100, l109, l110, l112, l115, l265, l1000, l518400, ngd]
    rw [pk_mul, nI_add, gd_in (by omega) (by omega), nI_clamp (by omega), h.2.2.2.2 k (by omega) x hx]
    by_cases q : dg (dr (oY o) k) x = y
    · rw [iT (by rw [q]), nI_add, nI_add, ih (k + 1) _ F (by omega) (by omega), cnt_t (by unfold ypp; simp [q])]
    · rw [iF (fun z => q ((nI_eq (by omega) (by omega)).mp z)), nI_add, nI_add, ih (k + 1) _ F (by omega) (by omega), cnt_f (by unfold ypp; simp [q])]; rfl
theorem ok_times {N : Nat} (hN : 1000 ≤ N) : Ok_times N Inv := fun a1 a2 w hI => by
  obtain ⟨o, H, hW, hT⟩ := hI
  obtain ⟨h1, h2, h3, h4, h5, h6, h7, h8, h9⟩ := id hW
  have hn := h1.1
  rcases cix a1 (n := oN o) (by omega) with h | ⟨x, hx, rfl⟩
  · refine ⟨ng 1, w, w, ?_, ?_, o, H, hW, hT⟩
    · unfold f_X4_times; rw [e_isMate_f hn h3.1 h]; simp only [bs, l0, l1, l2, l3, l4, l5, l6, l7, l8, l9, l10, l12, l15, l30, l31, l32, l40, l42, l48, l57, l60, l64, l98, l99, l100, l109, l110, l112, l115, l265, l1000, l518400, ngd, if_true, if_false, bn0, reduceCtorEq, n10, z1, z3, z0]
    · unfold f_X5_times; rw [e_misMate_f hn h4.1 h]; simp only [bs, l0, l1, l2, l3, l4, l5, l6, l7, l8, l9, l10, l12, l15, l30, l31, l32, l40, l42, l48, l57, l60, l64, l98, l99, l100, l109, l110, l112, l115, l265, l1000, l518400, ngd, if_true, if_false, bn0, reduceCtorEq, n10, z1, z3, z0]
  rcases cix a2 (n := oN o) (by omega) with h | ⟨y, hy, rfl⟩
  · refine ⟨ng 1, w, w, ?_, ?_, o, H, hW, hT⟩
    · unfold f_X4_times; rw [e_isMate_t hn h3.1 hx]; simp only [bs, l0, l1, l2, l3, l4, l5, l6, l7, l8, l9, l10, l12, l15, l30, l31, l32, l40, l42, l48, l57, l60, l64, l98, l99, l100, l109, l110, l112, l115, l265, l1000, l518400, ngd, if_true, if_false, bn0, reduceCtorEq, n10, z1, z3, z0]; rw [e_isMate_f hn h3.1 h]; simp only [bs, l0, l1, l2, l3, l4, l5, l6, l7, l8, l9, l10, l12, l15, l30, l31, l32, l40, l42, l48, l57, l60, l64, l98, l99, l100, l109, l110, l112, l115, l265, l1000, l518400, ngd, if_true, if_false, bn0, reduceCtorEq, n10, z1, z3, z0]
    · unfold f_X5_times; rw [e_misMate_t hn h4.1 hx]; simp only [bs, l0, l1, l2, l3, l4, l5, l6, l7, l8, l9, l10, l12, l15, l30, l31, l32, l40, l42, l48, l57, l60, l64, l98, l99, l100, l109, l110, l112, l115, l265, l1000, l518400, ngd, if_true, if_false, bn0, reduceCtorEq, n10, z1, z3, z0]; rw [e_misMate_f hn h4.1 h]; simp only [bs, l0, l1, l2, l3, l4, l5, l6, l7, l8, l9, l10, l12, l15, l30, l31, l32, l40, l42, l48, l57, l60, l64, l98, l99, l100, l109, l110, l112, l115, l265, l1000, l518400, ngd, if_true, if_false, bn0, reduceCtorEq, n10, z1, z3, z0]
  by_cases c : x = y
  · refine ⟨ng 1, w, w, ?_, ?_, o, H, hW, hT⟩
    · unfold f_X4_times; rw [e_isMate_t hn h3.1 hx]; simp only [bs, l0, l1, l2, l3, l4, l5, l6, l7, l8, l9, l10, l12, l15, l30, l31, l32, l40, l42, l48, l57, l60, l64, l98, l99, l100, l109, l110, l112, l115, l265, l1000, l518400, ngd, if_true, if_false, bn0, reduceCtorEq, n10, z1, z3, z0]; rw [e_isMate_t hn h3.1 hy]; simp only [bs, l0, l1, l2, l3, l4, l5, l6, l7, l8, l9, l10, l12, l15, l30, l31, l32, l40, l42, l48, l57, l60, l64, l98, l99, l100, l109, l110, l112, l115, l265, l1000, l518400, ngd, if_true, if_false, bn0, reduceCtorEq, n10, z1, z3, z0]; rw [iT (by rw [c])]
    · unfold f_X5_times; rw [e_misMate_t hn h4.1 hx]; simp only [bs, l0, l1, l2, l3, l4, l5, l6, l7, l8, l9, l10, l12, l15, l30, l31, l32, l40, l42, l48, l57, l60, l64, l98, l99, l100, l109, l110, l112, l115, l265, l1000, l518400, ngd, if_true, if_false, bn0, reduceCtorEq, n10, z1, z3, z0]; rw [e_misMate_t hn h4.1 hy]; simp only [bs, l0, l1, l2, l3, l4, l5, l6, l7, l8, l9, l10, l12, l15, l30, l31, l32, l40, l42, l48, l57, l60, l64, l98, l99, l100, l109, l110, l112, l115, l265, l1000, l518400, ngd, if_true, if_false, bn0, reduceCtorEq, n10, z1, z3, z0]; rw [iT (by rw [c])]
  have c' : ¬ nI x = nI y := fun q => c ((nI_eq (by omega) (by omega)).mp q)
  refine ⟨nI (cnt (fun k => decide (ypp o k x = y)) (oC o) 0 0), w, w, ?_, ?_, o, H, hW, hT⟩
  · unfold f_X4_times; rw [e_isMate_t hn h3.1 hx]; simp only [bs, l0, l1, l2, l3, l4, l5, l6, l7, l8, l9, l10, l12, l15, l30, l31, l32, l40, l42, l48, l57, l60, l64, l98, l99, l100, l109, l110, l112, l115, l265, l1000, l518400, ngd, if_true, if_false, bn0, reduceCtorEq, n10, z1, z3, z0]; rw [e_isMate_t hn h3.1 hy]; simp only [bs, l0, l1, l2, l3, l4, l5, l6, l7, l8, l9, l10, l12, l15, l30, l31, l32, l40, l42, l48, l57, l60, l64, l98, l99, l100, l109, l110, l112, l115, l265, l1000, l518400, ngd, if_true, if_false, bn0, reduceCtorEq, n10, z1, z3, z0]; rw [iF c', e_times_L h3 h1 hx hy (oC o) 0 0 N (by omega) (by omega)]; simp only [bs, l0, l1, l2, l3, l4, l5, l6, l7, l8, l9, l10, l12, l15, l30, l31, l32, l40, l42, l48, l57, l60, l64, l98, l99, l100, l109, l110, l112, l115, l265, l1000, l518400, ngd, if_true, if_false, bn0, reduceCtorEq, n10, z1, z3, z0]
  · unfold f_X5_times; rw [e_misMate_t hn h4.1 hx]; simp only [bs, l0, l1, l2, l3, l4, l5, l6, l7, l8, l9, l10, l12, l15, l30, l31, l32, l40, l42, l48, l57, l60, l64, l98, l99, l100, l109, l110, l112, l115, l265, l1000, l518400, ngd, if_true, if_false, bn0, reduceCtorEq, n10, z1, z3, z0]; rw [e_misMate_t hn h4.1 hy]; simp only [bs, l0, l1, l2, l3, l4, l5, l6, l7, l8, l9, l10, l12, l15, l30, l31, l32, l40, l42, l48, l57, l60, l64, l98, l99, l100, l109, l110, l112, l115, l265, l1000, l518400, ngd, if_true, if_false, bn0, reduceCtorEq, n10, z1, z3, z0]; rw [iF c', e_mtimes_L h4 h1 hx hy (oC o) 0 0 N (by omega) (by omega)]; simp only [bs, l0, l1, l2, l3, l4, l5, l6, l7, l8, l9, l10, l12, l15, l30, l31, l32, l40, l42, l48, l57, l60, l64, l98, l99, l100, l109, l110, l112, l115, l265, l1000, l518400, ngd, if_true, if_false, bn0, reduceCtorEq, n10, z1, z3, z0]
