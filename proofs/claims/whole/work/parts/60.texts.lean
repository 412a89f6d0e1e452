theorem add64 (a b : Int32) : (a.toInt64 + b.toInt64).toInt = a.toInt + b.toInt := by
  have h1 := Int32.le_toInt a
  have h2 := Int32.toInt_lt a
  have h3 := Int32.le_toInt b
  have h4 := Int32.toInt_lt b
  rw [Int64.toInt_add, Int32.toInt_toInt64, Int32.toInt_toInt64]
  apply Int.bmod_eq_of_le <;> omega
theorem lgt {x y : Int64} : (nI 0 < lg_cmp x y) ↔ y < x := lg_cmp_gt x y
theorem lle {x y : Int64} : (lg_cmp x y ≤ nI 0) ↔ x ≤ y := lg_cmp_le x y
theorem l64lt {a b : Int32} {s : Nat} (hs : s < 2 ^ 31) : (nI s).toInt64 < a.toInt64 + b.toInt64 ↔ (s : Int) < a.toInt + b.toInt := by
  rw [Int64.lt_iff_toInt_lt, add64, Int32.toInt_toInt64, nI_toInt hs]
theorem l64le {a b : Int32} {s : Nat} (hs : s < 2 ^ 31) : a.toInt64 + b.toInt64 ≤ (nI s).toInt64 ↔ a.toInt + b.toInt ≤ (s : Int) := by
  rw [Int64.le_iff_toInt_le, add64, Int32.toInt_toInt64, nI_toInt hs]
theorem e_hasPl_f {N r s : Nat} {a b : Int32} {w : Wd} (hr : r < 6) (hs : s ≤ 40) (h : gA w 12 0 r = nI s) (hb : 0 ≤ b.toInt) (hn : ¬ (0 ≤ a.toInt ∧ a.toInt + b.toInt ≤ s)) : f_X1_hasPlaces N (nI r) a b w = some (nI 0, w) := by
  unfold f_X1_hasPlaces
  simp only [bs, l0, l1, l2, l3, l4, l5, l6, l7, l8, l9, l10, l12, l15, l30, l31, l32, l40, l42, l48, l57, l60, l64, l98, l99, l100, l109, l110, l112, l115, l265, l1000, l518400, ngd]
  rw [gd_in hr (by omega), gd_in hr (by omega), nI_clamp (by omega), h]
  rcases cix a (n := s + 1) (by omega) with (h1 | h1) | ⟨i, hi, rfl⟩
  · rw [iT (neg0 h1)]
  · rw [iF (fun q => by have := (clt (n := 0) (by omega)).mp q; omega), iT ((cgt (by omega)).mpr (by omega))]
  · rw [nI_toInt (by omega)] at hn
    rw [iF (nI_nlt (by omega) (by omega)), iF (nI_nlt (by omega) (by omega)), pk_sub (by omega), iT ((cgt (by omega)).mpr (by omega))]
theorem e_hasPl_t {N r s i n : Nat} {w : Wd} (hr : r < 6) (hs : s ≤ 40) (h : gA w 12 0 r = nI s) (hn : i + n ≤ s) : f_X1_hasPlaces N (nI r) (nI i) (nI n) w = some (nI 1, w) := by
  unfold f_X1_hasPlaces
  simp only [bs, l0, l1, l2, l3, l4, l5, l6, l7, l8, l9, l10, l12, l15, l30, l31, l32, l40, l42, l48, l57, l60, l64, l98, l99, l100, l109, l110, l112, l115, l265, l1000, l518400, ngd]
  rw [gd_in hr (by omega), gd_in hr (by omega), nI_clamp (by omega), h, iF (nI_nlt (by omega) (by omega)), iF (nI_nlt (by omega) (by omega)), pk_sub (by omega), iF (nI_nlt (by omega) (by omega))]
theorem e_copy_L1 {N r i n : Nat} {x3 x4 : Int32} (hr : r < 6) (hi : i + n ≤ 40) : ∀ (m k F : Nat) (w : Wd), k + m = n → m < F → (∀ z, z < k → gA w 33 0 z = gA w 32 0 (40 * r + (i + z))) → ∃ w', X5_copy_L1 N (nI r) (nI i) x3 x4 (nI n) F (nI k) w = some w' ∧ ag [33] w w' ∧ ∀ z, z < n → gA w' 33 0 z = gA w 32 0 (40 * r + (i + z)) := by
  intro m
  induction m with
  | zero =>
    intro k F w hk hF h0
    obtain ⟨F, rfl, _⟩ := fuel_s hF
    rw [X5_copy_L1, iT (nI_le (by omega) (by omega))]
    exact ⟨w, rfl, ag.rf _ _, fun z hz => h0 z (by omega)⟩
  | succ m ih =>
    intro k F w hk hF h0
    obtain ⟨F, rfl, hF'⟩ := fuel_s hF
    rw [X5_copy_L1, iF (nI_ge (by omega) (by omega)), nI_add, e_rowAt hr (by omega)]
    simp only [bs, l0, l1, l2, l3, l4, l5, l6, l7, l8, l9, l10, l12, l15, l30, l31, l32, l40, l42, l48, l57, l60, l64, l98, l99, l100, l109, l110, l112, l115, l265, l1000, l518400, ngd]
    rw [gd_in (by omega) (by omega), nI_clamp (by omega), nI_add]
    obtain ⟨w', e, a1, a2⟩ := ih (k + 1) F (sA w 33 0 (upd (gA w 33 0) k (gA w 32 0 (40 * r + (i + k))))) (by omega) (by omega) (fun z hz => by
      rw [gA_sA, if_pos ⟨rfl, rfl⟩, gA_sA, if_neg (by decide)]
      by_cases q : z = k
      · rw [q, pk_us]
      · rw [pk_un q]; exact h0 z (by omega))
    refine ⟨w', e, ((ag.rf _ w).sA (by simp)).tr a1, fun z hz => ?_⟩
    rw [a2 z hz, gA_sA, if_neg (by decide)]
theorem e_copy_L2 {N t j n : Nat} (ht : t < 6) (hj : j + n ≤ 40) : ∀ (m k F : Nat) (w : Wd), k + m = n → m < F → ∃ w', X5_copy_L2 N (nI t) (nI j) (nI n) F (nI k) w = some w' ∧ ag [32] w w' ∧ (∀ z, k ≤ z → z < n → gA w' 32 0 (40 * t + (j + z)) = gA w 33 0 z) ∧ ∀ q, (q < 40 * t + (j + k) ∨ 40 * t + (j + n) ≤ q) → gA w' 32 0 q = gA w 32 0 q := by
  intro m
  induction m with
  | zero =>
    intro k F w hk hF
    obtain ⟨F, rfl, _⟩ := fuel_s hF
    rw [X5_copy_L2, iT (nI_le (by omega) (by omega))]
    exact ⟨w, rfl, ag.rf _ _, fun z h1 h2 => by omega, fun _ _ => rfl⟩
  | succ m ih =>
    intro k F w hk hF
    obtain ⟨F, rfl, hF'⟩ := fuel_s hF
    rw [X5_copy_L2, iF (nI_ge (by omega) (by omega)), gd_in (by omega) (by omega), nI_clamp (by omega), nI_add, e_setRow ht (by omega)]
    simp only [bs, l0, l1, l2, l3, l4, l5, l6, l7, l8, l9, l10, l12, l15, l30, l31, l32, l40, l42, l48, l57, l60, l64, l98, l99, l100, l109, l110, l112, l115, l265, l1000, l518400, ngd]
    rw [nI_add]
    obtain ⟨w', e, a1, a2, a3⟩ := ih (k + 1) F (sA w 32 0 (upd (gA w 32 0) (40 * t + (j + k)) (gA w 33 0 k))) (by omega) (by omega)
    refine ⟨w', e, ((ag.rf _ w).sA (by simp)).tr a1, fun z h1 h2 => ?_, fun q hq => ?_⟩
    · rcases Nat.eq_or_lt_of_le h1 with c | c
      · subst c
        rw [a3 _ (by omega), gA_sA, if_pos ⟨rfl, rfl⟩, pk_us]
      · rw [a2 z (by omega) h2, gA_sA, if_neg (by decide)]
    · rw [a3 q (by omega), gA_sA, if_pos ⟨rfl, rfl⟩, pk_un (by omega)]
theorem ok_copy {N : Nat} (hN : 1000 ≤ N) : Ok_copy N Inv := fun a1 a2 a3 a4 a5 w hI => by
  obtain ⟨o, H, hW, hT⟩ := hI
  rcases cix a1 (n := 6) (by omega) with h | ⟨r, hr, rfl⟩
  · refine ⟨ng 1, w, w, ?_, ?_, o, H, hW, hT⟩
    · unfold f_X4_copy; rw [e_isRow_f h]; simp only [bs, l0, l1, l2, l3, l4, l5, l6, l7, l8, l9, l10, l12, l15, l30, l31, l32, l40, l42, l48, l57, l60, l64, l98, l99, l100, l109, l110, l112, l115, l265, l1000, l518400, ngd, if_true, if_false, bn0, reduceCtorEq, n10, z1, z3, z0]
    · unfold f_X5_copy; rw [e_misRow_f h]; simp only [bs, l0, l1, l2, l3, l4, l5, l6, l7, l8, l9, l10, l12, l15, l30, l31, l32, l40, l42, l48, l57, l60, l64, l98, l99, l100, l109, l110, l112, l115, l265, l1000, l518400, ngd, if_true, if_false, bn0, reduceCtorEq, n10, z1, z3, z0]
  rcases cix a3 (n := 6) (by omega) with h | ⟨t, ht, rfl⟩
  · refine ⟨ng 1, w, w, ?_, ?_, o, H, hW, hT⟩
    · unfold f_X4_copy; rw [e_isRow_t hr]; simp only [bs, l0, l1, l2, l3, l4, l5, l6, l7, l8, l9, l10, l12, l15, l30, l31, l32, l40, l42, l48, l57, l60, l64, l98, l99, l100, l109, l110, l112, l115, l265, l1000, l518400, ngd, if_true, if_false, bn0, reduceCtorEq, n10, z1, z3, z0]; rw [e_isRow_f h]; simp only [bs, l0, l1, l2, l3, l4, l5, l6, l7, l8, l9, l10, l12, l15, l30, l31, l32, l40, l42, l48, l57, l60, l64, l98, l99, l100, l109, l110, l112, l115, l265, l1000, l518400, ngd, if_true, if_false, bn0, reduceCtorEq, n10, z1, z3, z0]
    · unfold f_X5_copy; rw [e_misRow_t hr]; simp only [bs, l0, l1, l2, l3, l4, l5, l6, l7, l8, l9, l10, l12, l15, l30, l31, l32, l40, l42, l48, l57, l60, l64, l98, l99, l100, l109, l110, l112, l115, l265, l1000, l518400, ngd, if_true, if_false, bn0, reduceCtorEq, n10, z1, z3, z0]; rw [e_misRow_f h]; simp only [bs, l0, l1, l2, l3, l4, l5, l6, l7, l8, l9, l10, l12, l15, l30, l31, l32, l40, l42, l48, l57, l60, l64, l98, l99, l100, l109, l110, l112, l115, l265, l1000, l518400, ngd, if_true, if_false, bn0, reduceCtorEq, n10, z1, z3, z0]
  have h7 : ∀ f, (∀ q, f_X4_isRow N (nI r) w = q → True) ∧ gA (cref f w) 31 0 = gA w 31 0 := fun f => ⟨fun _ _ => trivial, agA (cref_ag f w) 31 0⟩
  by_cases h5 : a5.toInt < 0
  · refine ⟨ng 3, cref 5 w, mref 5 (cref 5 w), ?_, ?_, Inv_ref0 hW hT⟩
    · unfold f_X4_copy; rw [e_isRow_t hr]; simp only [bs, l0, l1, l2, l3, l4, l5, l6, l7, l8, l9, l10, l12, l15, l30, l31, l32, l40, l42, l48, l57, l60, l64, l98, l99, l100, l109, l110, l112, l115, l265, l1000, l518400, ngd, if_true, if_false, bn0, reduceCtorEq, n10, z1, z3, z0]; rw [e_isRow_t ht]; simp only [bs, l0, l1, l2, l3, l4, l5, l6, l7, l8, l9, l10, l12, l15, l30, l31, l32, l40, l42, l48, l57, l60, l64, l98, l99, l100, l109, l110, l112, l115, l265, l1000, l518400, ngd, if_true, if_false, bn0, reduceCtorEq, n10, z1, z3, z0]; simp (disch := omega) only [cle, cge, clt, cgt, iT, iF]; rw [e_refuse (by omega)]; simp only [bs, l0, l1, l2, l3, l4, l5, l6, l7, l8, l9, l10, l12, l15, l30, l31, l32, l40, l42, l48, l57, l60, l64, l98, l99, l100, l109, l110, l112, l115, l265, l1000, l518400, ngd, if_true, if_false, bn0, reduceCtorEq, n10, z1, z3, z0]
    · unfold f_X5_copy; rw [e_misRow_t hr]; simp only [bs, l0, l1, l2, l3, l4, l5, l6, l7, l8, l9, l10, l12, l15, l30, l31, l32, l40, l42, l48, l57, l60, l64, l98, l99, l100, l109, l110, l112, l115, l265, l1000, l518400, ngd, if_true, if_false, bn0, reduceCtorEq, n10, z1, z3, z0]; rw [e_misRow_t ht]; simp only [bs, l0, l1, l2, l3, l4, l5, l6, l7, l8, l9, l10, l12, l15, l30, l31, l32, l40, l42, l48, l57, l60, l64, l98, l99, l100, l109, l110, l112, l115, l265, l1000, l518400, ngd, if_true, if_false, bn0, reduceCtorEq, n10, z1, z3, z0]; simp (disch := omega) only [cle, cge, clt, cgt, iT, iF]; rw [e_meet (by omega)]; simp only [bs, l0, l1, l2, l3, l4, l5, l6, l7, l8, l9, l10, l12, l15, l30, l31, l32, l40, l42, l48, l57, l60, l64, l98, l99, l100, l109, l110, l112, l115, l265, l1000, l518400, ngd, if_true, if_false, bn0, reduceCtorEq, n10, z1, z3, z0]
  obtain ⟨hs, hc⟩ := hW.2.2.2.2.1 r hr
  obtain ⟨hs', hc'⟩ := hW.2.2.2.2.1 t ht
  have c5 : nI 0 ≤ a5 := (cge (by omega)).mpr (by omega)
  rcases hs with ⟨s1, s2⟩ | ⟨n, hn, s1, s2⟩
  · refine ⟨ng 3, cref 1 w, mref 1 (cref 1 w), ?_, ?_, Inv_ref0 hW hT⟩
    · unfold f_X4_copy; rw [e_isRow_t hr]; simp only [bs, l0, l1, l2, l3, l4, l5, l6, l7, l8, l9, l10, l12, l15, l30, l31, l32, l40, l42, l48, l57, l60, l64, l98, l99, l100, l109, l110, l112, l115, l265, l1000, l518400, ngd, if_true, if_false, bn0, reduceCtorEq, n10, z1, z3, z0]; rw [e_isRow_t ht]; simp only [bs, l0, l1, l2, l3, l4, l5, l6, l7, l8, l9, l10, l12, l15, l30, l31, l32, l40, l42, l48, l57, l60, l64, l98, l99, l100, l109, l110, l112, l115, l265, l1000, l518400, ngd, if_true, if_false, bn0, reduceCtorEq, n10, z1, z3, z0]; rw [iT c5, e_isMissing hr]; simp only [bs, l0, l1, l2, l3, l4, l5, l6, l7, l8, l9, l10, l12, l15, l30, l31, l32, l40, l42, l48, l57, l60, l64, l98, l99, l100, l109, l110, l112, l115, l265, l1000, l518400, ngd, if_true, if_false, bn0, reduceCtorEq, n10, z1, z3, z0]; rw [iF (by simp [s1]), e_refuse (by omega)]; simp only [bs, l0, l1, l2, l3, l4, l5, l6, l7, l8, l9, l10, l12, l15, l30, l31, l32, l40, l42, l48, l57, l60, l64, l98, l99, l100, l109, l110, l112, l115, l265, l1000, l518400, ngd, if_true, if_false, bn0, reduceCtorEq, n10, z1, z3, z0]
    · unfold f_X5_copy; rw [e_misRow_t hr]; simp only [bs, l0, l1, l2, l3, l4, l5, l6, l7, l8, l9, l10, l12, l15, l30, l31, l32, l40, l42, l48, l57, l60, l64, l98, l99, l100, l109, l110, l112, l115, l265, l1000, l518400, ngd, if_true, if_false, bn0, reduceCtorEq, n10, z1, z3, z0]; rw [e_misRow_t ht]; simp only [bs, l0, l1, l2, l3, l4, l5, l6, l7, l8, l9, l10, l12, l15, l30, l31, l32, l40, l42, l48, l57, l60, l64, l98, l99, l100, l109, l110, l112, l115, l265, l1000, l518400, ngd, if_true, if_false, bn0, reduceCtorEq, n10, z1, z3, z0]; rw [iT c5, gd_in hr (by omega), nI_clamp (by omega), (h7 1).2, s2, iT (by decide), e_meet (by omega)]; simp only [bs, l0, l1, l2, l3, l4, l5, l6, l7, l8, l9, l10, l12, l15, l30, l31, l32, l40, l42, l48, l57, l60, l64, l98, l99, l100, l109, l110, l112, l115, l265, l1000, l518400, ngd, if_true, if_false, bn0, reduceCtorEq, n10, z1, z3, z0]
  have hne : ¬ gA w 12 0 r = ng 1 := by rw [s1, nI_ng (by omega) (by omega) (by omega)]; simp
  rcases hs' with ⟨t1, t2⟩ | ⟨n', hn', t1, t2⟩
  · refine ⟨ng 3, cref 1 w, mref 1 (cref 1 w), ?_, ?_, Inv_ref0 hW hT⟩
    · unfold f_X4_copy; rw [e_isRow_t hr]; simp only [bs, l0, l1, l2, l3, l4, l5, l6, l7, l8, l9, l10, l12, l15, l30, l31, l32, l40, l42, l48, l57, l60, l64, l98, l99, l100, l109, l110, l112, l115, l265, l1000, l518400, ngd, if_true, if_false, bn0, reduceCtorEq, n10, z1, z3, z0]; rw [e_isRow_t ht]; simp only [bs, l0, l1, l2, l3, l4, l5, l6, l7, l8, l9, l10, l12, l15, l30, l31, l32, l40, l42, l48, l57, l60, l64, l98, l99, l100, l109, l110, l112, l115, l265, l1000, l518400, ngd, if_true, if_false, bn0, reduceCtorEq, n10, z1, z3, z0]; rw [iT c5, e_isMissing hr]; simp only [bs, l0, l1, l2, l3, l4, l5, l6, l7, l8, l9, l10, l12, l15, l30, l31, l32, l40, l42, l48, l57, l60, l64, l98, l99, l100, l109, l110, l112, l115, l265, l1000, l518400, ngd, if_true, if_false, bn0, reduceCtorEq, n10, z1, z3, z0]; rw [iT (by simp [hne]), e_isMissing ht]; simp only [bs, l0, l1, l2, l3, l4, l5, l6, l7, l8, l9, l10, l12, l15, l30, l31, l32, l40, l42, l48, l57, l60, l64, l98, l99, l100, l109, l110, l112, l115, l265, l1000, l518400, ngd, if_true, if_false, bn0, reduceCtorEq, n10, z1, z3, z0]; rw [iF (by simp [t1]), e_refuse (by omega)]; simp only [bs, l0, l1, l2, l3, l4, l5, l6, l7, l8, l9, l10, l12, l15, l30, l31, l32, l40, l42, l48, l57, l60, l64, l98, l99, l100, l109, l110, l112, l115, l265, l1000, l518400, ngd, if_true, if_false, bn0, reduceCtorEq, n10, z1, z3, z0]
    · unfold f_X5_copy; rw [e_misRow_t hr]; simp only [bs, l0, l1, l2, l3, l4, l5, l6, l7, l8, l9, l10, l12, l15, l30, l31, l32, l40, l42, l48, l57, l60, l64, l98, l99, l100, l109, l110, l112, l115, l265, l1000, l518400, ngd, if_true, if_false, bn0, reduceCtorEq, n10, z1, z3, z0]; rw [e_misRow_t ht]; simp only [bs, l0, l1, l2, l3, l4, l5, l6, l7, l8, l9, l10, l12, l15, l30, l31, l32, l40, l42, l48, l57, l60, l64, l98, l99, l100, l109, l110, l112, l115, l265, l1000, l518400, ngd, if_true, if_false, bn0, reduceCtorEq, n10, z1, z3, z0]; rw [iT c5, gd_in hr (by omega), nI_clamp (by omega), (h7 1).2, s2, iF (nI_nlt (by omega) (by omega)), gd_in ht (by omega), nI_clamp (by omega), t2, iF (by decide), e_meet (by omega)]; simp only [bs, l0, l1, l2, l3, l4, l5, l6, l7, l8, l9, l10, l12, l15, l30, l31, l32, l40, l42, l48, l57, l60, l64, l98, l99, l100, l109, l110, l112, l115, l265, l1000, l518400, ngd, if_true, if_false, bn0, reduceCtorEq, n10, z1, z3, z0]
  have hne' : ¬ gA w 12 0 t = ng 1 := by rw [t1, nI_ng (by omega) (by omega) (by omega)]; simp
  have beyond : ¬ ((0 ≤ a2.toInt ∧ a2.toInt + a5.toInt ≤ n) ∧ (0 ≤ a4.toInt ∧ a4.toInt + a5.toInt ≤ n')) → f_X5_copy N (nI r) a2 (nI t) a4 a5 (cref 2 w) = some (ng 3, mref 2 (cref 2 w)) := fun hq => by
    unfold f_X5_copy; rw [e_misRow_t hr]; simp only [bs, l0, l1, l2, l3, l4, l5, l6, l7, l8, l9, l10, l12, l15, l30, l31, l32, l40, l42, l48, l57, l60, l64, l98, l99, l100, l109, l110, l112, l115, l265, l1000, l518400, ngd, if_true, if_false, bn0, reduceCtorEq, n10, z1, z3, z0]; rw [e_misRow_t ht]; simp only [bs, l0, l1, l2, l3, l4, l5, l6, l7, l8, l9, l10, l12, l15, l30, l31, l32, l40, l42, l48, l57, l60, l64, l98, l99, l100, l109, l110, l112, l115, l265, l1000, l518400, ngd, if_true, if_false, bn0, reduceCtorEq, n10, z1, z3, z0]
    rw [iT c5, gd_in hr (by omega), gd_in hr (by omega), nI_clamp (by omega), (h7 2).2, s2, iF (nI_nlt (by omega) (by omega)), gd_in ht (by omega), gd_in ht (by omega), nI_clamp (by omega), t2, iT (nI_le (by omega) (by omega)), e_meet (by omega)]
    simp only [bs, l0, l1, l2, l3, l4, l5, l6, l7, l8, l9, l10, l12, l15, l30, l31, l32, l40, l42, l48, l57, l60, l64, l98, l99, l100, l109, l110, l112, l115, l265, l1000, l518400, ngd, if_true, if_false, bn0, reduceCtorEq, n10, z1, z3, z0]
    by_cases q1 : a2.toInt < 0
    · rw [iT (neg0 q1)]
    rw [iF (fun q => by have := (clt (n := 0) (by omega)).mp q; omega)]
    by_cases q2 : a4.toInt < 0
    · rw [iT (neg0 q2)]
    rw [iF (fun q => by have := (clt (n := 0) (by omega)).mp q; omega)]
    by_cases q3 : (n : Int) < a2.toInt + a5.toInt
    · rw [iT (lgt.mpr ((l64lt (by omega)).mpr q3))]
    rw [iF (fun q => q3 ((l64lt (by omega)).mp (lgt.mp q))), iF (fun q => by have := (l64le (by omega)).mp (lle.mp q); omega)]
  by_cases p1 : 0 ≤ a2.toInt ∧ a2.toInt + a5.toInt ≤ n
  rotate_left
  · refine ⟨ng 3, cref 2 w, mref 2 (cref 2 w), ?_, beyond (fun q => p1 q.1), Inv_ref0 hW hT⟩
    unfold f_X4_copy; rw [e_isRow_t hr]; simp only [bs, l0, l1, l2, l3, l4, l5, l6, l7, l8, l9, l10, l12, l15, l30, l31, l32, l40, l42, l48, l57, l60, l64, l98, l99, l100, l109, l110, l112, l115, l265, l1000, l518400, ngd, if_true, if_false, bn0, reduceCtorEq, n10, z1, z3, z0]; rw [e_isRow_t ht]; simp only [bs, l0, l1, l2, l3, l4, l5, l6, l7, l8, l9, l10, l12, l15, l30, l31, l32, l40, l42, l48, l57, l60, l64, l98, l99, l100, l109, l110, l112, l115, l265, l1000, l518400, ngd, if_true, if_false, bn0, reduceCtorEq, n10, z1, z3, z0]; rw [iT c5, e_isMissing hr]; simp only [bs, l0, l1, l2, l3, l4, l5, l6, l7, l8, l9, l10, l12, l15, l30, l31, l32, l40, l42, l48, l57, l60, l64, l98, l99, l100, l109, l110, l112, l115, l265, l1000, l518400, ngd, if_true, if_false, bn0, reduceCtorEq, n10, z1, z3, z0]; rw [iT (by simp [hne]), e_isMissing ht]; simp only [bs, l0, l1, l2, l3, l4, l5, l6, l7, l8, l9, l10, l12, l15, l30, l31, l32, l40, l42, l48, l57, l60, l64, l98, l99, l100, l109, l110, l112, l115, l265, l1000, l518400, ngd, if_true, if_false, bn0, reduceCtorEq, n10, z1, z3, z0]; rw [iT (by simp [hne']), e_hasPl_f hr hn s1 (by omega) p1]; simp only [bs, l0, l1, l2, l3, l4, l5, l6, l7, l8, l9, l10, l12, l15, l30, l31, l32, l40, l42, l48, l57, l60, l64, l98, l99, l100, l109, l110, l112, l115, l265, l1000, l518400, ngd, if_true, if_false, bn0, reduceCtorEq, n10, z1, z3, z0]; rw [e_refuse (by omega)]; simp only [bs, l0, l1, l2, l3, l4, l5, l6, l7, l8, l9, l10, l12, l15, l30, l31, l32, l40, l42, l48, l57, l60, l64, l98, l99, l100, l109, l110, l112, l115, l265, l1000, l518400, ngd, if_true, if_false, bn0, reduceCtorEq, n10, z1, z3, z0]
  obtain ⟨k, hk, rfl⟩ : ∃ k : Nat, k ≤ 40 ∧ a5 = nI k := by
    rcases cix a5 (n := 41) (by omega) with (h | h) | ⟨k, hk, e⟩
    · omega
    · omega
    · exact ⟨k, by omega, e⟩
  obtain ⟨i, hi, rfl⟩ : ∃ i : Nat, i ≤ 40 ∧ a2 = nI i := by
    rcases cix a2 (n := 41) (by omega) with (h | h) | ⟨k, hk, e⟩
    · omega
    · rw [nI_toInt (by omega)] at p1; omega
    · exact ⟨k, by omega, e⟩
  rw [nI_toInt (by omega), nI_toInt (by omega)] at p1
  by_cases p2 : 0 ≤ a4.toInt ∧ a4.toInt + (nI k).toInt ≤ n'
  rotate_left
  · refine ⟨ng 3, cref 2 w, mref 2 (cref 2 w), ?_, beyond (fun q => p2 q.2), Inv_ref0 hW hT⟩
    unfold f_X4_copy; rw [e_isRow_t hr]; simp only [bs, l0, l1, l2, l3, l4, l5, l6, l7, l8, l9, l10, l12, l15, l30, l31, l32, l40, l42, l48, l57, l60, l64, l98, l99, l100, l109, l110, l112, l115, l265, l1000, l518400, ngd, if_true, if_false, bn0, reduceCtorEq, n10, z1, z3, z0]; rw [e_isRow_t ht]; simp only [bs, l0, l1, l2, l3, l4, l5, l6, l7, l8, l9, l10, l12, l15, l30, l31, l32, l40, l42, l48, l57, l60, l64, l98, l99, l100, l109, l110, l112, l115, l265, l1000, l518400, ngd, if_true, if_false, bn0, reduceCtorEq, n10, z1, z3, z0]; rw [iT c5, e_isMissing hr]; simp only [bs, l0, l1, l2, l3, l4, l5, l6, l7, l8, l9, l10, l12, l15, l30, l31, l32, l40, l42, l48, l57, l60, l64, l98, l99, l100, l109, l110, l112, l115, l265, l1000, l518400, ngd, if_true, if_false, bn0, reduceCtorEq, n10, z1, z3, z0]; rw [iT (by simp [hne]), e_isMissing ht]; simp only [bs, l0, l1, l2, l3, l4, l5, l6, l7, l8, l9, l10, l12, l15, l30, l31, l32, l40, l42, l48, l57, l60, l64, l98, l99, l100, l109, l110, l112, l115, l265, l1000, l518400, ngd, if_true, if_false, bn0, reduceCtorEq, n10, z1, z3, z0]; rw [iT (by simp [hne']), e_hasPl_t hr hn s1 (by omega)]; simp only [bs, l0, l1, l2, l3, l4, l5, l6, l7, l8, l9, l10, l12, l15, l30, l31, l32, l40, l42, l48, l57, l60, l64, l98, l99, l100, l109, l110, l112, l115, l265, l1000, l518400, ngd, if_true, if_false, bn0, reduceCtorEq, n10, z1, z3, z0]; rw [e_hasPl_f ht hn' t1 (by omega) p2]; simp only [bs, l0, l1, l2, l3, l4, l5, l6, l7, l8, l9, l10, l12, l15, l30, l31, l32, l40, l42, l48, l57, l60, l64, l98, l99, l100, l109, l110, l112, l115, l265, l1000, l518400, ngd, if_true, if_false, bn0, reduceCtorEq, n10, z1, z3, z0]; rw [e_refuse (by omega)]; simp only [bs, l0, l1, l2, l3, l4, l5, l6, l7, l8, l9, l10, l12, l15, l30, l31, l32, l40, l42, l48, l57, l60, l64, l98, l99, l100, l109, l110, l112, l115, l265, l1000, l518400, ngd, if_true, if_false, bn0, reduceCtorEq, n10, z1, z3, z0]
  rw [nI_toInt (show k < 2 ^ 31 by omega)] at p2
  obtain ⟨j, hj, rfl⟩ : ∃ j : Nat, j ≤ 40 ∧ a4 = nI j := by
    rcases cix a4 (n := 41) (by omega) with (h | h) | ⟨k, hk, e⟩
    · omega
    · omega
    · exact ⟨k, by omega, e⟩
  rw [nI_toInt (by omega)] at p2
  have w1d : ∃ w1, w1 = sA w 11 t (va_cpy (gA w 11 r) (gA w 11 t) i j k) := ⟨_, rfl⟩
  obtain ⟨w1, hw1⟩ := w1d
  have g1 : ag [11, 1011, 2011, 3011, 4011, 5011] w w1 := by
    rw [hw1]; exact (ag.rf _ w).sA (by simp only [List.mem_cons, List.not_mem_nil, or_false]; omega)
  have e31 : gA w1 31 0 = gA w 31 0 := agA g1 31 0
  have e32 : gA w1 32 0 = gA w 32 0 := agA g1 32 0
  obtain ⟨w2, f1, b1, b2⟩ := e_copy_L1 (N := N) (r := r) (i := i) (n := k) (x3 := nI t) (x4 := nI j) hr (by omega) k 0 N w1 (by omega) (by omega) (fun z hz => by omega)
  obtain ⟨w3, f2, d1, d2, d3⟩ := e_copy_L2 (N := N) (t := t) (j := j) (n := k) ht (by omega) k 0 N w2 (by omega) (by omega)
  refine ⟨nI 1, w1, w3, ?_, ?_, o, H, ?_, ?_⟩
  · unfold f_X4_copy; rw [e_isRow_t hr]; simp only [bs, l0, l1, l2, l3, l4, l5, l6, l7, l8, l9, l10, l12, l15, l30, l31, l32, l40, l42, l48, l57, l60, l64, l98, l99, l100, l109, l110, l112, l115, l265, l1000, l518400, ngd, if_true, if_false, bn0, reduceCtorEq, n10, z1, z3, z0]; rw [e_isRow_t ht]; simp only [bs, l0, l1, l2, l3, l4, l5, l6, l7, l8, l9, l10, l12, l15, l30, l31, l32, l40, l42, l48, l57, l60, l64, l98, l99, l100, l109, l110, l112, l115, l265, l1000, l518400, ngd, if_true, if_false, bn0, reduceCtorEq, n10, z1, z3, z0]; rw [iT c5, e_isMissing hr]; simp only [bs, l0, l1, l2, l3, l4, l5, l6, l7, l8, l9, l10, l12, l15, l30, l31, l32, l40, l42, l48, l57, l60, l64, l98, l99, l100, l109, l110, l112, l115, l265, l1000, l518400, ngd, if_true, if_false, bn0, reduceCtorEq, n10, z1, z3, z0]; rw [iT (by simp [hne]), e_isMissing ht]; simp only [bs, l0, l1, l2, l3, l4, l5, l6, l7, l8, l9, l10, l12, l15, l30, l31, l32, l40, l42, l48, l57, l60, l64, l98, l99, l100, l109, l110, l112, l115, l265, l1000, l518400, ngd, if_true, if_false, bn0, reduceCtorEq, n10, z1, z3, z0]; rw [iT (by simp [hne']), e_hasPl_t hr hn s1 (by omega)]; simp only [bs, l0, l1, l2, l3, l4, l5, l6, l7, l8, l9, l10, l12, l15, l30, l31, l32, l40, l42, l48, l57, l60, l64, l98, l99, l100, l109, l110, l112, l115, l265, l1000, l518400, ngd, if_true, if_false, bn0, reduceCtorEq, n10, z1, z3, z0]; rw [e_hasPl_t ht hn' t1 (by omega)]; simp only [bs, l0, l1, l2, l3, l4, l5, l6, l7, l8, l9, l10, l12, l15, l30, l31, l32, l40, l42, l48, l57, l60, l64, l98, l99, l100, l109, l110, l112, l115, l265, l1000, l518400, ngd, if_true, if_false, bn0, reduceCtorEq, n10, z1, z3, z0]
    rw [gd_in hr (by omega), gd_in ht (by omega), nI_clamp (by omega), nI_clamp (by omega), nI_clamp (by omega), nI_clamp (by omega), nI_clamp (by omega), hw1]
    rw [gd_t ⟨nI_nlt (by omega) (by omega), nI_nlt (by omega) (by omega), nI_nlt (by omega) (by omega), by omega, by omega⟩]
  · unfold f_X5_copy; rw [e_misRow_t hr]; simp only [bs, l0, l1, l2, l3, l4, l5, l6, l7, l8, l9, l10, l12, l15, l30, l31, l32, l40, l42, l48, l57, l60, l64, l98, l99, l100, l109, l110, l112, l115, l265, l1000, l518400, ngd, if_true, if_false, bn0, reduceCtorEq, n10, z1, z3, z0]; rw [e_misRow_t ht]; simp only [bs, l0, l1, l2, l3, l4, l5, l6, l7, l8, l9, l10, l12, l15, l30, l31, l32, l40, l42, l48, l57, l60, l64, l98, l99, l100, l109, l110, l112, l115, l265, l1000, l518400, ngd, if_true, if_false, bn0, reduceCtorEq, n10, z1, z3, z0]
    rw [iT c5, gd_in hr (by omega), gd_in hr (by omega), nI_clamp (by omega), e31, s2, iF (nI_nlt (by omega) (by omega)), gd_in ht (by omega), gd_in ht (by omega), nI_clamp (by omega), t2, iT (nI_le (by omega) (by omega)), iF (nI_nlt (by omega) (by omega)), iF (nI_nlt (by omega) (by omega))]
    rw [iF (fun q => by have := (l64lt (by omega)).mp (lgt.mp q); rw [nI_toInt (by omega), nI_toInt (by omega)] at this; omega), iT (lle.mpr ((l64le (by omega)).mpr (by rw [nI_toInt (by omega), nI_toInt (by omega)]; omega))), f1]
    simp only [bs, l0, l1, l2, l3, l4, l5, l6, l7, l8, l9, l10, l12, l15, l30, l31, l32, l40, l42, l48, l57, l60, l64, l98, l99, l100, l109, l110, l112, l115, l265, l1000, l518400, ngd, if_true, if_false, bn0, reduceCtorEq, n10, z1, z3, z0]
    rw [f2]
    simp only [bs, l0, l1, l2, l3, l4, l5, l6, l7, l8, l9, l10, l12, l15, l30, l31, l32, l40, l42, l48, l57, l60, l64, l98, l99, l100, l109, l110, l112, l115, l265, l1000, l518400, ngd, if_true, if_false, bn0, reduceCtorEq, n10, z1, z3, z0]
  · have g2 : ag [11, 1011, 2011, 3011, 4011, 5011, 33, 32] w w3 := ((g1.mono (by decide)).tr (b1.mono (by decide))).tr (d1.mono (by decide))
    obtain ⟨h1, h2, h3, h4, h5', h6, h7', h8, h9⟩ := hW
    refine ⟨h1, h2, RO_ag h3 g2, RM_ag h4 g2, fun q hq => ⟨?_, fun z hz => ?_⟩, Itx_ag h6 g2, Iht_ag h7' g2, Ikp_ag h8 g2, Ist_ag h9 g2⟩
    · rw [agA g2 12 0, agA g2 31 0]; exact (h5' q hq).1
    · have eC : gA w3 11 q = if q = t then va_cpy (gA w 11 r) (gA w 11 t) i j k else gA w 11 q := by
        rw [d1.2.2 11 q (by simp; omega) (by decide), b1.2.2 11 q (by simp; omega) (by decide), hw1, gA_sA]; simp
      have eM : gA w2 32 0 = gA w 32 0 := by rw [agA b1 32 0, e32]
      rw [eC]
      by_cases c : q = t
      · subst c
        rw [if_pos rfl]
        by_cases c2 : j ≤ z ∧ z < j + k
        · rw [pk_cpy_in c2.1 c2.2]
          have h0 := d2 (z - j) (by omega) (by omega)
          rw [show 40 * q + (j + (z - j)) = 40 * q + z by omega] at h0
          rw [h0, b2 _ (by omega), e32]
          exact hc _ (by omega)
        · rw [pk_cpy_out (by omega), d3 _ (by omega), eM]; exact hc' z hz
      · rw [if_neg c, d3 _ (by omega), eM]; exact (h5' q hq).2 z hz
  · exact Itl_ag hT (((g1.mono (by decide)).tr (b1.mono (by decide))).tr (d1.mono (by decide)) : ag [11, 1011, 2011, 3011, 4011, 5011, 33, 32] w w3)
