theorem e_misses_m {N r : Nat} {a : Int32} {w : Wd} (hr : r < 6) (h : gA w 12 0 r = ng 1) : f_X1_missesPlace N (nI r) a w = some (nI 1, w) := by
  unfold f_X1_missesPlace
  rw [e_isMissing hr]
  simp only [bs, l0, l1, l2, l3, l4, l5, l6, l7, l8, l9, l10, l12, l15, l30, l31, l32, l40, l42, l48, l57, l60, l64, l98, l99, l100, l109, l110, l112, l115, l265, l1000, l518400, ngd, if_true, if_false, bn0, reduceCtorEq, n10, z1, z3, z0]
  rw [iF (by simp [h])]
theorem e_misses_f {N r n : Nat} {a : Int32} {w : Wd} (hr : r < 6) (hn : n ≤ 40) (h : gA w 12 0 r = nI n) (ha : a.toInt < 0 ∨ (n : Int) ≤ a.toInt) : f_X1_missesPlace N (nI r) a w = some (nI 2, w) := by
  have hne : ¬ gA w 12 0 r = ng 1 := by rw [h, nI_ng (by omega) (by omega) (by omega)]; simp
  unfold f_X1_missesPlace
  rw [e_isMissing hr]
  simp only [bs, l0, l1, l2, l3, l4, l5, l6, l7, l8, l9, l10, l12, l15, l30, l31, l32, l40, l42, l48, l57, l60, l64, l98, l99, l100, l109, l110, l112, l115, l265, l1000, l518400, ngd, if_true, if_false, bn0, reduceCtorEq, n10, z1, z3, z0]
  rw [iT (by simp [hne])]
  rcases ha with ha | ha
  · rw [iT (neg0 ha)]
  · rw [iF (fun q => by have := (clt (n := 0) (by omega)).mp q; omega), gd_in hr (by omega), nI_clamp (by omega), h, iF (fun q => by have := (clt (by omega)).mp q; omega)]
theorem e_misses_t {N r n i : Nat} {w : Wd} (hr : r < 6) (hn : n ≤ 40) (h : gA w 12 0 r = nI n) (hi : i < n) : f_X1_missesPlace N (nI r) (nI i) w = some (nI 0, w) := by
  have hne : ¬ gA w 12 0 r = ng 1 := by rw [h, nI_ng (by omega) (by omega) (by omega)]; simp
  unfold f_X1_missesPlace
  rw [e_isMissing hr]
  simp only [bs, l0, l1, l2, l3, l4, l5, l6, l7, l8, l9, l10, l12, l15, l30, l31, l32, l40, l42, l48, l57, l60, l64, l98, l99, l100, l109, l110, l112, l115, l265, l1000, l518400, ngd, if_true, if_false, bn0, reduceCtorEq, n10, z1, z3, z0]
  rw [iT (by simp [hne]), iF (nI_nlt (by omega) (by omega)), gd_in hr (by omega), nI_clamp (by omega), h, iT (nI_lt hi (by omega))]
/-- what at answers, both -/
theorem ok_at {N : Nat} : Ok_at N Inv := fun a1 a2 w hI => by
  obtain ⟨o, H, hW, hT⟩ := hI
  rcases cix a1 (n := 6) (by omega) with h | ⟨r, hr, rfl⟩
  · refine ⟨ng 1, w, w, ?_, ?_, o, H, hW, hT⟩
    · unfold f_X4_at; rw [e_isRow_f h]; simp only [bs, l0, l1, l2, l3, l4, l5, l6, l7, l8, l9, l10, l12, l15, l30, l31, l32, l40, l42, l48, l57, l60, l64, l98, l99, l100, l109, l110, l112, l115, l265, l1000, l518400, ngd, if_true, if_false, bn0, reduceCtorEq, n10, z1, z3, z0]
    · unfold f_X5_at; rw [e_askedRow_f h]; simp only [bs, l0, l1, l2, l3, l4, l5, l6, l7, l8, l9, l10, l12, l15, l30, l31, l32, l40, l42, l48, l57, l60, l64, l98, l99, l100, l109, l110, l112, l115, l265, l1000, l518400, ngd, if_true, if_false, bn0, reduceCtorEq, n10, z1, z3, z0]
  · obtain ⟨hs, hc⟩ := hW.2.2.2.2.1 r hr
    rcases hs with ⟨s1, s2⟩ | ⟨n, hn, s1, s2⟩
    · refine ⟨ng 3, cref 1 w, mref 1 (cref 1 w), ?_, ?_, Inv_ref0 hW hT⟩
      · unfold f_X4_at; rw [e_isRow_t hr]; simp only [bs, l0, l1, l2, l3, l4, l5, l6, l7, l8, l9, l10, l12, l15, l30, l31, l32, l40, l42, l48, l57, l60, l64, l98, l99, l100, l109, l110, l112, l115, l265, l1000, l518400, ngd, if_true, if_false, bn0, reduceCtorEq, n10, z1, z3, z0]; rw [e_misses_m hr s1]; simp only [bs, l0, l1, l2, l3, l4, l5, l6, l7, l8, l9, l10, l12, l15, l30, l31, l32, l40, l42, l48, l57, l60, l64, l98, l99, l100, l109, l110, l112, l115, l265, l1000, l518400, ngd, if_true, if_false, bn0, reduceCtorEq, n10, z1, z3, z0]; rw [e_refuse (by omega)]; simp only [bs, l0, l1, l2, l3, l4, l5, l6, l7, l8, l9, l10, l12, l15, l30, l31, l32, l40, l42, l48, l57, l60, l64, l98, l99, l100, l109, l110, l112, l115, l265, l1000, l518400, ngd, if_true, if_false, bn0, reduceCtorEq, n10, z1, z3, z0]
      · unfold f_X5_at; rw [e_askedRow_m hr (by rw [agA (cref_ag 1 w) 31 0]; exact s2)]; simp only [bs, l0, l1, l2, l3, l4, l5, l6, l7, l8, l9, l10, l12, l15, l30, l31, l32, l40, l42, l48, l57, l60, l64, l98, l99, l100, l109, l110, l112, l115, l265, l1000, l518400, ngd, if_true, if_false, bn0, reduceCtorEq, n10, z1, z3, z0]
    · rcases cix a2 (n := n) (by omega) with h | ⟨i, hi, rfl⟩
      · refine ⟨ng 3, cref 2 w, mref 2 (cref 2 w), ?_, ?_, Inv_ref0 hW hT⟩
        · unfold f_X4_at; rw [e_isRow_t hr]; simp only [bs, l0, l1, l2, l3, l4, l5, l6, l7, l8, l9, l10, l12, l15, l30, l31, l32, l40, l42, l48, l57, l60, l64, l98, l99, l100, l109, l110, l112, l115, l265, l1000, l518400, ngd, if_true, if_false, bn0, reduceCtorEq, n10, z1, z3, z0]; rw [e_misses_f hr hn s1 h]; simp only [bs, l0, l1, l2, l3, l4, l5, l6, l7, l8, l9, l10, l12, l15, l30, l31, l32, l40, l42, l48, l57, l60, l64, l98, l99, l100, l109, l110, l112, l115, l265, l1000, l518400, ngd, if_true, if_false, bn0, reduceCtorEq, n10, z1, z3, z0]; rw [iF (by decide), e_refuse (by omega)]; simp only [bs, l0, l1, l2, l3, l4, l5, l6, l7, l8, l9, l10, l12, l15, l30, l31, l32, l40, l42, l48, l57, l60, l64, l98, l99, l100, l109, l110, l112, l115, l265, l1000, l518400, ngd, if_true, if_false, bn0, reduceCtorEq, n10, z1, z3, z0]
        · unfold f_X5_at; rw [e_askedRow_t hr (n := n) (by omega) (by rw [agA (cref_ag 2 w) 31 0]; exact s2)]; simp only [bs, l0, l1, l2, l3, l4, l5, l6, l7, l8, l9, l10, l12, l15, l30, l31, l32, l40, l42, l48, l57, l60, l64, l98, l99, l100, l109, l110, l112, l115, l265, l1000, l518400, ngd, if_true, if_false, bn0, reduceCtorEq, n10, z1, z3, z0]; rw [gd_in hr (by omega), nI_clamp (by omega), agA (cref_ag 2 w) 31 0, s2, e_in_f (n := n) (by omega) h (nn1 (by omega))]; simp only [bs, l0, l1, l2, l3, l4, l5, l6, l7, l8, l9, l10, l12, l15, l30, l31, l32, l40, l42, l48, l57, l60, l64, l98, l99, l100, l109, l110, l112, l115, l265, l1000, l518400, ngd, if_true, if_false, bn0, reduceCtorEq, n10, z1, z3, z0]; rw [e_meet (by omega)]; simp only [bs, l0, l1, l2, l3, l4, l5, l6, l7, l8, l9, l10, l12, l15, l30, l31, l32, l40, l42, l48, l57, l60, l64, l98, l99, l100, l109, l110, l112, l115, l265, l1000, l518400, ngd, if_true, if_false, bn0, reduceCtorEq, n10, z1, z3, z0]
      · refine ⟨nI 1, sI w 412 0 (gA w 11 r i), sI (sI w 412 0 (gA w 11 r i)) 502 0 (gA w 11 r i), ?_, ?_, Inv_ask hW hT (ag.rf [] _)⟩
        · unfold f_X4_at; rw [e_isRow_t hr]; simp only [bs, l0, l1, l2, l3, l4, l5, l6, l7, l8, l9, l10, l12, l15, l30, l31, l32, l40, l42, l48, l57, l60, l64, l98, l99, l100, l109, l110, l112, l115, l265, l1000, l518400, ngd, if_true, if_false, bn0, reduceCtorEq, n10, z1, z3, z0]; rw [e_misses_t hr hn s1 hi]; simp only [bs, l0, l1, l2, l3, l4, l5, l6, l7, l8, l9, l10, l12, l15, l30, l31, l32, l40, l42, l48, l57, l60, l64, l98, l99, l100, l109, l110, l112, l115, l265, l1000, l518400, ngd, if_true, if_false, bn0, reduceCtorEq, n10, z1, z3, z0]; rw [gd_in hr (by omega), gd_in (by omega) (by omega), nI_clamp (by omega), nI_clamp (by omega)]
        · have e31 : gA (sI w 412 0 (gA w 11 r i)) 31 0 r = nI n := s2
          unfold f_X5_at; rw [e_askedRow_t hr (n := n) (by omega) e31]; simp only [bs, l0, l1, l2, l3, l4, l5, l6, l7, l8, l9, l10, l12, l15, l30, l31, l32, l40, l42, l48, l57, l60, l64, l98, l99, l100, l109, l110, l112, l115, l265, l1000, l518400, ngd, if_true, if_false, bn0, reduceCtorEq, n10, z1, z3, z0]; rw [gd_in hr (by omega), nI_clamp (by omega), e31, e_in_t (n := n) (by omega) hi (nn1 (by omega))]; simp only [bs, l0, l1, l2, l3, l4, l5, l6, l7, l8, l9, l10, l12, l15, l30, l31, l32, l40, l42, l48, l57, l60, l64, l98, l99, l100, l109, l110, l112, l115, l265, l1000, l518400, ngd, if_true, if_false, bn0, reduceCtorEq, n10, z1, z3, z0]; rw [e_rowAt hr (by omega)]; simp only [bs, l0, l1, l2, l3, l4, l5, l6, l7, l8, l9, l10, l12, l15, l30, l31, l32, l40, l42, l48, l57, l60, l64, l98, l99, l100, l109, l110, l112, l115, l265, l1000, l518400, ngd, if_true, if_false, bn0, reduceCtorEq, n10, z1, z3, z0]; rw [e_ask, hc i (by omega)]; rfl
theorem ok_lay {N : Nat} : Ok_lay N Inv := fun a1 a2 a3 w hI => by
  obtain ⟨o, H, hW, hT⟩ := hI
  rcases cix a1 (n := 6) (by omega) with h | ⟨r, hr, rfl⟩
  · refine ⟨ng 1, w, w, ?_, ?_, o, H, hW, hT⟩
    · unfold f_X4_lay; rw [e_isRow_f h]; simp only [bs, l0, l1, l2, l3, l4, l5, l6, l7, l8, l9, l10, l12, l15, l30, l31, l32, l40, l42, l48, l57, l60, l64, l98, l99, l100, l109, l110, l112, l115, l265, l1000, l518400, ngd, if_true, if_false, bn0, reduceCtorEq, n10, z1, z3, z0]
    · unfold f_X5_lay f_X5_at; rw [e_askedRow_f h]; simp only [bs, l0, l1, l2, l3, l4, l5, l6, l7, l8, l9, l10, l12, l15, l30, l31, l32, l40, l42, l48, l57, l60, l64, l98, l99, l100, l109, l110, l112, l115, l265, l1000, l518400, ngd, if_true, if_false, bn0, reduceCtorEq, n10, z1, z3, z0]
  · obtain ⟨hs, hc⟩ := hW.2.2.2.2.1 r hr
    rcases hs with ⟨s1, s2⟩ | ⟨n, hn, s1, s2⟩
    · refine ⟨ng 3, cref 1 w, mref 1 (cref 1 w), ?_, ?_, Inv_ref0 hW hT⟩
      · unfold f_X4_lay; rw [e_isRow_t hr]; simp only [bs, l0, l1, l2, l3, l4, l5, l6, l7, l8, l9, l10, l12, l15, l30, l31, l32, l40, l42, l48, l57, l60, l64, l98, l99, l100, l109, l110, l112, l115, l265, l1000, l518400, ngd, if_true, if_false, bn0, reduceCtorEq, n10, z1, z3, z0]; rw [e_misses_m hr s1]; simp only [bs, l0, l1, l2, l3, l4, l5, l6, l7, l8, l9, l10, l12, l15, l30, l31, l32, l40, l42, l48, l57, l60, l64, l98, l99, l100, l109, l110, l112, l115, l265, l1000, l518400, ngd, if_true, if_false, bn0, reduceCtorEq, n10, z1, z3, z0]; rw [e_refuse (by omega)]; simp only [bs, l0, l1, l2, l3, l4, l5, l6, l7, l8, l9, l10, l12, l15, l30, l31, l32, l40, l42, l48, l57, l60, l64, l98, l99, l100, l109, l110, l112, l115, l265, l1000, l518400, ngd, if_true, if_false, bn0, reduceCtorEq, n10, z1, z3, z0]
      · unfold f_X5_lay f_X5_at; rw [e_askedRow_m hr (by rw [agA (cref_ag 1 w) 31 0]; exact s2)]; simp only [bs, l0, l1, l2, l3, l4, l5, l6, l7, l8, l9, l10, l12, l15, l30, l31, l32, l40, l42, l48, l57, l60, l64, l98, l99, l100, l109, l110, l112, l115, l265, l1000, l518400, ngd, if_true, if_false, bn0, reduceCtorEq, n10, z1, z3, z0]
    · rcases cix a2 (n := n) (by omega) with h | ⟨i, hi, rfl⟩
      · refine ⟨ng 3, cref 2 w, mref 2 (cref 2 w), ?_, ?_, Inv_ref0 hW hT⟩
        · unfold f_X4_lay; rw [e_isRow_t hr]; simp only [bs, l0, l1, l2, l3, l4, l5, l6, l7, l8, l9, l10, l12, l15, l30, l31, l32, l40, l42, l48, l57, l60, l64, l98, l99, l100, l109, l110, l112, l115, l265, l1000, l518400, ngd, if_true, if_false, bn0, reduceCtorEq, n10, z1, z3, z0]; rw [e_misses_f hr hn s1 h]; simp only [bs, l0, l1, l2, l3, l4, l5, l6, l7, l8, l9, l10, l12, l15, l30, l31, l32, l40, l42, l48, l57, l60, l64, l98, l99, l100, l109, l110, l112, l115, l265, l1000, l518400, ngd, if_true, if_false, bn0, reduceCtorEq, n10, z1, z3, z0]; rw [iF (by decide), e_refuse (by omega)]; simp only [bs, l0, l1, l2, l3, l4, l5, l6, l7, l8, l9, l10, l12, l15, l30, l31, l32, l40, l42, l48, l57, l60, l64, l98, l99, l100, l109, l110, l112, l115, l265, l1000, l518400, ngd, if_true, if_false, bn0, reduceCtorEq, n10, z1, z3, z0]
        · unfold f_X5_lay f_X5_at; rw [e_askedRow_t hr (n := n) (by omega) (by rw [agA (cref_ag 2 w) 31 0]; exact s2)]; simp only [bs, l0, l1, l2, l3, l4, l5, l6, l7, l8, l9, l10, l12, l15, l30, l31, l32, l40, l42, l48, l57, l60, l64, l98, l99, l100, l109, l110, l112, l115, l265, l1000, l518400, ngd, if_true, if_false, bn0, reduceCtorEq, n10, z1, z3, z0]; rw [gd_in hr (by omega), nI_clamp (by omega), agA (cref_ag 2 w) 31 0, s2, e_in_f (n := n) (by omega) h (nn1 (by omega))]; simp only [bs, l0, l1, l2, l3, l4, l5, l6, l7, l8, l9, l10, l12, l15, l30, l31, l32, l40, l42, l48, l57, l60, l64, l98, l99, l100, l109, l110, l112, l115, l265, l1000, l518400, ngd, if_true, if_false, bn0, reduceCtorEq, n10, z1, z3, z0]; rw [e_meet (by omega)]; simp only [bs, l0, l1, l2, l3, l4, l5, l6, l7, l8, l9, l10, l12, l15, l30, l31, l32, l40, l42, l48, l57, l60, l64, l98, l99, l100, l109, l110, l112, l115, l265, l1000, l518400, ngd, if_true, if_false, bn0, reduceCtorEq, n10, z1, z3, z0]
      · have ec : gA w 32 0 (40 * r + i) = gA w 11 r i := (hc i (by omega)).symm
        have hW1 : IW o H (sA (sA w 11 r (upd (gA w 11 r) i a3)) 32 0 (upd (gA w 32 0) (40 * r + i) a3)) := by
          have g : ag [11, 1011, 2011, 3011, 4011, 5011, 32] w (sA (sA w 11 r (upd (gA w 11 r) i a3)) 32 0 (upd (gA w 32 0) (40 * r + i) a3)) := ((ag.rf _ w).sA (by simp only [List.mem_cons, List.not_mem_nil, or_false]; omega)).sA (by simp)
          obtain ⟨h1, h2, h3, h4, h5, h6, h7, h8, h9⟩ := hW
          refine ⟨h1, h2, RO_ag h3 g, RM_ag h4 g, fun q hq => ?_, Itx_ag h6 g, Iht_ag h7 g, Ikp_ag h8 g, Ist_ag h9 g⟩
          refine ⟨by rw [agA g 12 0, agA g 31 0]; exact (h5 q hq).1, fun j hj => ?_⟩
          have eA : gA (sA (sA w 11 r (upd (gA w 11 r) i a3)) 32 0 (upd (gA w 32 0) (40 * r + i) a3)) 11 q = if q = r then upd (gA w 11 r) i a3 else gA w 11 q := by
            rw [gA_sA, if_neg (by simp), gA_sA]; simp
          have eB : gA (sA (sA w 11 r (upd (gA w 11 r) i a3)) 32 0 (upd (gA w 32 0) (40 * r + i) a3)) 32 0 = upd (gA w 32 0) (40 * r + i) a3 := by
            rw [gA_sA]; simp
          rw [eA, eB]
          by_cases c : q = r
          · subst c
            rw [if_pos rfl]
            by_cases c2 : j = i
            · subst c2; rw [pk_us, pk_us]
            · rw [pk_un c2, pk_un (by omega)]; exact (h5 q hq).2 j hj
          · rw [if_neg c, pk_un (by omega)]; exact (h5 q hq).2 j hj
        refine ⟨nI 1, sA (sI w 412 0 (gA w 11 r i)) 11 r (upd (gA w 11 r) i a3), sA (sI (sA (sI w 412 0 (gA w 11 r i)) 11 r (upd (gA w 11 r) i a3)) 502 0 (gA w 11 r i)) 32 0 (upd (gA w 32 0) (40 * r + i) a3), ?_, ?_, ?_⟩
        · unfold f_X4_lay; rw [e_isRow_t hr]; simp only [bs, l0, l1, l2, l3, l4, l5, l6, l7, l8, l9, l10, l12, l15, l30, l31, l32, l40, l42, l48, l57, l60, l64, l98, l99, l100, l109, l110, l112, l115, l265, l1000, l518400, ngd, if_true, if_false, bn0, reduceCtorEq, n10, z1, z3, z0]; rw [e_misses_t hr hn s1 hi]; simp only [bs, l0, l1, l2, l3, l4, l5, l6, l7, l8, l9, l10, l12, l15, l30, l31, l32, l40, l42, l48, l57, l60, l64, l98, l99, l100, l109, l110, l112, l115, l265, l1000, l518400, ngd, if_true, if_false, bn0, reduceCtorEq, n10, z1, z3, z0]; rw [gd_in hr (by omega), gd_in (by omega) (by omega), gd_in hr (by omega), gd_in (by omega) (by omega), nI_clamp (by omega), nI_clamp (by omega)]; rfl
        · have e31 : gA (sA (sI w 412 0 (gA w 11 r i)) 11 r (upd (gA w 11 r) i a3)) 31 0 r = nI n := by rw [gA_sA, if_neg (by simp)]; exact s2
          have e32 : gA (sA (sI w 412 0 (gA w 11 r i)) 11 r (upd (gA w 11 r) i a3)) 32 0 = gA w 32 0 := by rw [gA_sA, if_neg (by simp)]; rfl
          unfold f_X5_lay f_X5_at; rw [e_askedRow_t hr (n := n) (by omega) e31]; simp only [bs, l0, l1, l2, l3, l4, l5, l6, l7, l8, l9, l10, l12, l15, l30, l31, l32, l40, l42, l48, l57, l60, l64, l98, l99, l100, l109, l110, l112, l115, l265, l1000, l518400, ngd, if_true, if_false, bn0, reduceCtorEq, n10, z1, z3, z0]; rw [gd_in hr (by omega), nI_clamp (by omega), e31, e_in_t (n := n) (by omega) hi (nn1 (by omega))]; simp only [bs, l0, l1, l2, l3, l4, l5, l6, l7, l8, l9, l10, l12, l15, l30, l31, l32, l40, l42, l48, l57, l60, l64, l98, l99, l100, l109, l110, l112, l115, l265, l1000, l518400, ngd, if_true, if_false, bn0, reduceCtorEq, n10, z1, z3, z0]; rw [e_rowAt hr (by omega)]; simp only [bs, l0, l1, l2, l3, l4, l5, l6, l7, l8, l9, l10, l12, l15, l30, l31, l32, l40, l42, l48, l57, l60, l64, l98, l99, l100, l109, l110, l112, l115, l265, l1000, l518400, ngd, if_true, if_false, bn0, reduceCtorEq, n10, z1, z3, z0]; rw [e_ask, e32, ec]; simp only [bs, l0, l1, l2, l3, l4, l5, l6, l7, l8, l9, l10, l12, l15, l30, l31, l32, l40, l42, l48, l57, l60, l64, l98, l99, l100, l109, l110, l112, l115, l265, l1000, l518400, ngd, if_true, if_false, bn0, reduceCtorEq, n10, z1, z3, z0]; rw [iT (by decide), e_setRow hr (by omega)]; simp only [bs, l0, l1, l2, l3, l4, l5, l6, l7, l8, l9, l10, l12, l15, l30, l31, l32, l40, l42, l48, l57, l60, l64, l98, l99, l100, l109, l110, l112, l115, l265, l1000, l518400, ngd, if_true, if_false, bn0, reduceCtorEq, n10, z1, z3, z0]; rw [show gA (sI (sA (sI w 412 0 (gA w 11 r i)) 11 r (upd (gA w 11 r) i a3)) 502 0 (gA w 11 r i)) 32 0 = gA w 32 0 from e32]
        · refine ⟨o, H, ?_, ?_⟩
          · refine IW_ag (S := [412, 502]) hW1 ⟨fun f i hn hl => ?_, fun f i hn hl => rfl, fun f i hn hl => rfl⟩
            simp only [List.mem_cons, List.not_mem_nil, or_false, not_or] at hn
            show (if f = 502 ∧ i = 0 then _ else if f = 412 ∧ i = 0 then _ else gI w f i) = gI w f i
            rw [if_neg (by rintro ⟨rfl, rfl⟩; exact hn.2 rfl), if_neg (by rintro ⟨rfl, rfl⟩; exact hn.1 rfl)]
          · obtain ⟨t1, t2, t3, t4, t5⟩ := hT
            refine ⟨rfl, t2, t3, t4, fun f hf => ?_⟩
            simp only [gA_sA, gA_sI]
            simpa using t5 f hf
theorem ok_tear {N : Nat} : Ok_tear N Inv := fun a1 w hI => by
  obtain ⟨o, H, hW, hT⟩ := hI
  rcases cix a1 (n := 6) (by omega) with h | ⟨r, hr, rfl⟩
  · refine ⟨ng 1, w, w, ?_, ?_, o, H, hW, hT⟩
    · unfold f_X4_tear; rw [e_isRow_f h]; simp only [bs, l0, l1, l2, l3, l4, l5, l6, l7, l8, l9, l10, l12, l15, l30, l31, l32, l40, l42, l48, l57, l60, l64, l98, l99, l100, l109, l110, l112, l115, l265, l1000, l518400, ngd, if_true, if_false, bn0, reduceCtorEq, n10, z1, z3, z0]
    · unfold f_X5_tear; rw [e_askedRow_f h]; simp only [bs, l0, l1, l2, l3, l4, l5, l6, l7, l8, l9, l10, l12, l15, l30, l31, l32, l40, l42, l48, l57, l60, l64, l98, l99, l100, l109, l110, l112, l115, l265, l1000, l518400, ngd, if_true, if_false, bn0, reduceCtorEq, n10, z1, z3, z0]
  · obtain ⟨hs, hc⟩ := hW.2.2.2.2.1 r hr
    rcases hs with ⟨s1, s2⟩ | ⟨n, hn, s1, s2⟩
    · refine ⟨ng 3, cref 1 w, mref 1 (cref 1 w), ?_, ?_, Inv_ref0 hW hT⟩
      · unfold f_X4_tear; rw [e_isRow_t hr]; simp only [bs, l0, l1, l2, l3, l4, l5, l6, l7, l8, l9, l10, l12, l15, l30, l31, l32, l40, l42, l48, l57, l60, l64, l98, l99, l100, l109, l110, l112, l115, l265, l1000, l518400, ngd, if_true, if_false, bn0, reduceCtorEq, n10, z1, z3, z0]; rw [e_isMissing hr]; simp only [bs, l0, l1, l2, l3, l4, l5, l6, l7, l8, l9, l10, l12, l15, l30, l31, l32, l40, l42, l48, l57, l60, l64, l98, l99, l100, l109, l110, l112, l115, l265, l1000, l518400, ngd, if_true, if_false, bn0, reduceCtorEq, n10, z1, z3, z0]; rw [iF (by simp [s1]), e_refuse (by omega)]; simp only [bs, l0, l1, l2, l3, l4, l5, l6, l7, l8, l9, l10, l12, l15, l30, l31, l32, l40, l42, l48, l57, l60, l64, l98, l99, l100, l109, l110, l112, l115, l265, l1000, l518400, ngd, if_true, if_false, bn0, reduceCtorEq, n10, z1, z3, z0]
      · unfold f_X5_tear; rw [e_askedRow_m hr (by rw [agA (cref_ag 1 w) 31 0]; exact s2)]; simp only [bs, l0, l1, l2, l3, l4, l5, l6, l7, l8, l9, l10, l12, l15, l30, l31, l32, l40, l42, l48, l57, l60, l64, l98, l99, l100, l109, l110, l112, l115, l265, l1000, l518400, ngd, if_true, if_false, bn0, reduceCtorEq, n10, z1, z3, z0]
    · have hne : ¬ gA w 12 0 r = ng 1 := by rw [s1, nI_ng (by omega) (by omega) (by omega)]; simp
      refine ⟨nI 1, sA w 12 0 (upd (gA w 12 0) r (ng 1)), sA (sA w 12 0 (upd (gA w 12 0) r (ng 1))) 31 0 (upd (gA w 31 0) r (ng 9)), ?_, ?_, o, H, ?_, ?_⟩
      · unfold f_X4_tear; rw [e_isRow_t hr]; simp only [bs, l0, l1, l2, l3, l4, l5, l6, l7, l8, l9, l10, l12, l15, l30, l31, l32, l40, l42, l48, l57, l60, l64, l98, l99, l100, l109, l110, l112, l115, l265, l1000, l518400, ngd, if_true, if_false, bn0, reduceCtorEq, n10, z1, z3, z0]; rw [e_isMissing hr]; simp only [bs, l0, l1, l2, l3, l4, l5, l6, l7, l8, l9, l10, l12, l15, l30, l31, l32, l40, l42, l48, l57, l60, l64, l98, l99, l100, l109, l110, l112, l115, l265, l1000, l518400, ngd, if_true, if_false, bn0, reduceCtorEq, n10, z1, z3, z0]; rw [iT (by simp [hne]), gd_in hr (by omega), nI_clamp (by omega)]
      · have e31 : gA (sA w 12 0 (upd (gA w 12 0) r (ng 1))) 31 0 r = nI n := by rw [gA_sA, if_neg (by simp)]; exact s2
        unfold f_X5_tear; rw [e_askedRow_t hr (n := n) (by omega) e31]; simp only [bs, l0, l1, l2, l3, l4, l5, l6, l7, l8, l9, l10, l12, l15, l30, l31, l32, l40, l42, l48, l57, l60, l64, l98, l99, l100, l109, l110, l112, l115, l265, l1000, l518400, ngd, if_true, if_false, bn0, reduceCtorEq, n10, z1, z3, z0]; rw [gd_in hr (by omega), nI_clamp (by omega)]; rfl
      · have g : ag [12, 31] w (sA (sA w 12 0 (upd (gA w 12 0) r (ng 1))) 31 0 (upd (gA w 31 0) r (ng 9))) := ((ag.rf _ w).sA (by simp)).sA (by simp)
        obtain ⟨h1, h2, h3, h4, h5, h6, h7, h8, h9⟩ := hW
        refine ⟨h1, h2, RO_ag h3 g, RM_ag h4 g, fun q hq => ⟨?_, fun j hj => by rw [g.2.2 11 q (by simp; omega) (by decide), agA g 32 0]; exact (h5 q hq).2 j hj⟩, Itx_ag h6 g, Iht_ag h7 g, Ikp_ag h8 g, Ist_ag h9 g⟩
        rw [gA_sA, if_neg (by simp), gA_sA, if_pos ⟨rfl, rfl⟩, gA_sA, if_pos ⟨rfl, rfl⟩]
        by_cases c : q = r
        · subst c; rw [pk_us, pk_us]; exact Or.inl ⟨rfl, rfl⟩
        · rw [pk_un c, pk_un c]; exact (h5 q hq).1
      · exact Itl_ag hT (((ag.rf [12, 31] w).sA (by simp)).sA (by simp))
theorem e_mean_L {N r n : Nat} {w : Wd} (hr : r < 6) (hn : n ≤ 40) : ∀ (m k F : Nat) (s : Int64), k + m = n → m < F → X4_mean_L1 N (nI r) (nI n) F s (nI k) w = some ((List.range' k m).foldl (fun s j => s + (gA w 11 r j).toInt64) s, w) := by
  intro m
  induction m with
  | zero =>
    intro k F s hk hF
    obtain ⟨F, rfl, _⟩ := fuel_s hF
    rw [X4_mean_L1, iT (nI_le (by omega) (by omega))]; rfl
  | succ m ih =>
    intro k F s hk hF
    obtain ⟨F, rfl, hF'⟩ := fuel_s hF
    rw [X4_mean_L1, iF (nI_ge (by omega) (by omega)), gd_in hr (by omega), gd_in (by omega) (by omega), nI_clamp (by omega), nI_clamp (by omega), nI_add1, ih (k + 1) F _ (by omega) (by omega)]; rfl
theorem e_mmean_L {N r n : Nat} {w : Wd} (hr : r < 6) (hn : n ≤ 40) (h31 : gA w 31 0 r = nI n) (h32 : ∀ j, j < 40 → gA w 11 r j = gA w 32 0 (40 * r + j)) : ∀ (m k F : Nat) (s : Int64), k + m = n → m < F → X5_mean_L1 N (nI r) F s (nI k) w = some ((List.range' k m).foldl (fun s j => s + (gA w 11 r j).toInt64) s, w) := by
  intro m
  induction m with
  | zero =>
    intro k F s hk hF
    obtain ⟨F, rfl, _⟩ := fuel_s hF
    rw [X5_mean_L1, gd_in hr (by omega), nI_clamp (by omega), h31, iT (nI_le (by omega) (by omega))]; rfl
  | succ m ih =>
    intro k F s hk hF
    obtain ⟨F, rfl, hF'⟩ := fuel_s hF
    rw [X5_mean_L1, gd_in hr (by omega), nI_clamp (by omega), h31, iF (nI_ge (by omega) (by omega)), e_rowAt hr (by omega), ← h32 k (by omega)]
    simp only [bs, l0, l1, l2, l3, l4, l5, l6, l7, l8, l9, l10, l12, l15, l30, l31, l32, l40, l42, l48, l57, l60, l64, l98, l99, l100, l109, l110, l112, l115, l265, l1000, l518400, ngd]
    rw [nI_add, ih (k + 1) F _ (by omega) (by omega)]; rfl
theorem l64_0 {n : Nat} (hn : n < 2 ^ 31) (h : n ≠ 0) : ¬ (nI n).toInt64 = (0 : Int64) := by
  rw [nI_l hn, show (0 : Int64) = lN 0 from rfl, lN_eq hn (by omega)]; exact h
theorem ok_mean {N : Nat} (hN : 1000 ≤ N) : Ok_mean N Inv := fun a1 w hI => by
  obtain ⟨o, H, hW, hT⟩ := hI
  rcases cix a1 (n := 6) (by omega) with h | ⟨r, hr, rfl⟩
  · refine ⟨ng 1, w, w, ?_, ?_, o, H, hW, hT⟩
    · unfold f_X4_mean; rw [e_isRow_f h]; simp only [bs, l0, l1, l2, l3, l4, l5, l6, l7, l8, l9, l10, l12, l15, l30, l31, l32, l40, l42, l48, l57, l60, l64, l98, l99, l100, l109, l110, l112, l115, l265, l1000, l518400, ngd, if_true, if_false, bn0, reduceCtorEq, n10, z1, z3, z0]
    · unfold f_X5_mean; rw [e_askedRow_f h]; simp only [bs, l0, l1, l2, l3, l4, l5, l6, l7, l8, l9, l10, l12, l15, l30, l31, l32, l40, l42, l48, l57, l60, l64, l98, l99, l100, l109, l110, l112, l115, l265, l1000, l518400, ngd, if_true, if_false, bn0, reduceCtorEq, n10, z1, z3, z0]
  · obtain ⟨hs, hc⟩ := hW.2.2.2.2.1 r hr
    rcases hs with ⟨s1, s2⟩ | ⟨n, hn, s1, s2⟩
    · refine ⟨ng 3, cref 1 w, mref 1 (cref 1 w), ?_, ?_, Inv_ref0 hW hT⟩
      · unfold f_X4_mean; rw [e_isRow_t hr]; simp only [bs, l0, l1, l2, l3, l4, l5, l6, l7, l8, l9, l10, l12, l15, l30, l31, l32, l40, l42, l48, l57, l60, l64, l98, l99, l100, l109, l110, l112, l115, l265, l1000, l518400, ngd, if_true, if_false, bn0, reduceCtorEq, n10, z1, z3, z0]; rw [e_isMissing hr]; simp only [bs, l0, l1, l2, l3, l4, l5, l6, l7, l8, l9, l10, l12, l15, l30, l31, l32, l40, l42, l48, l57, l60, l64, l98, l99, l100, l109, l110, l112, l115, l265, l1000, l518400, ngd, if_true, if_false, bn0, reduceCtorEq, n10, z1, z3, z0]; rw [iF (by simp [s1]), e_refuse (by omega)]; simp only [bs, l0, l1, l2, l3, l4, l5, l6, l7, l8, l9, l10, l12, l15, l30, l31, l32, l40, l42, l48, l57, l60, l64, l98, l99, l100, l109, l110, l112, l115, l265, l1000, l518400, ngd, if_true, if_false, bn0, reduceCtorEq, n10, z1, z3, z0]
      · unfold f_X5_mean; rw [e_askedRow_m hr (by rw [agA (cref_ag 1 w) 31 0]; exact s2)]; simp only [bs, l0, l1, l2, l3, l4, l5, l6, l7, l8, l9, l10, l12, l15, l30, l31, l32, l40, l42, l48, l57, l60, l64, l98, l99, l100, l109, l110, l112, l115, l265, l1000, l518400, ngd, if_true, if_false, bn0, reduceCtorEq, n10, z1, z3, z0]
    · have hne : ¬ gA w 12 0 r = ng 1 := by rw [s1, nI_ng (by omega) (by omega) (by omega)]; simp
      by_cases c : n = 0
      · subst c
        refine ⟨ng 3, cref 4 w, mref 4 (cref 4 w), ?_, ?_, Inv_ref0 hW hT⟩
        · unfold f_X4_mean; rw [e_isRow_t hr]; simp only [bs, l0, l1, l2, l3, l4, l5, l6, l7, l8, l9, l10, l12, l15, l30, l31, l32, l40, l42, l48, l57, l60, l64, l98, l99, l100, l109, l110, l112, l115, l265, l1000, l518400, ngd, if_true, if_false, bn0, reduceCtorEq, n10, z1, z3, z0]; rw [e_isMissing hr]; simp only [bs, l0, l1, l2, l3, l4, l5, l6, l7, l8, l9, l10, l12, l15, l30, l31, l32, l40, l42, l48, l57, l60, l64, l98, l99, l100, l109, l110, l112, l115, l265, l1000, l518400, ngd, if_true, if_false, bn0, reduceCtorEq, n10, z1, z3, z0]; rw [iT (by simp [hne]), gd_in hr (by omega), nI_clamp (by omega), s1, iT rfl, e_refuse (by omega)]; simp only [bs, l0, l1, l2, l3, l4, l5, l6, l7, l8, l9, l10, l12, l15, l30, l31, l32, l40, l42, l48, l57, l60, l64, l98, l99, l100, l109, l110, l112, l115, l265, l1000, l518400, ngd, if_true, if_false, bn0, reduceCtorEq, n10, z1, z3, z0]
        · have e31 : gA (cref 4 w) 31 0 r = nI 0 := by rw [agA (cref_ag 4 w) 31 0]; exact s2
          unfold f_X5_mean; rw [e_askedRow_t hr (n := 0) (by omega) e31]; simp only [bs, l0, l1, l2, l3, l4, l5, l6, l7, l8, l9, l10, l12, l15, l30, l31, l32, l40, l42, l48, l57, l60, l64, l98, l99, l100, l109, l110, l112, l115, l265, l1000, l518400, ngd, if_true, if_false, bn0, reduceCtorEq, n10, z1, z3, z0]; rw [e_mmean_L hr (n := 0) (by omega) e31 (by rw [(cref_ag 4 w).2.2 11 r (by simp; omega) (by decide), agA (cref_ag 4 w) 32 0]; exact hc) 0 0 N _ (by omega) (by omega)]; simp only [bs, l0, l1, l2, l3, l4, l5, l6, l7, l8, l9, l10, l12, l15, l30, l31, l32, l40, l42, l48, l57, l60, l64, l98, l99, l100, l109, l110, l112, l115, l265, l1000, l518400, ngd, if_true, if_false, bn0, reduceCtorEq, n10, z1, z3, z0]; rw [gd_in hr (by omega), nI_clamp (by omega), e31, iT rfl, e_meet (by omega)]; simp only [bs, l0, l1, l2, l3, l4, l5, l6, l7, l8, l9, l10, l12, l15, l30, l31, l32, l40, l42, l48, l57, l60, l64, l98, l99, l100, l109, l110, l112, l115, l265, l1000, l518400, ngd, if_true, if_false, bn0, reduceCtorEq, n10, z1, z3, z0]
      · obtain ⟨v, hv⟩ : ∃ v, v = (((List.range' 0 n).foldl (fun s j => s + (gA w 11 r j).toInt64) 0) / (nI n).toInt64).toInt32 := ⟨_, rfl⟩
        refine ⟨nI 1, sI w 412 0 v, sI (sI w 412 0 v) 502 0 v, ?_, ?_, Inv_ask hW hT (ag.rf [] _)⟩
        · unfold f_X4_mean; rw [e_isRow_t hr]; simp only [bs, l0, l1, l2, l3, l4, l5, l6, l7, l8, l9, l10, l12, l15, l30, l31, l32, l40, l42, l48, l57, l60, l64, l98, l99, l100, l109, l110, l112, l115, l265, l1000, l518400, ngd, if_true, if_false, bn0, reduceCtorEq, n10, z1, z3, z0]; rw [e_isMissing hr]; simp only [bs, l0, l1, l2, l3, l4, l5, l6, l7, l8, l9, l10, l12, l15, l30, l31, l32, l40, l42, l48, l57, l60, l64, l98, l99, l100, l109, l110, l112, l115, l265, l1000, l518400, ngd, if_true, if_false, bn0, reduceCtorEq, n10, z1, z3, z0]; rw [iT (by simp [hne]), gd_in hr (by omega), nI_clamp (by omega), s1, iF (fun q => c ((nI_eq (by omega) (by omega)).mp q)), e_mean_L hr hn n 0 N _ (by omega) (by omega)]; simp only [bs, l0, l1, l2, l3, l4, l5, l6, l7, l8, l9, l10, l12, l15, l30, l31, l32, l40, l42, l48, l57, l60, l64, l98, l99, l100, l109, l110, l112, l115, l265, l1000, l518400, ngd, if_true, if_false, bn0, reduceCtorEq, n10, z1, z3, z0]; rw [gd_t (l64_0 (by omega) c), hv]
        · have e31 : gA (sI w 412 0 v) 31 0 r = nI n := s2
          have hc' : ∀ j, j < 40 → gA (sI w 412 0 v) 11 r j = gA (sI w 412 0 v) 32 0 (40 * r + j) := hc
          unfold f_X5_mean; rw [e_askedRow_t hr (n := n) (by omega) e31]; simp only [bs, l0, l1, l2, l3, l4, l5, l6, l7, l8, l9, l10, l12, l15, l30, l31, l32, l40, l42, l48, l57, l60, l64, l98, l99, l100, l109, l110, l112, l115, l265, l1000, l518400, ngd, if_true, if_false, bn0, reduceCtorEq, n10, z1, z3, z0]; rw [e_mmean_L hr hn e31 hc' n 0 N _ (by omega) (by omega)]; simp only [bs, l0, l1, l2, l3, l4, l5, l6, l7, l8, l9, l10, l12, l15, l30, l31, l32, l40, l42, l48, l57, l60, l64, l98, l99, l100, l109, l110, l112, l115, l265, l1000, l518400, ngd, if_true, if_false, bn0, reduceCtorEq, n10, z1, z3, z0]; rw [gd_in hr (by omega), nI_clamp (by omega), e31, iF (fun q => c ((nI_eq (by omega) (by omega)).mp q)), gd_in hr (by omega), gd_t (l64_0 (by omega) c), e_ask, hv]; simp only [bs, l0, l1, l2, l3, l4, l5, l6, l7, l8, l9, l10, l12, l15, l30, l31, l32, l40, l42, l48, l57, l60, l64, l98, l99, l100, l109, l110, l112, l115, l265, l1000, l518400, ngd, if_true, if_false, bn0, reduceCtorEq, n10, z1, z3, z0]; rfl
