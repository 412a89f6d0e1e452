/-! texts anew, put -/
theorem e_text_L {N t : Nat} {x2 : Int32} (ht : t < 4) : ∀ (m k F : Nat) (w : Wd), k + m = 60 → m < F → (∀ j, j < k → gA w 35 0 (60 * t + j) = nI 32) → ∃ w', X5_text_L1 N (nI t) x2 F (nI k) w = some w' ∧ ag [35] w w' ∧ (∀ j, j < 60 → gA w' 35 0 (60 * t + j) = nI 32) ∧ ∀ j, (j < 60 * t ∨ 60 * t + 60 ≤ j) → gA w' 35 0 j = gA w 35 0 j := by
  intro m
  induction m with
  | zero =>
    intro k F w hk hF h0
    obtain ⟨F, rfl, _⟩ := fuel_s hF
    rw [X5_text_L1, l60, iT (nI_le (by omega) (by omega))]
    exact ⟨w, rfl, ag.rf _ _, fun j hj => h0 j (by omega), fun _ _ => rfl⟩
  | succ m ih =>
    intro k F w hk hF h0
    obtain ⟨F, rfl, hF'⟩ := fuel_s hF
    rw [X5_text_L1]
    simp only [bs, l0, l1, l2, l3, l4, l5, l6, l7, l8, l9, l10, l12, l15, l30, l31, l32, l40, l42, l48, l57, l60, l64, l98, l99, l100, l109, l110, l112, l115, l265, l1000, l518400, ngd]
    rw [iF (nI_ge (by omega) (by omega)), pk_mul, nI_add, gd_in (by omega) (by omega), nI_clamp (by omega), nI_add]
    obtain ⟨w', e, a1, a2, a3⟩ := ih (k + 1) F (sA w 35 0 (upd (gA w 35 0) (60 * t + k) (nI 32))) (by omega) (by omega) (fun j hj => by
      rw [gA_sA, if_pos ⟨rfl, rfl⟩]
      by_cases q : j = k
      · rw [q, pk_us]
      · rw [pk_un (by omega)]; exact h0 j (by omega))
    refine ⟨w', e, ((ag.rf _ w).sA (by simp)).tr a1, a2, fun j hj => ?_⟩
    rw [a3 j hj, gA_sA, if_pos ⟨rfl, rfl⟩, pk_un (by omega)]
theorem ok_text {N : Nat} (hN : 1000 ≤ N) : Ok_text N Inv := fun a1 a2 w hI => by
  obtain ⟨o, H, hW, hT⟩ := hI
  rcases cix a1 (n := 4) (by omega) with h | ⟨t, ht, rfl⟩
  · refine ⟨ng 1, w, w, ?_, ?_, o, H, hW, hT⟩
    · unfold f_X4_text; rw [e_isText_f h]; simp only [bs, l0, l1, l2, l3, l4, l5, l6, l7, l8, l9, l10, l12, l15, l30, l31, l32, l40, l42, l48, l57, l60, l64, l98, l99, l100, l109, l110, l112, l115, l265, l1000, l518400, ngd, if_true, if_false, bn0, reduceCtorEq, n10, z1, z3, z0]
    · unfold f_X5_text; rw [e_misText_f h]; simp only [bs, l0, l1, l2, l3, l4, l5, l6, l7, l8, l9, l10, l12, l15, l30, l31, l32, l40, l42, l48, l57, l60, l64, l98, l99, l100, l109, l110, l112, l115, l265, l1000, l518400, ngd, if_true, if_false, bn0, reduceCtorEq, n10, z1, z3, z0]
  · rcases cix a2 (n := 61) (by omega) with (h | h) | ⟨n, hn, rfl⟩
    · refine ⟨ng 3, cref 5 w, mref 5 (cref 5 w), ?_, ?_, Inv_ref0 hW hT⟩
      · unfold f_X4_text; rw [e_isText_t ht]; simp only [bs, l0, l1, l2, l3, l4, l5, l6, l7, l8, l9, l10, l12, l15, l30, l31, l32, l40, l42, l48, l57, l60, l64, l98, l99, l100, l109, l110, l112, l115, l265, l1000, l518400, ngd, if_true, if_false, bn0, reduceCtorEq, n10, z1, z3, z0]; simp (disch := omega) only [cle, cge, clt, cgt, iT, iF]; rw [e_refuse (by omega)]; simp only [bs, l0, l1, l2, l3, l4, l5, l6, l7, l8, l9, l10, l12, l15, l30, l31, l32, l40, l42, l48, l57, l60, l64, l98, l99, l100, l109, l110, l112, l115, l265, l1000, l518400, ngd, if_true, if_false, bn0, reduceCtorEq, n10, z1, z3, z0]
      · unfold f_X5_text; rw [e_misText_t ht]; simp only [bs, l0, l1, l2, l3, l4, l5, l6, l7, l8, l9, l10, l12, l15, l30, l31, l32, l40, l42, l48, l57, l60, l64, l98, l99, l100, l109, l110, l112, l115, l265, l1000, l518400, ngd, if_true, if_false, bn0, reduceCtorEq, n10, z1, z3, z0]; simp (disch := omega) only [cle, cge, clt, cgt, iT, iF]; rw [e_meet (by omega)]; simp only [bs, l0, l1, l2, l3, l4, l5, l6, l7, l8, l9, l10, l12, l15, l30, l31, l32, l40, l42, l48, l57, l60, l64, l98, l99, l100, l109, l110, l112, l115, l265, l1000, l518400, ngd, if_true, if_false, bn0, reduceCtorEq, n10, z1, z3, z0]
    · refine ⟨ng 1, w, w, ?_, ?_, o, H, hW, hT⟩
      · unfold f_X4_text; rw [e_isText_t ht]; simp only [bs, l0, l1, l2, l3, l4, l5, l6, l7, l8, l9, l10, l12, l15, l30, l31, l32, l40, l42, l48, l57, l60, l64, l98, l99, l100, l109, l110, l112, l115, l265, l1000, l518400, ngd, if_true, if_false, bn0, reduceCtorEq, n10, z1, z3, z0]; simp (disch := omega) only [cle, cge, clt, cgt, iT, iF]
      · unfold f_X5_text; rw [e_misText_t ht]; simp only [bs, l0, l1, l2, l3, l4, l5, l6, l7, l8, l9, l10, l12, l15, l30, l31, l32, l40, l42, l48, l57, l60, l64, l98, l99, l100, l109, l110, l112, l115, l265, l1000, l518400, ngd, if_true, if_false, bn0, reduceCtorEq, n10, z1, z3, z0]; simp (disch := omega) only [cle, cge, clt, cgt, iT, iF]
    · obtain ⟨w1, e1, a1, a2⟩ := e_fillb (N := N) (g := 14) (i := t) (n := 60) (v := nI 32) (w := w) hN (by omega) rfl
      obtain ⟨wx, hwx⟩ : ∃ wx, wx = sA w1 15 0 (upd (gA w1 15 0) t (nI n)) := ⟨_, rfl⟩
      obtain ⟨w2, e2, b1, b2, b3⟩ := e_text_L (N := N) (x2 := nI n) ht 60 0 N (sA wx 34 0 (upd (gA wx 34 0) t (nI n))) (by omega) (by omega) (fun j hj => by omega)
      have g : ag [14, 1014, 2014, 3014, 15, 34, 35] w w2 := by
        refine (((a1.mono (fun k hk => by simp only [List.mem_cons, List.not_mem_nil, or_false] at hk ⊢; omega)).sA (f := 15) (i := 0) (v := upd (gA w1 15 0) t (nI n)) (by simp)).tr ?_)
        rw [← hwx]
        exact ((ag.rf _ wx).sA (by simp)).tr (b1.mono (by decide))
      refine ⟨nI n, wx, w2, ?_, ?_, o, H, ?_, Itl_ag hT g⟩
      · unfold f_X4_text; rw [e_isText_t ht]; simp only [bs, l0, l1, l2, l3, l4, l5, l6, l7, l8, l9, l10, l12, l15, l30, l31, l32, l40, l42, l48, l57, l60, l64, l98, l99, l100, l109, l110, l112, l115, l265, l1000, l518400, ngd, if_true, if_false, bn0, reduceCtorEq, n10, z1, z3, z0]; simp (disch := omega) only [nI_leI, nI_ltI, nI_eq, iT, iF]; unfold f_X3_renew; rw [gd_in ht (by omega), nI_clamp (by omega)]; simp only [bs, l0, l1, l2, l3, l4, l5, l6, l7, l8, l9, l10, l12, l15, l30, l31, l32, l40, l42, l48, l57, l60, l64, l98, l99, l100, l109, l110, l112, l115, l265, l1000, l518400, ngd, if_true, if_false, bn0, reduceCtorEq, n10, z1, z3, z0]; rw [e1]; simp only [bs, l0, l1, l2, l3, l4, l5, l6, l7, l8, l9, l10, l12, l15, l30, l31, l32, l40, l42, l48, l57, l60, l64, l98, l99, l100, l109, l110, l112, l115, l265, l1000, l518400, ngd, if_true, if_false, bn0, reduceCtorEq, n10, z1, z3, z0]; rw [gd_in ht (by omega), hwx]; simp only [bs, l0, l1, l2, l3, l4, l5, l6, l7, l8, l9, l10, l12, l15, l30, l31, l32, l40, l42, l48, l57, l60, l64, l98, l99, l100, l109, l110, l112, l115, l265, l1000, l518400, ngd, if_true, if_false, bn0, reduceCtorEq, n10, z1, z3, z0]
      · unfold f_X5_text; rw [e_misText_t ht]; simp only [bs, l0, l1, l2, l3, l4, l5, l6, l7, l8, l9, l10, l12, l15, l30, l31, l32, l40, l42, l48, l57, l60, l64, l98, l99, l100, l109, l110, l112, l115, l265, l1000, l518400, ngd, if_true, if_false, bn0, reduceCtorEq, n10, z1, z3, z0]; simp (disch := omega) only [nI_leI, nI_ltI, nI_eq, iT, iF]; rw [gd_in ht (by omega), nI_clamp (by omega), e2]; simp only [bs, l0, l1, l2, l3, l4, l5, l6, l7, l8, l9, l10, l12, l15, l30, l31, l32, l40, l42, l48, l57, l60, l64, l98, l99, l100, l109, l110, l112, l115, l265, l1000, l518400, ngd, if_true, if_false, bn0, reduceCtorEq, n10, z1, z3, z0]
      · obtain ⟨h1, h2, h3, h4, h5, h6, h7, h8, h9⟩ := hW
        refine ⟨h1, h2, RO_ag h3 g, RM_ag h4 g, Iro_ag h5 g, fun q hq => ?_, Iht_ag h7 g, Ikp_ag h8 g, Ist_ag h9 g⟩
        have e15 : gA w2 15 0 = upd (gA w 15 0) t (nI n) := by
          rw [agA b1 15 0, gA_sA, if_neg (by simp), hwx, gA_sA, if_pos ⟨rfl, rfl⟩, a1.2.2 15 0 (by simp; omega) (by decide)]
        have e34 : gA w2 34 0 = upd (gA w 34 0) t (nI n) := by
          rw [agA b1 34 0, gA_sA, if_pos ⟨rfl, rfl⟩, hwx, gA_sA, if_neg (by simp), a1.2.2 34 0 (by simp; omega) (by decide)]
        have e14 : gA w2 14 q = gA w1 14 q := by
          rw [b1.2.2 14 q (by simp; omega) (by decide), gA_sA, if_neg (by simp), hwx, gA_sA, if_neg (by simp)]
        have e35 : gA (sA wx 34 0 (upd (gA wx 34 0) t (nI n))) 35 0 = gA w 35 0 := by
          rw [gA_sA, if_neg (by simp), hwx, gA_sA, if_neg (by simp), a1.2.2 35 0 (by simp; omega) (by decide)]
        rw [e15, e34, e14]
        by_cases c : q = t
        · subst c
          rw [pk_us, pk_us]
          refine ⟨Or.inr ⟨n, by omega, rfl, rfl⟩, fun i hi => ?_⟩
          rw [a2 i hi, b2 i hi, vp_nar_byte]; decide
        · rw [pk_un c, pk_un c]
          refine ⟨(h6 q hq).1, fun i hi => ?_⟩
          rw [a1.2.2 14 q (by simp; omega) (by decide), b3 _ (by omega), e35]; exact (h6 q hq).2 i hi
theorem ok_put {N : Nat} : Ok_put N Inv := fun a1 a2 a3 w hI => by
  obtain ⟨o, H, hW, hT⟩ := hI
  rcases cix a1 (n := 4) (by omega) with h | ⟨r, hr, rfl⟩
  · refine ⟨ng 1, w, w, ?_, ?_, o, H, hW, hT⟩
    · unfold f_X4_put; rw [e_isText_f h]; simp only [bs, l0, l1, l2, l3, l4, l5, l6, l7, l8, l9, l10, l12, l15, l30, l31, l32, l40, l42, l48, l57, l60, l64, l98, l99, l100, l109, l110, l112, l115, l265, l1000, l518400, ngd, if_true, if_false, bn0, reduceCtorEq, n10, z1, z3, z0]
    · unfold f_X5_put; rw [e_askedText_f h]; simp only [bs, l0, l1, l2, l3, l4, l5, l6, l7, l8, l9, l10, l12, l15, l30, l31, l32, l40, l42, l48, l57, l60, l64, l98, l99, l100, l109, l110, l112, l115, l265, l1000, l518400, ngd, if_true, if_false, bn0, reduceCtorEq, n10, z1, z3, z0]
  · obtain ⟨hs, hc⟩ := hW.2.2.2.2.2.1 r hr
    rcases hs with ⟨s1, s2⟩ | ⟨n, hn, s1, s2⟩
    · refine ⟨ng 3, cref 1 w, mref 1 (cref 1 w), ?_, ?_, Inv_ref0 hW hT⟩
      · unfold f_X4_put; rw [e_isText_t hr]; simp only [bs, l0, l1, l2, l3, l4, l5, l6, l7, l8, l9, l10, l12, l15, l30, l31, l32, l40, l42, l48, l57, l60, l64, l98, l99, l100, l109, l110, l112, l115, l265, l1000, l518400, ngd, if_true, if_false, bn0, reduceCtorEq, n10, z1, z3, z0]; rw [e_tisMissing hr]; simp only [bs, l0, l1, l2, l3, l4, l5, l6, l7, l8, l9, l10, l12, l15, l30, l31, l32, l40, l42, l48, l57, l60, l64, l98, l99, l100, l109, l110, l112, l115, l265, l1000, l518400, ngd, if_true, if_false, bn0, reduceCtorEq, n10, z1, z3, z0]; rw [iF (by simp [s1]), e_refuse (by omega)]; simp only [bs, l0, l1, l2, l3, l4, l5, l6, l7, l8, l9, l10, l12, l15, l30, l31, l32, l40, l42, l48, l57, l60, l64, l98, l99, l100, l109, l110, l112, l115, l265, l1000, l518400, ngd, if_true, if_false, bn0, reduceCtorEq, n10, z1, z3, z0]
      · unfold f_X5_put; rw [e_askedText_m hr (by rw [agA (cref_ag 1 w) 34 0]; exact s2)]; simp only [bs, l0, l1, l2, l3, l4, l5, l6, l7, l8, l9, l10, l12, l15, l30, l31, l32, l40, l42, l48, l57, l60, l64, l98, l99, l100, l109, l110, l112, l115, l265, l1000, l518400, ngd, if_true, if_false, bn0, reduceCtorEq, n10, z1, z3, z0]
    · have hne : ¬ gA w 15 0 r = ng 1 := by rw [s1, nI_ng (by omega) (by omega) (by omega)]; simp
      rcases cix a2 (n := n) (by omega) with h | ⟨i, hi, rfl⟩
      · refine ⟨ng 3, cref 2 w, mref 2 (cref 2 w), ?_, ?_, Inv_ref0 hW hT⟩
        · unfold f_X4_put; rw [e_isText_t hr]; simp only [bs, l0, l1, l2, l3, l4, l5, l6, l7, l8, l9, l10, l12, l15, l30, l31, l32, l40, l42, l48, l57, l60, l64, l98, l99, l100, l109, l110, l112, l115, l265, l1000, l518400, ngd, if_true, if_false, bn0, reduceCtorEq, n10, z1, z3, z0]; rw [e_tisMissing hr]; simp only [bs, l0, l1, l2, l3, l4, l5, l6, l7, l8, l9, l10, l12, l15, l30, l31, l32, l40, l42, l48, l57, l60, l64, l98, l99, l100, l109, l110, l112, l115, l265, l1000, l518400, ngd, if_true, if_false, bn0, reduceCtorEq, n10, z1, z3, z0]; rw [iT (by simp [hne]), gd_in hr (by omega), nI_clamp (by omega), s1, e_refuse (by omega)]; simp only [bs, l0, l1, l2, l3, l4, l5, l6, l7, l8, l9, l10, l12, l15, l30, l31, l32, l40, l42, l48, l57, l60, l64, l98, l99, l100, l109, l110, l112, l115, l265, l1000, l518400, ngd, if_true, if_false, bn0, reduceCtorEq, n10, z1, z3, z0]
          rcases h with h | h
          · rw [iT (neg0 h)]
          · rw [iF (fun q => by have := (clt (n := 0) (by omega)).mp q; omega), iF (fun q => by have := (clt (by omega)).mp q; omega)]
        · have e34 : gA (cref 2 w) 34 0 r = nI n := by rw [agA (cref_ag 2 w) 34 0]; exact s2
          unfold f_X5_put; rw [e_askedText_t hr (n := n) (by omega) e34]; simp only [bs, l0, l1, l2, l3, l4, l5, l6, l7, l8, l9, l10, l12, l15, l30, l31, l32, l40, l42, l48, l57, l60, l64, l98, l99, l100, l109, l110, l112, l115, l265, l1000, l518400, ngd, if_true, if_false, bn0, reduceCtorEq, n10, z1, z3, z0]; rw [gd_in hr (by omega), nI_clamp (by omega), e34, e_in_f (n := n) (by omega) h (nn1 (by omega))]; simp only [bs, l0, l1, l2, l3, l4, l5, l6, l7, l8, l9, l10, l12, l15, l30, l31, l32, l40, l42, l48, l57, l60, l64, l98, l99, l100, l109, l110, l112, l115, l265, l1000, l518400, ngd, if_true, if_false, bn0, reduceCtorEq, n10, z1, z3, z0]; rw [e_meet (by omega)]; simp only [bs, l0, l1, l2, l3, l4, l5, l6, l7, l8, l9, l10, l12, l15, l30, l31, l32, l40, l42, l48, l57, l60, l64, l98, l99, l100, l109, l110, l112, l115, l265, l1000, l518400, ngd, if_true, if_false, bn0, reduceCtorEq, n10, z1, z3, z0]
      · obtain ⟨v, hv⟩ : ∃ v, v = a3.toInt8.toInt32 := ⟨_, rfl⟩
        have g : ag [14, 1014, 2014, 3014, 35] w (sA (sA w 14 r (upd (gA w 14 r) i v)) 35 0 (upd (gA w 35 0) (60 * r + i) v)) := ((ag.rf _ w).sA (by simp only [List.mem_cons, List.not_mem_nil, or_false]; omega)).sA (by simp)
        refine ⟨gA w 14 r i + nI 1000, sA w 14 r (upd (gA w 14 r) i v), sA (sA w 14 r (upd (gA w 14 r) i v)) 35 0 (upd (gA w 35 0) (60 * r + i) v), ?_, ?_, o, H, ?_, Itl_ag hT g⟩
        · unfold f_X4_put; rw [e_isText_t hr]; simp only [bs, l0, l1, l2, l3, l4, l5, l6, l7, l8, l9, l10, l12, l15, l30, l31, l32, l40, l42, l48, l57, l60, l64, l98, l99, l100, l109, l110, l112, l115, l265, l1000, l518400, ngd, if_true, if_false, bn0, reduceCtorEq, n10, z1, z3, z0]; rw [e_tisMissing hr]; simp only [bs, l0, l1, l2, l3, l4, l5, l6, l7, l8, l9, l10, l12, l15, l30, l31, l32, l40, l42, l48, l57, l60, l64, l98, l99, l100, l109, l110, l112, l115, l265, l1000, l518400, ngd, if_true, if_false, bn0, reduceCtorEq, n10, z1, z3, z0]; rw [iT (by simp [hne]), iF (nI_nlt (by omega) (by omega)), gd_in hr (by omega), nI_clamp (by omega), s1, iT (nI_lt hi (by omega)), gd_in hr (by omega), gd_in (by omega) (by omega), gd_in hr (by omega), gd_in (by omega) (by omega), nI_clamp (by omega), pk_vb, hv]
        · have e34 : gA (sA w 14 r (upd (gA w 14 r) i v)) 34 0 r = nI n := by rw [gA_sA, if_neg (by simp)]; exact s2
          have e35 : gA (sA w 14 r (upd (gA w 14 r) i v)) 35 0 = gA w 35 0 := by rw [gA_sA, if_neg (by simp)]
          unfold f_X5_put; rw [e_askedText_t hr (n := n) (by omega) e34]; simp only [bs, l0, l1, l2, l3, l4, l5, l6, l7, l8, l9, l10, l12, l15, l30, l31, l32, l40, l42, l48, l57, l60, l64, l98, l99, l100, l109, l110, l112, l115, l265, l1000, l518400, ngd, if_true, if_false, bn0, reduceCtorEq, n10, z1, z3, z0]; rw [gd_in hr (by omega), nI_clamp (by omega), e34, e_in_t (n := n) (by omega) hi (nn1 (by omega))]; simp only [bs, l0, l1, l2, l3, l4, l5, l6, l7, l8, l9, l10, l12, l15, l30, l31, l32, l40, l42, l48, l57, l60, l64, l98, l99, l100, l109, l110, l112, l115, l265, l1000, l518400, ngd, if_true, if_false, bn0, reduceCtorEq, n10, z1, z3, z0]; rw [pk_mul, nI_add, gd_in (by omega) (by omega), gd_in (by omega) (by omega), nI_clamp (by omega), e35, hc i (by omega), hv]
        · obtain ⟨h1, h2, h3, h4, h5, h6, h7, h8, h9⟩ := hW
          refine ⟨h1, h2, RO_ag h3 g, RM_ag h4 g, Iro_ag h5 g, fun q hq => ?_, Iht_ag h7 g, Ikp_ag h8 g, Ist_ag h9 g⟩
          refine ⟨by rw [agA g 15 0, agA g 34 0]; exact (h6 q hq).1, fun j hj => ?_⟩
          have eA : gA (sA (sA w 14 r (upd (gA w 14 r) i v)) 35 0 (upd (gA w 35 0) (60 * r + i) v)) 14 q = if q = r then upd (gA w 14 r) i v else gA w 14 q := by
            rw [gA_sA, if_neg (by simp), gA_sA]; simp
          have eB : gA (sA (sA w 14 r (upd (gA w 14 r) i v)) 35 0 (upd (gA w 35 0) (60 * r + i) v)) 35 0 = upd (gA w 35 0) (60 * r + i) v := by
            rw [gA_sA]; simp
          rw [eA, eB]
          by_cases c : q = r
          · subst c
            rw [if_pos rfl]
            by_cases c2 : j = i
            · subst c2; rw [pk_us, pk_us]
            · rw [pk_un c2, pk_un (by omega)]; exact (h6 q hq).2 j hj
          · rw [if_neg c, pk_un (by omega)]; exact (h6 q hq).2 j hj
/-! findings, rules, move, may, mate -/
theorem ok_findings {N : Nat} : Ok_findings N Inv := fun a1 w hI => by
  obtain ⟨o, H, hW, hT⟩ := hI
  rcases cix a1 (n := 6) (by omega) with h | ⟨f, hf, rfl⟩
  · refine ⟨ng 1, w, w, ?_, ?_, o, H, hW, hT⟩
    · unfold f_X4_findings; simp only [bs, l0, l1, l2, l3, l4, l5, l6, l7, l8, l9, l10, l12, l15, l30, l31, l32, l40, l42, l48, l57, l60, l64, l98, l99, l100, l109, l110, l112, l115, l265, l1000, l518400, ngd, if_true, if_false, bn0, reduceCtorEq, n10, z1, z3, z0]
      rcases h with h | h
      · rw [iT ((clt (by omega)).mpr (by omega))]
      · rw [iF (fun q => by have := (clt (by omega)).mp q; omega), iF (fun q => by have := (cle (by omega)).mp q; omega)]
    · unfold f_X5_findings f_X5_in; simp only [bs, l0, l1, l2, l3, l4, l5, l6, l7, l8, l9, l10, l12, l15, l30, l31, l32, l40, l42, l48, l57, l60, l64, l98, l99, l100, l109, l110, l112, l115, l265, l1000, l518400, ngd, if_true, if_false, bn0, reduceCtorEq, n10, z1, z3, z0]
      rcases h with h | h
      · rw [iT ((clt (by omega)).mpr (by omega))]; simp only [bs, l0, l1, l2, l3, l4, l5, l6, l7, l8, l9, l10, l12, l15, l30, l31, l32, l40, l42, l48, l57, l60, l64, l98, l99, l100, l109, l110, l112, l115, l265, l1000, l518400, ngd, if_true, if_false, bn0, reduceCtorEq, n10, z1, z3, z0]
      · rw [iF (fun q => by have := (clt (by omega)).mp q; omega), iT ((cgt (by omega)).mpr (by omega))]; simp only [bs, l0, l1, l2, l3, l4, l5, l6, l7, l8, l9, l10, l12, l15, l30, l31, l32, l40, l42, l48, l57, l60, l64, l98, l99, l100, l109, l110, l112, l115, l265, l1000, l518400, ngd, if_true, if_false, bn0, reduceCtorEq, n10, z1, z3, z0]
  · by_cases c : f = 0
    · subst c
      refine ⟨ng 1, w, w, ?_, ?_, o, H, hW, hT⟩
      · unfold f_X4_findings; simp only [bs, l0, l1, l2, l3, l4, l5, l6, l7, l8, l9, l10, l12, l15, l30, l31, l32, l40, l42, l48, l57, l60, l64, l98, l99, l100, l109, l110, l112, l115, l265, l1000, l518400, ngd, if_true, if_false, bn0, reduceCtorEq, n10, z1, z3, z0]; rw [iT (by decide)]
      · unfold f_X5_findings f_X5_in; simp only [bs, l0, l1, l2, l3, l4, l5, l6, l7, l8, l9, l10, l12, l15, l30, l31, l32, l40, l42, l48, l57, l60, l64, l98, l99, l100, l109, l110, l112, l115, l265, l1000, l518400, ngd, if_true, if_false, bn0, reduceCtorEq, n10, z1, z3, z0]; rw [iT (by decide)]; simp only [bs, l0, l1, l2, l3, l4, l5, l6, l7, l8, l9, l10, l12, l15, l30, l31, l32, l40, l42, l48, l57, l60, l64, l98, l99, l100, l109, l110, l112, l115, l265, l1000, l518400, ngd, if_true, if_false, bn0, reduceCtorEq, n10, z1, z3, z0]
    · refine ⟨gA w 25 0 f, w, w, ?_, ?_, o, H, hW, hT⟩
      · unfold f_X4_findings; simp only [bs, l0, l1, l2, l3, l4, l5, l6, l7, l8, l9, l10, l12, l15, l30, l31, l32, l40, l42, l48, l57, l60, l64, l98, l99, l100, l109, l110, l112, l115, l265, l1000, l518400, ngd, if_true, if_false, bn0, reduceCtorEq, n10, z1, z3, z0]; rw [iF (nI_nlt (by omega) (by omega)), iT (nI_le (by omega) (by omega)), gd_in hf (by omega), nI_clamp (by omega)]
      · unfold f_X5_findings f_X5_in; simp only [bs, l0, l1, l2, l3, l4, l5, l6, l7, l8, l9, l10, l12, l15, l30, l31, l32, l40, l42, l48, l57, l60, l64, l98, l99, l100, l109, l110, l112, l115, l265, l1000, l518400, ngd, if_true, if_false, bn0, reduceCtorEq, n10, z1, z3, z0]; rw [iF (nI_nlt (by omega) (by omega)), iF (nI_nlt (by omega) (by omega))]; simp only [bs, l0, l1, l2, l3, l4, l5, l6, l7, l8, l9, l10, l12, l15, l30, l31, l32, l40, l42, l48, l57, l60, l64, l98, l99, l100, l109, l110, l112, l115, l265, l1000, l518400, ngd, if_true, if_false, bn0, reduceCtorEq, n10, z1, z3, z0]; rw [gd_in hf (by omega), nI_clamp (by omega), hT.2.2.2.2 f hf]
def setR (o : Of) (v : Nat) : Of := ((oN o, v), o.2)
def setT (o : Of) (x t : Nat) : Of := (o.1, (oK o, (fun y => if y = x then t else oT o y), oW o), oY o)
def setY (o : Of) (Y : List (List Nat)) : Of := (o.1, o.2.1, Y)
theorem ok_rules {N : Nat} : Ok_rules N Inv := fun a1 w hI => by
  obtain ⟨o, H, hW, hT⟩ := hI
  rcases cix a1 (n := 16) (by omega) with h | ⟨v, hv, rfl⟩
  · refine ⟨ng 1, w, w, ?_, ?_, o, H, hW, hT⟩
    · unfold f_X4_rules; simp only [bs, l0, l1, l2, l3, l4, l5, l6, l7, l8, l9, l10, l12, l15, l30, l31, l32, l40, l42, l48, l57, l60, l64, l98, l99, l100, l109, l110, l112, l115, l265, l1000, l518400, ngd, if_true, if_false, bn0, reduceCtorEq, n10, z1, z3, z0]
      rcases h with h | h
      · rw [iT (neg0 h)]
      · rw [iF (fun q => by have := (clt (n := 0) (by omega)).mp q; omega), iF (fun q => by have := (cle (by omega)).mp q; omega)]
    · unfold f_X5_rules; simp only [bs, l0, l1, l2, l3, l4, l5, l6, l7, l8, l9, l10, l12, l15, l30, l31, l32, l40, l42, l48, l57, l60, l64, l98, l99, l100, l109, l110, l112, l115, l265, l1000, l518400, ngd, if_true, if_false, bn0, reduceCtorEq, n10, z1, z3, z0]; rw [e_in_f (n := 16) (by omega) h (by decide)]; simp only [bs, l0, l1, l2, l3, l4, l5, l6, l7, l8, l9, l10, l12, l15, l30, l31, l32, l40, l42, l48, l57, l60, l64, l98, l99, l100, l109, l110, l112, l115, l265, l1000, l518400, ngd, if_true, if_false, bn0, reduceCtorEq, n10, z1, z3, z0]
  · obtain ⟨h1, h2, h3, h4, h5, h6, h7, h8, h9⟩ := hW
    refine ⟨nI (oR o), sI (sI w 6 0 (nI v)) 411 0 (nI 1), sI (sI (sI w 6 0 (nI v)) 411 0 (nI 1)) 511 0 (nI v), ?_, ?_, setR o v, H, ?_, ?_⟩
    · unfold f_X4_rules; simp only [bs, l0, l1, l2, l3, l4, l5, l6, l7, l8, l9, l10, l12, l15, l30, l31, l32, l40, l42, l48, l57, l60, l64, l98, l99, l100, l109, l110, l112, l115, l265, l1000, l518400, ngd, if_true, if_false, bn0, reduceCtorEq, n10, z1, z3, z0]; rw [iF (nI_nlt (by omega) (by omega)), iT (nI_le (by omega) (by omega)), h3.2.2.1]
    · unfold f_X5_rules; simp only [bs, l0, l1, l2, l3, l4, l5, l6, l7, l8, l9, l10, l12, l15, l30, l31, l32, l40, l42, l48, l57, l60, l64, l98, l99, l100, l109, l110, l112, l115, l265, l1000, l518400, ngd, if_true, if_false, bn0, reduceCtorEq, n10, z1, z3, z0]; rw [e_in_t (n := 16) (by omega) hv (by decide)]; simp only [bs, l0, l1, l2, l3, l4, l5, l6, l7, l8, l9, l10, l12, l15, l30, l31, l32, l40, l42, l48, l57, l60, l64, l98, l99, l100, l109, l110, l112, l115, l265, l1000, l518400, ngd, if_true, if_false, bn0, reduceCtorEq, n10, z1, z3, z0]; rw [show gI (sI (sI w 6 0 (nI v)) 411 0 (nI 1)) 511 0 = nI (oR o) from h4.2.2.1]
    · have g : ag [6, 411, 511] w (sI (sI (sI w 6 0 (nI v)) 411 0 (nI 1)) 511 0 (nI v)) := (((ag.rf _ w).sI (by simp)).sI (by simp)).sI (by simp)
      refine ⟨⟨h1.1, by show v ≤ 15; omega, h1.2.2⟩, h2, ⟨h3.1, h3.2.1, rfl, h3.2.2.2⟩, ⟨h4.1, h4.2.1, rfl, h4.2.2.2⟩, Iro_ag h5 g, Itx_ag h6 g, Iht_ag h7 g, ?_, Or.inl rfl⟩
      exact Ikp_ag h8 g
    · exact Itl_ag hT ((((ag.rf [6, 411, 511] w).sI (by simp)).sI (by simp)).sI (by simp))
theorem ok_move {N : Nat} : Ok_move N Inv := fun a1 a2 w hI => by
  obtain ⟨o, H, hW, hT⟩ := hI
  obtain ⟨h1, h2, h3, h4, h5, h6, h7, h8, h9⟩ := id hW
  have hn := h1.1
  rcases cix a1 (n := oN o) (by omega) with h | ⟨x, hx, rfl⟩
  · refine ⟨ng 1, w, w, ?_, ?_, o, H, hW, hT⟩
    · unfold f_X4_move; rw [e_isMate_f hn h3.1 h]; simp only [bs, l0, l1, l2, l3, l4, l5, l6, l7, l8, l9, l10, l12, l15, l30, l31, l32, l40, l42, l48, l57, l60, l64, l98, l99, l100, l109, l110, l112, l115, l265, l1000, l518400, ngd, if_true, if_false, bn0, reduceCtorEq, n10, z1, z3, z0]
    · unfold f_X5_move; rw [e_misMate_f hn h4.1 h]; simp only [bs, l0, l1, l2, l3, l4, l5, l6, l7, l8, l9, l10, l12, l15, l30, l31, l32, l40, l42, l48, l57, l60, l64, l98, l99, l100, l109, l110, l112, l115, l265, l1000, l518400, ngd, if_true, if_false, bn0, reduceCtorEq, n10, z1, z3, z0]
  rcases cix a2 (n := 10) (by omega) with h | ⟨t, ht, rfl⟩
  · refine ⟨ng 1, w, w, ?_, ?_, o, H, hW, hT⟩
    · unfold f_X4_move; rw [e_isMate_t hn h3.1 hx]; simp only [bs, l0, l1, l2, l3, l4, l5, l6, l7, l8, l9, l10, l12, l15, l30, l31, l32, l40, l42, l48, l57, l60, l64, l98, l99, l100, l109, l110, l112, l115, l265, l1000, l518400, ngd, if_true, if_false, bn0, reduceCtorEq, n10, z1, z3, z0]
      rcases h with h | h
      · rw [iT (neg0 h)]
      · rw [iF (fun q => by have := (clt (n := 0) (by omega)).mp q; omega), iF (fun q => by have := (cle (by omega)).mp q; omega)]
    · unfold f_X5_move; rw [e_misMate_t hn h4.1 hx]; simp only [bs, l0, l1, l2, l3, l4, l5, l6, l7, l8, l9, l10, l12, l15, l30, l31, l32, l40, l42, l48, l57, l60, l64, l98, l99, l100, l109, l110, l112, l115, l265, l1000, l518400, ngd, if_true, if_false, bn0, reduceCtorEq, n10, z1, z3, z0]; rw [e_in_f (n := 10) (by omega) h (by decide)]; simp only [bs, l0, l1, l2, l3, l4, l5, l6, l7, l8, l9, l10, l12, l15, l30, l31, l32, l40, l42, l48, l57, l60, l64, l98, l99, l100, l109, l110, l112, l115, l265, l1000, l518400, ngd, if_true, if_false, bn0, reduceCtorEq, n10, z1, z3, z0]
  refine ⟨nI (oT o x), sI (sA w 17 0 (upd (gA w 17 0) x (nI t))) 411 0 (nI 1), sA (sI (sA w 17 0 (upd (gA w 17 0) x (nI t))) 411 0 (nI 1)) 37 0 (upd (gA w 37 0) x (nI t)), ?_, ?_, setT o x t, H, ?_, ?_⟩
  · unfold f_X4_move; rw [e_isMate_t hn h3.1 hx]; simp only [bs, l0, l1, l2, l3, l4, l5, l6, l7, l8, l9, l10, l12, l15, l30, l31, l32, l40, l42, l48, l57, l60, l64, l98, l99, l100, l109, l110, l112, l115, l265, l1000, l518400, ngd, if_true, if_false, bn0, reduceCtorEq, n10, z1, z3, z0]; rw [iF (nI_nlt (by omega) (by omega)), iT (nI_le (by omega) (by omega)), gd_in (by omega) (by omega), gd_in (by omega) (by omega), nI_clamp (by omega), (h3.2.2.2.1 x hx).2.1]
  · have e37 : gA (sI (sA w 17 0 (upd (gA w 17 0) x (nI t))) 411 0 (nI 1)) 37 0 = gA w 37 0 := by rw [gA_sI, gA_sA, if_neg (by simp)]
    unfold f_X5_move; rw [e_misMate_t hn (show gI (sI (sA w 17 0 (upd (gA w 17 0) x (nI t))) 411 0 (nI 1)) 510 0 = nI (oN o) from h4.1) hx]; simp only [bs, l0, l1, l2, l3, l4, l5, l6, l7, l8, l9, l10, l12, l15, l30, l31, l32, l40, l42, l48, l57, l60, l64, l98, l99, l100, l109, l110, l112, l115, l265, l1000, l518400, ngd, if_true, if_false, bn0, reduceCtorEq, n10, z1, z3, z0]; rw [e_in_t (n := 10) (by omega) ht (by decide)]; simp only [bs, l0, l1, l2, l3, l4, l5, l6, l7, l8, l9, l10, l12, l15, l30, l31, l32, l40, l42, l48, l57, l60, l64, l98, l99, l100, l109, l110, l112, l115, l265, l1000, l518400, ngd, if_true, if_false, bn0, reduceCtorEq, n10, z1, z3, z0]; rw [gd_in (by omega) (by omega), gd_in (by omega) (by omega), nI_clamp (by omega), e37, (h4.2.2.2.1 x hx).2.1]
  · have g : ag [17, 411, 37] w (sA (sI (sA w 17 0 (upd (gA w 17 0) x (nI t))) 411 0 (nI 1)) 37 0 (upd (gA w 37 0) x (nI t))) := (((ag.rf _ w).sA (by simp)).sI (by simp)).sA (by simp)
    have e17 : gA (sA (sI (sA w 17 0 (upd (gA w 17 0) x (nI t))) 411 0 (nI 1)) 37 0 (upd (gA w 37 0) x (nI t))) 17 0 = upd (gA w 17 0) x (nI t) := by rw [gA_sA, if_neg (by simp), gA_sI, gA_sA]; simp
    have e37 : gA (sA (sI (sA w 17 0 (upd (gA w 17 0) x (nI t))) 411 0 (nI 1)) 37 0 (upd (gA w 37 0) x (nI t))) 37 0 = upd (gA w 37 0) x (nI t) := by rw [gA_sA]; simp
    refine ⟨⟨h1.1, h1.2.1, fun y hy => ?_, h1.2.2.2⟩, h2, ⟨?_, ?_, ?_, fun y hy => ?_, fun k hk => ?_⟩, ⟨?_, ?_, ?_, fun y hy => ?_, fun k hk z hz => ?_⟩, Iro_ag h5 g, Itx_ag h6 g, Iht_ag h7 g, Ikp_ag h8 g, Or.inl rfl⟩
    · refine ⟨(h1.2.2.1 y hy).1, ?_, (h1.2.2.1 y hy).2.2⟩
      show (if y = x then t else oT o y) ≤ 9
      have := (h1.2.2.1 y hy).2.1
      split <;> omega
    · exact h3.1
    · exact h3.2.1
    · exact h3.2.2.1
    · rw [agA g 16 0, agA g 18 0, e17]
      refine ⟨(h3.2.2.2.1 y hy).1, ?_, (h3.2.2.2.1 y hy).2.2⟩
      show _ = nI (if y = x then t else oT o y)
      by_cases c : y = x
      · rw [if_pos c, c, pk_us]
      · rw [if_neg c, pk_un c]; exact (h3.2.2.2.1 y hy).2.1
    · rw [agA g 19 0]; exact h3.2.2.2.2 k hk
    · exact h4.1
    · exact h4.2.1
    · exact h4.2.2.1
    · rw [agA g 36 0, agA g 38 0, e37]
      refine ⟨(h4.2.2.2.1 y hy).1, ?_, (h4.2.2.2.1 y hy).2.2⟩
      show _ = nI (if y = x then t else oT o y)
      by_cases c : y = x
      · rw [if_pos c, c, pk_us]
      · rw [if_neg c, pk_un c]; exact (h4.2.2.2.1 y hy).2.1
    · rw [agA g 39 0]; exact h4.2.2.2.2 k hk z hz
  · exact Itl_ag hT ((((ag.rf [17, 411, 37] w).sA (by simp)).sI (by simp)).sA (by simp))
theorem ok_may {N : Nat} (hN : 1000 ≤ N) : Ok_may N Inv := fun a1 w hI => by
  obtain ⟨o, H, hW, hT⟩ := hI
  obtain ⟨h1, h2, h3, h4, h5, h6, h7, h8, h9⟩ := id hW
  have hn := h1.1
  rcases cix a1 (n := oN o) (by omega) with h | ⟨x, hx, rfl⟩
  · refine ⟨ng 1, w, w, ?_, ?_, o, H, hW, hT⟩
    · unfold f_X4_may; rw [e_isMate_f hn h3.1 h]; simp only [bs, l0, l1, l2, l3, l4, l5, l6, l7, l8, l9, l10, l12, l15, l30, l31, l32, l40, l42, l48, l57, l60, l64, l98, l99, l100, l109, l110, l112, l115, l265, l1000, l518400, ngd, if_true, if_false, bn0, reduceCtorEq, n10, z1, z3, z0]
    · unfold f_X5_may; rw [e_misMate_f hn h4.1 h]; simp only [bs, l0, l1, l2, l3, l4, l5, l6, l7, l8, l9, l10, l12, l15, l30, l31, l32, l40, l42, l48, l57, l60, l64, l98, l99, l100, l109, l110, l112, l115, l265, l1000, l518400, ngd, if_true, if_false, bn0, reduceCtorEq, n10, z1, z3, z0]
  · refine ⟨nI (opn o x), w, w, ?_, ?_, o, H, hW, hT⟩
    · unfold f_X4_may; rw [e_isMate_t hn h3.1 hx]; simp only [bs, l0, l1, l2, l3, l4, l5, l6, l7, l8, l9, l10, l12, l15, l30, l31, l32, l40, l42, l48, l57, l60, l64, l98, l99, l100, l109, l110, l112, l115, l265, l1000, l518400, ngd, if_true, if_false, bn0, reduceCtorEq, n10, z1, z3, z0]; rw [e_open hN h3 h1 hx]; simp only [bs, l0, l1, l2, l3, l4, l5, l6, l7, l8, l9, l10, l12, l15, l30, l31, l32, l40, l42, l48, l57, l60, l64, l98, l99, l100, l109, l110, l112, l115, l265, l1000, l518400, ngd, if_true, if_false, bn0, reduceCtorEq, n10, z1, z3, z0]
    · unfold f_X5_may; rw [e_misMate_t hn h4.1 hx]; simp only [bs, l0, l1, l2, l3, l4, l5, l6, l7, l8, l9, l10, l12, l15, l30, l31, l32, l40, l42, l48, l57, l60, l64, l98, l99, l100, l109, l110, l112, l115, l265, l1000, l518400, ngd, if_true, if_false, bn0, reduceCtorEq, n10, z1, z3, z0]; rw [e_mayOf hN h4 h1 hx]; simp only [bs, l0, l1, l2, l3, l4, l5, l6, l7, l8, l9, l10, l12, l15, l30, l31, l32, l40, l42, l48, l57, l60, l64, l98, l99, l100, l109, l110, l112, l115, l265, l1000, l518400, ngd, if_true, if_false, bn0, reduceCtorEq, n10, z1, z3, z0]
def fct (o : Of) (x q : Nat) : Int32 := if q = 0 then nI (oK o x) else if q = 1 then nI (oT o x) else if q = 2 then nI (oW o x) else lst o x
theorem e_fact {N i x q : Nat} {o : Of} {w : Wd} (h : RO i o w) (hf : Wf o) (hx : x < oN o) (hq : q < 4) : f_X0_fact N i (nI x) (nI q) w = some (fct o x q, w) := by
  have hn := hf.1
  obtain ⟨e1, e2, e3⟩ := h.2.2.2.1 x hx
  unfold f_X0_fact fct
  simp only [bs, l0, l1, l2, l3, l4, l5, l6, l7, l8, l9, l10, l12, l15, l30, l31, l32, l40, l42, l48, l57, l60, l64, l98, l99, l100, l109, l110, l112, l115, l265, l1000, l518400, ngd, if_true, if_false, bn0, reduceCtorEq, n10, z1, z3, z0]
  rw [gd_in (by omega) (by omega), gd_in (by omega) (by omega), gd_in (by omega) (by omega), nI_clamp (by omega), e1, e2, e3, e_latest h hf hx]
  simp only [bs, l0, l1, l2, l3, l4, l5, l6, l7, l8, l9, l10, l12, l15, l30, l31, l32, l40, l42, l48, l57, l60, l64, l98, l99, l100, l109, l110, l112, l115, l265, l1000, l518400, ngd, if_true, if_false, bn0, reduceCtorEq, n10, z1, z3, z0]
  rcases (show q = 0 ∨ q = 1 ∨ q = 2 ∨ q = 3 by omega) with rfl | rfl | rfl | rfl <;> simp (disch := decide) [nI_eq]
theorem e_mateOf {N x q : Nat} {o : Of} {w : Wd} (h : RM o w) (hf : Wf o) (hx : x < oN o) (hq : q < 4) : f_X5_mateOf N (nI x) (nI q) w = some (fct o x q, w) := by
  have hn := hf.1
  obtain ⟨e1, e2, e3⟩ := h.2.2.2.1 x hx
  unfold f_X5_mateOf fct
  simp only [bs, l0, l1, l2, l3, l4, l5, l6, l7, l8, l9, l10, l12, l15, l30, l31, l32, l40, l42, l48, l57, l60, l64, l98, l99, l100, l109, l110, l112, l115, l265, l1000, l518400, ngd, if_true, if_false, bn0, reduceCtorEq, n10, z1, z3, z0]
  rw [gd_in (by omega) (by omega), gd_in (by omega) (by omega), gd_in (by omega) (by omega), nI_clamp (by omega), e1, e2, e3, e_lastOf h hf hx]
  simp only [bs, l0, l1, l2, l3, l4, l5, l6, l7, l8, l9, l10, l12, l15, l30, l31, l32, l40, l42, l48, l57, l60, l64, l98, l99, l100, l109, l110, l112, l115, l265, l1000, l518400, ngd, if_true, if_false, bn0, reduceCtorEq, n10, z1, z3, z0]
  rcases (show q = 0 ∨ q = 1 ∨ q = 2 ∨ q = 3 by omega) with rfl | rfl | rfl | rfl <;> simp (disch := decide) [nI_eq]
theorem ok_mate {N : Nat} : Ok_mate N Inv := fun a1 a2 w hI => by
  obtain ⟨o, H, hW, hT⟩ := hI
  obtain ⟨h1, h2, h3, h4, h5, h6, h7, h8, h9⟩ := id hW
  have hn := h1.1
  rcases cix a1 (n := oN o) (by omega) with h | ⟨x, hx, rfl⟩
  · refine ⟨ng 1, w, w, ?_, ?_, o, H, hW, hT⟩
    · unfold f_X4_mate; rw [e_isMate_f hn h3.1 h]; simp only [bs, l0, l1, l2, l3, l4, l5, l6, l7, l8, l9, l10, l12, l15, l30, l31, l32, l40, l42, l48, l57, l60, l64, l98, l99, l100, l109, l110, l112, l115, l265, l1000, l518400, ngd, if_true, if_false, bn0, reduceCtorEq, n10, z1, z3, z0]
    · unfold f_X5_mate; rw [e_misMate_f hn h4.1 h]; simp only [bs, l0, l1, l2, l3, l4, l5, l6, l7, l8, l9, l10, l12, l15, l30, l31, l32, l40, l42, l48, l57, l60, l64, l98, l99, l100, l109, l110, l112, l115, l265, l1000, l518400, ngd, if_true, if_false, bn0, reduceCtorEq, n10, z1, z3, z0]
  rcases cix a2 (n := 4) (by omega) with h | ⟨q, hq, rfl⟩
  · refine ⟨ng 1, w, w, ?_, ?_, o, H, hW, hT⟩
    · unfold f_X4_mate; rw [e_isMate_t hn h3.1 hx]; simp only [bs, l0, l1, l2, l3, l4, l5, l6, l7, l8, l9, l10, l12, l15, l30, l31, l32, l40, l42, l48, l57, l60, l64, l98, l99, l100, l109, l110, l112, l115, l265, l1000, l518400, ngd, if_true, if_false, bn0, reduceCtorEq, n10, z1, z3, z0]
      rcases h with h | h
      · rw [iT (neg0 h)]
      · rw [iF (fun q => by have := (clt (n := 0) (by omega)).mp q; omega), iF (fun q => by have := (cle (by omega)).mp q; omega)]
    · unfold f_X5_mate; rw [e_misMate_t hn h4.1 hx]; simp only [bs, l0, l1, l2, l3, l4, l5, l6, l7, l8, l9, l10, l12, l15, l30, l31, l32, l40, l42, l48, l57, l60, l64, l98, l99, l100, l109, l110, l112, l115, l265, l1000, l518400, ngd, if_true, if_false, bn0, reduceCtorEq, n10, z1, z3, z0]; rw [e_in_f (n := 4) (by omega) h (by decide)]; simp only [bs, l0, l1, l2, l3, l4, l5, l6, l7, l8, l9, l10, l12, l15, l30, l31, l32, l40, l42, l48, l57, l60, l64, l98, l99, l100, l109, l110, l112, l115, l265, l1000, l518400, ngd, if_true, if_false, bn0, reduceCtorEq, n10, z1, z3, z0]
  refine ⟨nI 1, sI w 412 0 (fct o x q), sI (sI w 412 0 (fct o x q)) 502 0 (fct o x q), ?_, ?_, Inv_ask hW hT (ag.rf [] _)⟩
  · unfold f_X4_mate; rw [e_isMate_t hn h3.1 hx]; simp only [bs, l0, l1, l2, l3, l4, l5, l6, l7, l8, l9, l10, l12, l15, l30, l31, l32, l40, l42, l48, l57, l60, l64, l98, l99, l100, l109, l110, l112, l115, l265, l1000, l518400, ngd, if_true, if_false, bn0, reduceCtorEq, n10, z1, z3, z0]; rw [iF (nI_nlt (by omega) (by omega)), iT (nI_le (by omega) (by omega)), e_fact h3 h1 hx hq]; simp only [bs, l0, l1, l2, l3, l4, l5, l6, l7, l8, l9, l10, l12, l15, l30, l31, l32, l40, l42, l48, l57, l60, l64, l98, l99, l100, l109, l110, l112, l115, l265, l1000, l518400, ngd, if_true, if_false, bn0, reduceCtorEq, n10, z1, z3, z0]
  · have g : ag [412] w (sI w 412 0 (fct o x q)) := (ag.rf _ w).sI (by simp)
    have h4' := RM_ag h4 g
    unfold f_X5_mate; rw [e_misMate_t hn h4'.1 hx]; simp only [bs, l0, l1, l2, l3, l4, l5, l6, l7, l8, l9, l10, l12, l15, l30, l31, l32, l40, l42, l48, l57, l60, l64, l98, l99, l100, l109, l110, l112, l115, l265, l1000, l518400, ngd, if_true, if_false, bn0, reduceCtorEq, n10, z1, z3, z0]; rw [e_in_t (n := 4) (by omega) hq (by decide)]; simp only [bs, l0, l1, l2, l3, l4, l5, l6, l7, l8, l9, l10, l12, l15, l30, l31, l32, l40, l42, l48, l57, l60, l64, l98, l99, l100, l109, l110, l112, l115, l265, l1000, l518400, ngd, if_true, if_false, bn0, reduceCtorEq, n10, z1, z3, z0]; rw [e_mateOf h4' h1 hx hq]; simp only [bs, l0, l1, l2, l3, l4, l5, l6, l7, l8, l9, l10, l12, l15, l30, l31, l32, l40, l42, l48, l57, l60, l64, l98, l99, l100, l109, l110, l112, l115, l265, l1000, l518400, ngd, if_true, if_false, bn0, reduceCtorEq, n10, z1, z3, z0]; rw [e_ask]; simp only [bs, l0, l1, l2, l3, l4, l5, l6, l7, l8, l9, l10, l12, l15, l30, l31, l32, l40, l42, l48, l57, l60, l64, l98, l99, l100, l109, l110, l112, l115, l265, l1000, l518400, ngd, if_true, if_false, bn0, reduceCtorEq, n10, z1, z3, z0]
