/-! counts -/
def cnt (f : Nat → Bool) : Nat → Nat → Nat → Nat
  | 0, _, c => c
  | m + 1, k, c => cnt f m (k + 1) (c + bn (f k))
theorem cnt_congr {f g : Nat → Bool} : ∀ (m k c : Nat), (∀ j, k ≤ j → j < k + m → f j = g j) → cnt f m k c = cnt g m k c := by
  intro m
  induction m with
  | zero => intro k c _; rfl
  | succ m ih => intro k c h; rw [cnt, cnt, h k (by omega) (by omega)]; exact ih _ _ (fun j h1 h2 => h j (by omega) (by omega))
theorem cnt_app (f : Nat → Bool) : ∀ (a b k c : Nat), cnt f (a + b) k c = cnt f b (k + a) (cnt f a k c) := by
  intro a
  induction a with
  | zero => intro b k c; rw [Nat.zero_add]; rfl
  | succ a ih => intro b k c; rw [show a + 1 + b = (a + b) + 1 by omega, cnt, ih, cnt, show k + 1 + a = k + (a + 1) by omega]
theorem cnt_none {f : Nat → Bool} : ∀ (m k c : Nat), (∀ j, k ≤ j → j < k + m → f j = false) → cnt f m k c = c := by
  intro m
  induction m with
  | zero => intro k c _; rfl
  | succ m ih => intro k c h; rw [cnt, h k (by omega) (by omega), bnf, Nat.add_zero]; exact ih _ _ (fun j h1 h2 => h j (by omega) (by omega))
theorem cnt_le (f : Nat → Bool) : ∀ (m k c : Nat), cnt f m k c ≤ c + m := by
  intro m
  induction m with
  | zero => intro k c; exact Nat.le_refl _
  | succ m ih => intro k c; rw [cnt]; have := ih (k + 1) (c + bn (f k)); have := bn_lt (f k); omega
theorem cnt_t {f : Nat → Bool} {m k c : Nat} (h : f k = true) : cnt f (m + 1) k c = cnt f m (k + 1) (c + 1) := by rw [cnt, h]; rfl
theorem cnt_f {f : Nat → Bool} {m k c : Nat} (h : f k = false) : cnt f (m + 1) k c = cnt f m (k + 1) c := by rw [cnt, h]; rfl
/-! forget, undo, drew -/
theorem dg_take {d : List Nat} {n x : Nat} (h : x < n) : dg (d.take n) x = dg d x := by
  unfold dg; rw [List.getD_eq_getElem?_getD, List.getD_eq_getElem?_getD, List.getElem?_take, if_pos h]
theorem dr_take {L : List (List Nat)} {n k : Nat} (h : k < n) : dr (L.take n) k = dr L k := by
  unfold dr; rw [List.getD_eq_getElem?_getD, List.getD_eq_getElem?_getD, List.getElem?_take, if_pos h]
theorem ok_forget {N : Nat} : Ok_forget N Inv := fun a1 w hI => by
  obtain ⟨o, H, hW, hT⟩ := hI
  obtain ⟨h1, h2, h3, h4, h5, h6, h7, h8, h9⟩ := id hW
  have hn := h1.1
  rcases cix a1 (n := oC o + 1) (by omega) with h | ⟨n, hk, rfl⟩
  · refine ⟨ng 1, w, w, ?_, ?_, o, H, hW, hT⟩
    · unfold f_X4_forget; simp only [bs, l0, l1, l2, l3, l4, l5, l6, l7, l8, l9, l10, l12, l15, l30, l31, l32, l40, l42, l48, l57, l60, l64, l98, l99, l100, l109, l110, l112, l115, l265, l1000, l518400, ngd, if_true, if_false, bn0, reduceCtorEq, n10, z1, z3, z0]; rw [h3.2.1]
      rcases h with h | h
      · rw [iT (neg0 h)]
      · rw [iF (fun q => by have := (clt (n := 0) (by omega)).mp q; omega), iF (fun q => by have := (cle (by omega)).mp q; omega)]
    · unfold f_X5_forget; simp only [bs, l0, l1, l2, l3, l4, l5, l6, l7, l8, l9, l10, l12, l15, l30, l31, l32, l40, l42, l48, l57, l60, l64, l98, l99, l100, l109, l110, l112, l115, l265, l1000, l518400, ngd, if_true, if_false, bn0, reduceCtorEq, n10, z1, z3, z0]; rw [h4.2.1, e_in_f (n := oC o + 1) (by omega) h (nn2 (by omega))]; simp only [bs, l0, l1, l2, l3, l4, l5, l6, l7, l8, l9, l10, l12, l15, l30, l31, l32, l40, l42, l48, l57, l60, l64, l98, l99, l100, l109, l110, l112, l115, l265, l1000, l518400, ngd, if_true, if_false, bn0, reduceCtorEq, n10, z1, z3, z0]
  · refine ⟨nI (oC o - n), sI (sI w 5 0 (nI n)) 411 0 (nI 1), sI (sI (sI w 5 0 (nI n)) 411 0 (nI 1)) 518 0 (nI n), ?_, ?_, setY o ((oY o).take n), H, ?_, ?_⟩
    · unfold f_X4_forget; simp only [bs, l0, l1, l2, l3, l4, l5, l6, l7, l8, l9, l10, l12, l15, l30, l31, l32, l40, l42, l48, l57, l60, l64, l98, l99, l100, l109, l110, l112, l115, l265, l1000, l518400, ngd, if_true, if_false, bn0, reduceCtorEq, n10, z1, z3, z0]; rw [iF (nI_nlt (by omega) (by omega)), h3.2.1, iT (nI_le (by omega) (by omega)), pk_sub (by omega)]
    · have e518 : gI (sI (sI w 5 0 (nI n)) 411 0 (nI 1)) 518 0 = nI (oC o) := h4.2.1
      unfold f_X5_forget; simp only [bs, l0, l1, l2, l3, l4, l5, l6, l7, l8, l9, l10, l12, l15, l30, l31, l32, l40, l42, l48, l57, l60, l64, l98, l99, l100, l109, l110, l112, l115, l265, l1000, l518400, ngd, if_true, if_false, bn0, reduceCtorEq, n10, z1, z3, z0]; rw [e518, e_in_t (n := oC o + 1) (by omega) hk (nn2 (by omega))]; simp only [bs, l0, l1, l2, l3, l4, l5, l6, l7, l8, l9, l10, l12, l15, l30, l31, l32, l40, l42, l48, l57, l60, l64, l98, l99, l100, l109, l110, l112, l115, l265, l1000, l518400, ngd, if_true, if_false, bn0, reduceCtorEq, n10, z1, z3, z0]; rw [e518, pk_sub (by omega)]
    · have g : ag [5, 411, 518] w (sI (sI (sI w 5 0 (nI n)) 411 0 (nI 1)) 518 0 (nI n)) := (((ag.rf _ w).sI (by simp)).sI (by simp)).sI (by simp)
      have hc : oC (setY o ((oY o).take n)) = n := by
        show ((oY o).take n).length = n
        rw [List.length_take]; unfold oC at hk; omega
      refine ⟨⟨h1.1, h1.2.1, h1.2.2.1, by rw [hc]; omega, fun d hd => h1.2.2.2.2 d (List.mem_of_mem_take hd)⟩, by rw [hc]; omega, ⟨h3.1, by rw [hc]; rfl, h3.2.2.1, h3.2.2.2.1, fun k hk' => ?_⟩, ⟨h4.1, by rw [hc]; rfl, h4.2.2.1, h4.2.2.2.1, fun k hk' x hx => ?_⟩, Iro_ag h5 g, Itx_ag h6 g, Iht_ag h7 g, Ikp_ag h8 g, Or.inl rfl⟩
      · rw [hc] at hk'
        rw [agA g 19 0]
        show _ = nI (cd (dr ((oY o).take n) k))
        rw [dr_take hk']; exact h3.2.2.2.2 k (by omega)
      · rw [hc] at hk'
        rw [agA g 39 0]
        show _ = nI (dg (dr ((oY o).take n) k) x)
        rw [dr_take hk']; exact h4.2.2.2.2 k (by omega) x hx
    · exact Itl_ag hT ((((ag.rf [5, 411, 518] w).sI (by simp)).sI (by simp)).sI (by simp))
theorem ok_undo {N : Nat} : Ok_undo N Inv := fun a1 w hI => by
  obtain ⟨o, H, hW, hT⟩ := hI
  obtain ⟨h1, h2, h3, h4, h5, h6, h7, h8, h9⟩ := id hW
  have hn := h1.1
  obtain ⟨t1, t2, t3, t4, t5, t6⟩ := id h7
  have h8' : ∀ y ∈ H, y < 8 := fun y hy => by have := t2 y hy; omega
  rcases cix a1 (n := H.length + 1) (by omega) with h | ⟨n, hk, rfl⟩
  · refine ⟨ng 1, w, w, ?_, ?_, o, H, hW, hT⟩
    · unfold f_X4_undo; simp only [bs, l0, l1, l2, l3, l4, l5, l6, l7, l8, l9, l10, l12, l15, l30, l31, l32, l40, l42, l48, l57, l60, l64, l98, l99, l100, l109, l110, l112, l115, l265, l1000, l518400, ngd, if_true, if_false, bn0, reduceCtorEq, n10, z1, z3, z0]; rw [t3]
      rcases h with h | h
      · rw [iT (neg0 h)]
      · rw [iF (fun q => by have := (clt (n := 0) (by omega)).mp q; omega), iF (fun q => by have := (cle (by omega)).mp q; omega)]
    · unfold f_X5_undo; simp only [bs, l0, l1, l2, l3, l4, l5, l6, l7, l8, l9, l10, l12, l15, l30, l31, l32, l40, l42, l48, l57, l60, l64, l98, l99, l100, l109, l110, l112, l115, l265, l1000, l518400, ngd, if_true, if_false, bn0, reduceCtorEq, n10, z1, z3, z0]; rw [t5, e_in_f (n := H.length + 1) (by omega) h (nn2 (by omega))]; simp only [bs, l0, l1, l2, l3, l4, l5, l6, l7, l8, l9, l10, l12, l15, l30, l31, l32, l40, l42, l48, l57, l60, l64, l98, l99, l100, l109, l110, l112, l115, l265, l1000, l518400, ngd, if_true, if_false, bn0, reduceCtorEq, n10, z1, z3, z0]
  · refine ⟨nI (H.length - n), sI (sI w 407 0 (nI n)) 406 0 (nI (cd (H.take n))), sI (sI (sI w 407 0 (nI n)) 406 0 (nI (cd (H.take n)))) 524 0 (nI n), ?_, ?_, o, H.take n, ?_, ?_⟩
    · unfold f_X4_undo; simp only [bs, l0, l1, l2, l3, l4, l5, l6, l7, l8, l9, l10, l12, l15, l30, l31, l32, l40, l42, l48, l57, l60, l64, l98, l99, l100, l109, l110, l112, l115, l265, l1000, l518400, ngd, if_true, if_false, bn0, reduceCtorEq, n10, z1, z3, z0]; rw [iF (nI_nlt (by omega) (by omega)), t3, iT (nI_le (by omega) (by omega)), e_ones (by omega)]; simp only [bs, l0, l1, l2, l3, l4, l5, l6, l7, l8, l9, l10, l12, l15, l30, l31, l32, l40, l42, l48, l57, l60, l64, l98, l99, l100, l109, l110, l112, l115, l265, l1000, l518400, ngd, if_true, if_false, bn0, reduceCtorEq, n10, z1, z3, z0]
      rw [pk_sub (by omega), show gI (sI w 407 0 (nI n)) 406 0 = nI (cd H) from t4, nx_and, show (8 : Nat) ^ n = 2 ^ (3 * n) from by rw [show (8 : Nat) = 2 ^ 3 from rfl, ← Nat.pow_mul], Nat.and_two_pow_sub_one_eq_mod, show 2 ^ (3 * n) = 8 ^ n from by rw [show (8 : Nat) = 2 ^ 3 from rfl, ← Nat.pow_mul], cd_take H n h8']
    · have e : gI (sI (sI w 407 0 (nI n)) 406 0 (nI (cd (H.take n)))) 524 0 = nI H.length := t5
      unfold f_X5_undo; simp only [bs, l0, l1, l2, l3, l4, l5, l6, l7, l8, l9, l10, l12, l15, l30, l31, l32, l40, l42, l48, l57, l60, l64, l98, l99, l100, l109, l110, l112, l115, l265, l1000, l518400, ngd, if_true, if_false, bn0, reduceCtorEq, n10, z1, z3, z0]; rw [e, e_in_t (n := H.length + 1) (by omega) hk (nn2 (by omega))]; simp only [bs, l0, l1, l2, l3, l4, l5, l6, l7, l8, l9, l10, l12, l15, l30, l31, l32, l40, l42, l48, l57, l60, l64, l98, l99, l100, l109, l110, l112, l115, l265, l1000, l518400, ngd, if_true, if_false, bn0, reduceCtorEq, n10, z1, z3, z0]; rw [e, pk_sub (by omega)]
    · have g : ag [407, 406, 524] w (sI (sI (sI w 407 0 (nI n)) 406 0 (nI (cd (H.take n)))) 524 0 (nI n)) := (((ag.rf _ w).sI (by simp)).sI (by simp)).sI (by simp)
      have hl : (H.take n).length = n := by rw [List.length_take]; omega
      refine ⟨h1, h2, RO_ag h3 g, RM_ag h4 g, Iro_ag h5 g, Itx_ag h6 g, ⟨by omega, fun y hy => t2 y (List.mem_of_mem_take hy), ?_, rfl, ?_, fun x hx => ?_⟩, Ikp_ag h8 g, Ist_ag h9 g⟩
      · rw [hl]; rfl
      · rw [hl]; rfl
      · rw [hl] at hx
        rw [agA g 42 0, dg_take hx]; exact t6 x (by omega)
    · exact Itl_ag hT ((((ag.rf [407, 406, 524] w).sI (by simp)).sI (by simp)).sI (by simp))
theorem ok_drew {N : Nat} : Ok_drew N Inv := fun a1 w hI => by
  obtain ⟨o, H, hW, hT⟩ := hI
  obtain ⟨h1, h2, h3, h4, h5, h6, h7, h8, h9⟩ := id hW
  have hn := h1.1
  obtain ⟨t1, t2, t3, t4, t5, t6⟩ := id h7
  have h8' : ∀ y ∈ H, y < 8 := fun y hy => by have := t2 y hy; omega
  have hcd := cd_small h8' (by omega)
  rcases cix a1 (n := oN o) (by omega) with h | ⟨x, hx, rfl⟩
  · refine ⟨ng 1, w, w, ?_, ?_, o, H, hW, hT⟩
    · unfold f_X4_drew; rw [e_isMate_f hn h3.1 h]; simp only [bs, l0, l1, l2, l3, l4, l5, l6, l7, l8, l9, l10, l12, l15, l30, l31, l32, l40, l42, l48, l57, l60, l64, l98, l99, l100, l109, l110, l112, l115, l265, l1000, l518400, ngd, if_true, if_false, bn0, reduceCtorEq, n10, z1, z3, z0]
    · unfold f_X5_drew; rw [e_misMate_f hn h4.1 h]; simp only [bs, l0, l1, l2, l3, l4, l5, l6, l7, l8, l9, l10, l12, l15, l30, l31, l32, l40, l42, l48, l57, l60, l64, l98, l99, l100, l109, l110, l112, l115, l265, l1000, l518400, ngd, if_true, if_false, bn0, reduceCtorEq, n10, z1, z3, z0]
  · by_cases c : H.length ≤ x
    · refine ⟨ng 9, w, w, ?_, ?_, o, H, hW, hT⟩
      · unfold f_X4_drew; rw [e_isMate_t hn h3.1 hx]; simp only [bs, l0, l1, l2, l3, l4, l5, l6, l7, l8, l9, l10, l12, l15, l30, l31, l32, l40, l42, l48, l57, l60, l64, l98, l99, l100, l109, l110, l112, l115, l265, l1000, l518400, ngd, if_true, if_false, bn0, reduceCtorEq, n10, z1, z3, z0]; rw [t3, iT (nI_le c (by omega))]
      · unfold f_X5_drew; rw [e_misMate_t hn h4.1 hx]; simp only [bs, l0, l1, l2, l3, l4, l5, l6, l7, l8, l9, l10, l12, l15, l30, l31, l32, l40, l42, l48, l57, l60, l64, l98, l99, l100, l109, l110, l112, l115, l265, l1000, l518400, ngd, if_true, if_false, bn0, reduceCtorEq, n10, z1, z3, z0]; rw [t5, iT (nI_le c (by omega))]
    · refine ⟨nI (dg H x), w, w, ?_, ?_, o, H, hW, hT⟩
      · unfold f_X4_drew; rw [e_isMate_t hn h3.1 hx]; simp only [bs, l0, l1, l2, l3, l4, l5, l6, l7, l8, l9, l10, l12, l15, l30, l31, l32, l40, l42, l48, l57, l60, l64, l98, l99, l100, l109, l110, l112, l115, l265, l1000, l518400, ngd, if_true, if_false, bn0, reduceCtorEq, n10, z1, z3, z0]; rw [t3, iF (nI_ge (by omega) (by omega)), t4, e_paper (by omega) (by omega), pp_cd H x h8']; simp only [bs, l0, l1, l2, l3, l4, l5, l6, l7, l8, l9, l10, l12, l15, l30, l31, l32, l40, l42, l48, l57, l60, l64, l98, l99, l100, l109, l110, l112, l115, l265, l1000, l518400, ngd, if_true, if_false, bn0, reduceCtorEq, n10, z1, z3, z0]
      · unfold f_X5_drew; rw [e_misMate_t hn h4.1 hx]; simp only [bs, l0, l1, l2, l3, l4, l5, l6, l7, l8, l9, l10, l12, l15, l30, l31, l32, l40, l42, l48, l57, l60, l64, l98, l99, l100, l109, l110, l112, l115, l265, l1000, l518400, ngd, if_true, if_false, bn0, reduceCtorEq, n10, z1, z3, z0]; rw [t5, iF (nI_ge (by omega) (by omega)), gd_in (by omega) (by omega), nI_clamp (by omega), t6 x (by omega)]
/-! draw -/
theorem drop_dg {d : List Nat} {k : Nat} (h : k < d.length) : d.drop k = dg d k :: d.drop (k + 1) := by
  rw [List.drop_eq_getElem_cons h]
  unfold dg
  rw [List.getD_eq_getElem?_getD, List.getElem?_eq_getElem h]; rfl
theorem e_isTaken_L {N x n : Nat} {H : List Nat} {w : Wd} (hn : n ≤ 6) (hH : ∀ y ∈ H, y < n) (hl : H.length ≤ n) (hx : x < n) (h1 : gI w 407 0 = nI H.length) (h2 : gI w 406 0 = nI (cd H)) : ∀ (m k F : Nat), k + m = H.length → m < F → X4_isTaken_L1 N (nI x) F (nI k) w = some (if x ∈ H.drop k then .inl (nI 1, w) else .inr w) := by
  have h8' : ∀ y ∈ H, y < 8 := fun y hy => by have := hH y hy; omega
  have hcd := cd_small h8' (by omega)
  intro m
  induction m with
  | zero =>
    intro k F hk hF
    obtain ⟨F, rfl, _⟩ := fuel_s hF
    rw [X4_isTaken_L1, h1, iT (nI_le (by omega) (by omega)), if_neg]
    rw [List.drop_of_length_le (by omega)]; simp
  | succ m ih =>
    intro k F hk hF
    obtain ⟨F, rfl, hF'⟩ := fuel_s hF
    have hy := hH _ (dg_mem (d := H) (x := k) (by omega))
    rw [X4_isTaken_L1, h1, iF (nI_ge (by omega) (by omega)), h2, e_paper (by omega) (by omega), pp_cd H k h8', drop_dg (show k < H.length by omega)]
    simp only [bs, l0, l1, l2, l3, l4, l5, l6, l7, l8, l9, l10, l12, l15, l30, l31, l32, l40, l42, l48, l57, l60, l64, l98, l99, l100, l109, l110, l112, l115, l265, l1000, l518400, ngd]
    by_cases c : dg H k = x
    · rw [iT (by rw [c]), if_pos (by rw [c]; exact List.mem_cons_self)]
    · have c' : ¬ x = dg H k := fun q => c q.symm
      rw [iF (fun q => c ((nI_eq (by omega) (by omega)).mp q)), nI_add, ih (k + 1) F (by omega) (by omega)]
      simp [c']
theorem e_isTaken {N x n : Nat} {H : List Nat} {w : Wd} (hN : 1000 ≤ N) (hn : n ≤ 6) (hH : ∀ y ∈ H, y < n) (hl : H.length ≤ n) (hx : x < n) (h1 : gI w 407 0 = nI H.length) (h2 : gI w 406 0 = nI (cd H)) : f_X4_isTaken N (nI x) w = some (nI (bn (decide (x ∈ H))), w) := by
  unfold f_X4_isTaken
  simp only [bs, l0, l1, l2, l3, l4, l5, l6, l7, l8, l9, l10, l12, l15, l30, l31, l32, l40, l42, l48, l57, l60, l64, l98, l99, l100, l109, l110, l112, l115, l265, l1000, l518400, ngd]
  rw [e_isTaken_L hn hH hl hx h1 h2 H.length 0 N (by omega) (by omega), List.drop_zero]
  by_cases c : x ∈ H <;> simp [c, bn, bs]
theorem e_draw_L {N x n : Nat} {H : List Nat} {w : Wd} (hn : n ≤ 6) (hH : ∀ y ∈ H, y < n) (hl : H.length ≤ n) (hx : x < n) (h1 : gI w 524 0 = nI H.length) (h2 : ∀ x, x < H.length → gA w 42 0 x = nI (dg H x)) : ∀ (m k F : Nat), k + m = H.length → m < F → X5_draw_L1 N (nI x) F (nI k) w = some (if x ∈ H.drop k then .inl (ng 4, w) else .inr w) := by
  intro m
  induction m with
  | zero =>
    intro k F hk hF
    obtain ⟨F, rfl, _⟩ := fuel_s hF
    rw [X5_draw_L1, h1, iT (nI_le (by omega) (by omega)), if_neg]
    rw [List.drop_of_length_le (by omega)]; simp
  | succ m ih =>
    intro k F hk hF
    obtain ⟨F, rfl, hF'⟩ := fuel_s hF
    have hy := hH _ (dg_mem (d := H) (x := k) (by omega))
    rw [X5_draw_L1, h1, iF (nI_ge (by omega) (by omega)), gd_in (by omega) (by omega), nI_clamp (by omega), h2 k (by omega), drop_dg (show k < H.length by omega)]
    simp only [bs, l0, l1, l2, l3, l4, l5, l6, l7, l8, l9, l10, l12, l15, l30, l31, l32, l40, l42, l48, l57, l60, l64, l98, l99, l100, l109, l110, l112, l115, l265, l1000, l518400, ngd]
    by_cases c : dg H k = x
    · rw [iT (by rw [c]), if_pos (by rw [c]; exact List.mem_cons_self)]
    · have c' : ¬ x = dg H k := fun q => c q.symm
      rw [iF (fun q => c ((nI_eq (by omega) (by omega)).mp q)), nI_add, ih (k + 1) F (by omega) (by omega)]
      simp [c']
theorem mem_snoc {p : List Nat} {x n : Nat} (h : ∀ y ∈ p, y < n) (hx : x < n) : ∀ y ∈ p ++ [x], y < n := fun y hy => by
  rcases List.mem_append.mp hy with q | q
  · exact h y q
  · rw [List.mem_singleton.mp q]; exact hx
/-- one more paper, both sides -/
theorem IW_take {o : Of} {H : List Nat} {x : Nat} {w w1 : Wd} {S : List Nat} (hW : IW o H w) (hl : H.length < oN o) (hx : x < oN o) (g : ag S (sI (sI w 406 0 (nI (cd (H ++ [x])))) 407 0 (nI (H.length + 1))) w1) (hs : ∀ k ∈ KW ++ [411, 201, 20], k ∉ S) : IW o (H ++ [x]) (sI (sA w1 42 0 (upd (gA w 42 0) H.length (nI x))) 524 0 (nI (H.length + 1))) := by
  obtain ⟨h1, h2, h3, h4, h5, h6, h7, h8, h9⟩ := hW
  obtain ⟨t1, t2, t3, t4, t5, t6⟩ := h7
  have hs' : ∀ k ∈ KW ++ [411, 201, 20], k ∉ S := hs
  have g2 : ag (S ++ [406, 407, 42, 524]) w (sI (sA w1 42 0 (upd (gA w 42 0) H.length (nI x))) 524 0 (nI (H.length + 1))) := (((((ag.rf (S ++ [406, 407, 42, 524]) w).sI (by simp)).sI (by simp)).tr (g.mono (fun k hk => List.mem_append_left _ hk))).sA (by simp)).sI (by simp)
  have dj : ∀ T : List Nat, (∀ k ∈ T, k ∈ KW ++ [411, 201, 20] ∧ k ∉ [406, 407, 42, 524]) → ∀ k ∈ T, k ∉ S ++ [406, 407, 42, 524] := fun T hT k hk q => by
    rcases List.mem_append.mp q with q | q
    · exact hs k (hT k hk).1 q
    · exact (hT k hk).2 q
  have hl2 : (H ++ [x]).length = H.length + 1 := by rw [List.length_append, List.length_singleton]
  refine ⟨h1, h2, RO_ag h3 g2 (fun k hk => dj [4, 5, 6, 16, 17, 18, 19] (by decide) _ (by simpa using hk)), RM_ag h4 g2 (dj _ (by decide)), Iro_ag h5 g2 (dj _ (by decide)), Itx_ag h6 g2 (dj _ (by decide)), ⟨by omega, mem_snoc t2 hx, ?_, ?_, ?_, fun y hy => ?_⟩, Ikp_ag h8 g2 (dj _ (by decide)), Ist_ag h9 g2 (dj _ (by decide))⟩
  · rw [hl2]
    show gI w1 407 0 = _
    rw [g.1 407 0 (hs 407 (by decide)) (by decide)]; rfl
  · show gI w1 406 0 = _
    rw [g.1 406 0 (hs 406 (by decide)) (by decide)]; rfl
  · rw [hl2]; rfl
  · rw [hl2] at hy
    rw [gA_sI, gA_sA, if_pos ⟨rfl, rfl⟩]
    by_cases c : y = H.length
    · rw [c, pk_us, dg_app_r]
    · rw [pk_un c, dg_app_l (by omega)]; exact t6 y (by omega)
theorem e_takePaper {N x n : Nat} {H : List Nat} {w : Wd} (hn : n ≤ 6) (hH : ∀ y ∈ H, y < n) (hl : H.length < n) (hx : x < n) (h1 : gI w 407 0 = nI H.length) (h2 : gI w 406 0 = nI (cd H)) : f_X4_takePaper N (nI x) w = some (sI (sI w 406 0 (nI (cd (H ++ [x])))) 407 0 (nI (H.length + 1))) := by
  have h8' : ∀ y ∈ H, y < 8 := fun y hy => by have := hH y hy; omega
  unfold f_X4_takePaper
  rw [h1, h2]
  simp only [bs, l0, l1, l2, l3, l4, l5, l6, l7, l8, l9, l10, l12, l15, l30, l31, l32, l40, l42, l48, l57, l60, l64, l98, l99, l100, l109, l110, l112, l115, l265, l1000, l518400, ngd]
  have hsh : nI x <<< (nI (3 * H.length) &&& nI 31) = nI (x <<< (3 * H.length)) := nx_shl (by omega) (by
    have h1 : (2 : Nat) ^ (3 * H.length) ≤ 2 ^ 15 := Nat.pow_le_pow_right (by omega) (by omega)
    have h2 : x * 2 ^ (3 * H.length) ≤ 6 * 2 ^ 15 := Nat.mul_le_mul (by omega) h1
    omega)
  rw [pk_mul, hsh, nx_or, cd_or H x h8', show gI (sI w 406 0 (nI (cd (H ++ [x])))) 407 0 = nI H.length from h1, nI_add]
theorem ok_draw {N : Nat} (hN : 1000 ≤ N) : Ok_draw N Inv := fun a1 w hI => by
  obtain ⟨o, H, hW, hT⟩ := hI
  obtain ⟨h1, h2, h3, h4, h5, h6, h7, h8, h9⟩ := id hW
  have hn := h1.1
  obtain ⟨t1, t2, t3, t4, t5, t6⟩ := id h7
  have h8' : ∀ y ∈ H, y < 8 := fun y hy => by have := t2 y hy; omega
  rcases cix a1 (n := oN o) (by omega) with h | ⟨x, hx, rfl⟩
  · refine ⟨ng 1, w, w, ?_, ?_, o, H, hW, hT⟩
    · unfold f_X4_draw; rw [e_isMate_f hn h3.1 h]; simp only [bs, l0, l1, l2, l3, l4, l5, l6, l7, l8, l9, l10, l12, l15, l30, l31, l32, l40, l42, l48, l57, l60, l64, l98, l99, l100, l109, l110, l112, l115, l265, l1000, l518400, ngd, if_true, if_false, bn0, reduceCtorEq, n10, z1, z3, z0]
    · unfold f_X5_draw; rw [e_misMate_f hn h4.1 h]; simp only [bs, l0, l1, l2, l3, l4, l5, l6, l7, l8, l9, l10, l12, l15, l30, l31, l32, l40, l42, l48, l57, l60, l64, l98, l99, l100, l109, l110, l112, l115, l265, l1000, l518400, ngd, if_true, if_false, bn0, reduceCtorEq, n10, z1, z3, z0]
  by_cases c1 : oN o ≤ H.length
  · refine ⟨ng 4, w, w, ?_, ?_, o, H, hW, hT⟩
    · unfold f_X4_draw; rw [e_isMate_t hn h3.1 hx]; simp only [bs, l0, l1, l2, l3, l4, l5, l6, l7, l8, l9, l10, l12, l15, l30, l31, l32, l40, l42, l48, l57, l60, l64, l98, l99, l100, l109, l110, l112, l115, l265, l1000, l518400, ngd, if_true, if_false, bn0, reduceCtorEq, n10, z1, z3, z0]; rw [h3.1, t3, iT (nI_le c1 (by omega))]
    · unfold f_X5_draw; rw [e_misMate_t hn h4.1 hx]; simp only [bs, l0, l1, l2, l3, l4, l5, l6, l7, l8, l9, l10, l12, l15, l30, l31, l32, l40, l42, l48, l57, l60, l64, l98, l99, l100, l109, l110, l112, l115, l265, l1000, l518400, ngd, if_true, if_false, bn0, reduceCtorEq, n10, z1, z3, z0]; rw [h4.1, t5, iT (by rw [show H.length = oN o by omega])]
  have hbl := bar_le o H.length x
  have hcl : ∀ (b1 b2 b3 : Bool), b1 = decide (x ∈ H) → (b1 = true ∨ ¬ bar o H.length x = 0 ∨ bck o H x = true) → f_X4_draw N (nI x) w = some (ng 4, w) := fun b1 b2 b3 e1 hb => by
    unfold f_X4_draw; rw [e_isMate_t hn h3.1 hx]; simp only [bs, l0, l1, l2, l3, l4, l5, l6, l7, l8, l9, l10, l12, l15, l30, l31, l32, l40, l42, l48, l57, l60, l64, l98, l99, l100, l109, l110, l112, l115, l265, l1000, l518400, ngd, if_true, if_false, bn0, reduceCtorEq, n10, z1, z3, z0]; rw [h3.1, t3, iF (nI_ge (by omega) (by omega)), e_isTaken hN hn t2 t1 hx t3 t4]; simp only [bs, l0, l1, l2, l3, l4, l5, l6, l7, l8, l9, l10, l12, l15, l30, l31, l32, l40, l42, l48, l57, l60, l64, l98, l99, l100, l109, l110, l112, l115, l265, l1000, l518400, ngd, if_true, if_false, bn0, reduceCtorEq, n10, z1, z3, z0]
    by_cases d1 : x ∈ H
    · rw [iF (by simp [d1])]
    rw [iT (by simp [d1]), t3, e_barrier h3 h1 (by omega) hx]; simp only [bs, l0, l1, l2, l3, l4, l5, l6, l7, l8, l9, l10, l12, l15, l30, l31, l32, l40, l42, l48, l57, l60, l64, l98, l99, l100, l109, l110, l112, l115, l265, l1000, l518400, ngd, if_true, if_false, bn0, reduceCtorEq, n10, z1, z3, z0]
    by_cases d2 : bar o H.length x = 0
    · rw [iT (by rw [d2]), t3, t4, e_drawsBack h3 h1 t2 (by omega) hx]; simp only [bs, l0, l1, l2, l3, l4, l5, l6, l7, l8, l9, l10, l12, l15, l30, l31, l32, l40, l42, l48, l57, l60, l64, l98, l99, l100, l109, l110, l112, l115, l265, l1000, l518400, ngd, if_true, if_false, bn0, reduceCtorEq, n10, z1, z3, z0]
      rw [iF]
      rcases hb with hb | hb | hb
      · rw [e1] at hb; exact absurd (of_decide_eq_true hb) d1
      · exact absurd d2 hb
      · simp [hb]
    · rw [iF (fun q => d2 ((nI_eq (by omega) (by omega)).mp q))]
  have hmo : (x ∈ H ∨ ¬ bar o H.length x = 0 ∨ bck o H x = true) → f_X5_draw N (nI x) w = some (ng 4, w) := fun hb => by
    unfold f_X5_draw; rw [e_misMate_t hn h4.1 hx]; simp only [bs, l0, l1, l2, l3, l4, l5, l6, l7, l8, l9, l10, l12, l15, l30, l31, l32, l40, l42, l48, l57, l60, l64, l98, l99, l100, l109, l110, l112, l115, l265, l1000, l518400, ngd, if_true, if_false, bn0, reduceCtorEq, n10, z1, z3, z0]; rw [h4.1, t5, iF (fun q => by have := (nI_eq (by omega) (by omega)).mp q; omega), e_barOf h4 h1 (by omega) hx]; simp only [bs, l0, l1, l2, l3, l4, l5, l6, l7, l8, l9, l10, l12, l15, l30, l31, l32, l40, l42, l48, l57, l60, l64, l98, l99, l100, l109, l110, l112, l115, l265, l1000, l518400, ngd, if_true, if_false, bn0, reduceCtorEq, n10, z1, z3, z0]
    by_cases d2 : bar o H.length x = 0
    · rw [iT (by rw [d2]), e_draw_L hn t2 t1 hx t5 t6 H.length 0 N (by omega) (by omega), List.drop_zero]
      by_cases d1 : x ∈ H
      · rw [if_pos d1]; simp only [bs, l0, l1, l2, l3, l4, l5, l6, l7, l8, l9, l10, l12, l15, l30, l31, l32, l40, l42, l48, l57, l60, l64, l98, l99, l100, l109, l110, l112, l115, l265, l1000, l518400, ngd, if_true, if_false, bn0, reduceCtorEq, n10, z1, z3, z0]; rfl
      · rw [if_neg d1]
        simp only [bs, Sum.elim_inr]
        have d3 : bck o H x = true := by
          rcases hb with hb | hb | hb
          · exact absurd hb d1
          · exact absurd d2 hb
          · exact hb
        obtain ⟨z1, z2, z3⟩ := of_decide_eq_true d3
        rw [t5, iF (nI_ge (by omega) (by omega)), gd_in (by omega) (by omega), nI_clamp (by omega), t6 x z1, z2, iT rfl, e_isBack h4 h1 (by omega) hx, z3]
        simp only [bs, l0, l1, l2, l3, l4, l5, l6, l7, l8, l9, l10, l12, l15, l30, l31, l32, l40, l42, l48, l57, l60, l64, l98, l99, l100, l109, l110, l112, l115, l265, l1000, l518400, ngd, if_true, if_false, bn0, reduceCtorEq, n10, z1, z3, z0]
    · rw [iF (fun q => d2 ((nI_eq (by omega) (by omega)).mp q))]
  by_cases c2 : x ∈ H ∨ ¬ bar o H.length x = 0 ∨ bck o H x = true
  · exact ⟨ng 4, w, w, hcl (decide (x ∈ H)) true true rfl (c2.imp (fun q => decide_eq_true q) id), hmo c2, o, H, hW, hT⟩
  have d1 : x ∉ H := fun q => c2 (Or.inl q)
  have d2 : bar o H.length x = 0 := Decidable.byContradiction fun q => c2 (Or.inr (Or.inl q))
  have d3 : bck o H x = false := by
    cases e : bck o H x with
    | false => rfl
    | true => exact absurd (Or.inr (Or.inr e)) c2
  obtain ⟨w1, hw1⟩ : ∃ w1, w1 = sI (sI w 406 0 (nI (cd (H ++ [x])))) 407 0 (nI (H.length + 1)) := ⟨_, rfl⟩
  have g1 : ag [406, 407] w w1 := by rw [hw1]; exact ((ag.rf _ w).sI (by simp)).sI (by simp)
  refine ⟨nI (H.length + 1), w1, sI (sA w1 42 0 (upd (gA w 42 0) H.length (nI x))) 524 0 (nI (H.length + 1)), ?_, ?_, o, H ++ [x], IW_take (S := []) hW (by omega) hx (by rw [← hw1]; exact ag.rf _ _) (by simp), ?_⟩
  · unfold f_X4_draw; rw [e_isMate_t hn h3.1 hx]; simp only [bs, l0, l1, l2, l3, l4, l5, l6, l7, l8, l9, l10, l12, l15, l30, l31, l32, l40, l42, l48, l57, l60, l64, l98, l99, l100, l109, l110, l112, l115, l265, l1000, l518400, ngd, if_true, if_false, bn0, reduceCtorEq, n10, z1, z3, z0]; rw [h3.1, t3, iF (nI_ge (by omega) (by omega)), e_isTaken hN hn t2 t1 hx t3 t4]; simp only [bs, l0, l1, l2, l3, l4, l5, l6, l7, l8, l9, l10, l12, l15, l30, l31, l32, l40, l42, l48, l57, l60, l64, l98, l99, l100, l109, l110, l112, l115, l265, l1000, l518400, ngd, if_true, if_false, bn0, reduceCtorEq, n10, z1, z3, z0]
    rw [iT (by simp [d1]), t3, e_barrier h3 h1 (by omega) hx]; simp only [bs, l0, l1, l2, l3, l4, l5, l6, l7, l8, l9, l10, l12, l15, l30, l31, l32, l40, l42, l48, l57, l60, l64, l98, l99, l100, l109, l110, l112, l115, l265, l1000, l518400, ngd, if_true, if_false, bn0, reduceCtorEq, n10, z1, z3, z0]
    rw [iT (by rw [d2]), t3, t4, e_drawsBack h3 h1 t2 (by omega) hx]; simp only [bs, l0, l1, l2, l3, l4, l5, l6, l7, l8, l9, l10, l12, l15, l30, l31, l32, l40, l42, l48, l57, l60, l64, l98, l99, l100, l109, l110, l112, l115, l265, l1000, l518400, ngd, if_true, if_false, bn0, reduceCtorEq, n10, z1, z3, z0]
    rw [iT d3, e_takePaper hn t2 (by omega) hx t3 t4, ← hw1]; simp only [bs, l0, l1, l2, l3, l4, l5, l6, l7, l8, l9, l10, l12, l15, l30, l31, l32, l40, l42, l48, l57, l60, l64, l98, l99, l100, l109, l110, l112, l115, l265, l1000, l518400, ngd, if_true, if_false, bn0, reduceCtorEq, n10, z1, z3, z0]
    rw [hw1, gI_sI, iT ⟨rfl, rfl⟩]
  · have h4' := RM_ag h4 g1
    have t5' : gI w1 524 0 = nI H.length := by rw [agI g1 524 0]; exact t5
    have t6' : ∀ y, y < H.length → gA w1 42 0 y = nI (dg H y) := by rw [agA g1 42 0]; exact t6
    have j101 : X5_draw_J101 N (nI x) w1 = some (nI (H.length + 1), sI (sA w1 42 0 (upd (gA w 42 0) H.length (nI x))) 524 0 (nI (H.length + 1))) := by
      unfold X5_draw_J101
      rw [t5', gd_in (by omega) (by omega)]; simp only [bs, l0, l1, l2, l3, l4, l5, l6, l7, l8, l9, l10, l12, l15, l30, l31, l32, l40, l42, l48, l57, l60, l64, l98, l99, l100, l109, l110, l112, l115, l265, l1000, l518400, ngd]
      rw [nI_clamp (by omega), agA g1 42 0, show gI (sA w1 42 0 (upd (gA w 42 0) H.length (nI x))) 524 0 = nI H.length from t5', nI_add, gI_sI, iT ⟨rfl, rfl⟩]
    unfold f_X5_draw; rw [e_misMate_t hn h4'.1 hx]; simp only [bs, l0, l1, l2, l3, l4, l5, l6, l7, l8, l9, l10, l12, l15, l30, l31, l32, l40, l42, l48, l57, l60, l64, l98, l99, l100, l109, l110, l112, l115, l265, l1000, l518400, ngd, if_true, if_false, bn0, reduceCtorEq, n10, z1, z3, z0]; rw [h4'.1, t5', iF (fun q => by have := (nI_eq (by omega) (by omega)).mp q; omega), e_barOf h4' h1 (by omega) hx]; simp only [bs, l0, l1, l2, l3, l4, l5, l6, l7, l8, l9, l10, l12, l15, l30, l31, l32, l40, l42, l48, l57, l60, l64, l98, l99, l100, l109, l110, l112, l115, l265, l1000, l518400, ngd, if_true, if_false, bn0, reduceCtorEq, n10, z1, z3, z0]
    rw [iT (by rw [d2]), e_draw_L hn t2 t1 hx t5' t6' H.length 0 N (by omega) (by omega), List.drop_zero, if_neg d1]
    simp only [bs, Sum.elim_inr]
    rw [t5', j101]
    by_cases q : H.length ≤ x
    · rw [iT (nI_le q (by omega))]
    · rw [iF (nI_ge (by omega) (by omega)), gd_in (by omega) (by omega), nI_clamp (by omega), t6' x (by omega)]
      have hy := t2 _ (dg_mem (d := H) (x := x) (by omega))
      by_cases q2 : dg H x = H.length
      · rw [iT (by rw [q2]), e_isBack h4' h1 (by omega) hx]
        have q3 : mnd o H.length x = false := by
          cases e : mnd o H.length x with
          | false => rfl
          | true =>
            have : ¬ (x < H.length ∧ dg H x = H.length ∧ mnd o H.length x = true) := of_decide_eq_false d3
            exact absurd ⟨by omega, q2, e⟩ this
        rw [q3]
        simp only [bs, l0, l1, l2, l3, l4, l5, l6, l7, l8, l9, l10, l12, l15, l30, l31, l32, l40, l42, l48, l57, l60, l64, l98, l99, l100, l109, l110, l112, l115, l265, l1000, l518400, ngd, if_true, if_false, bn0, reduceCtorEq, n10, z1, z3, z0]
        exact j101
      · rw [iF (fun z => q2 ((nI_eq (by omega) (by omega)).mp z))]
  · exact Itl_ag hT (((g1.mono (by decide)).sA (by simp)).sI (by simp) : ag [406, 407, 42, 524] w _)
