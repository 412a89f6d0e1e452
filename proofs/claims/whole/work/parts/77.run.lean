/-! run -/
theorem first1 {L : List (List Nat)} (p : List Nat → Bool) : ∀ (m k : Nat), k + m = L.length → ((L.drop k).filter p).take 1 = match fst (fun i => p (dr L i)) m k with | some j => [dr L j] | none => [] := by
  intro m
  induction m with
  | zero => intro k hk; rw [List.drop_of_length_le (by omega), fst]; rfl
  | succ m ih =>
    intro k hk
    rw [drop_dr (show k < L.length by omega), fst]
    cases c : p (dr L k) with
    | true => rw [if_pos rfl, List.filter_cons_of_pos c]; rfl
    | false => rw [if_neg (by simp), List.filter_cons_of_neg (by simp [c])]; exact ih (k + 1) (by omega)
def nwf (o : Of) (i : Nat) : Bool := qf o true (dr (rights o) i)
def nw1 (o : Of) : Option Nat := fst (nwf o) (rights o).length 0
def rnf : Nat → Of → Nat
  | 0, _ => 0
  | m + 1, o => match nw1 o with
    | none => 0
    | some k => 1 + rnf m (setY o (oY o ++ [dr (rights o) k]))
theorem nw1_lt {o : Of} {k : Nat} (h : nw1 o = some k) : k < (rights o).length := by
  obtain ⟨_, b, _⟩ := fst_some _ _ _ h; omega
theorem rnf_le : ∀ (m : Nat) (o : Of), rnf m o ≤ m := by
  intro m
  induction m with
  | zero => intro o; exact Nat.le_refl _
  | succ m ih =>
    intro o
    rw [rnf]
    cases nw1 o with
    | none => exact Nat.zero_le _
    | some k => have := ih (setY o (oY o ++ [dr (rights o) k])); dsimp only; omega
abbrev SU : List Nat := [1019, 1005, 1020, 1201, 1204, 1205, 1021]
theorem e_run_L {N : Nat} (hN : 1000 ≤ N) : ∀ (m k F : Nat) (o : Of) (w : Wd), k + m = 30 → m < F → Wf o → oC o + m ≤ 42 → RO 1 o w → ∃ w', ((X4_run_L1 N F (nI k) w).bind (Sum.elim some (fun q5 => some (nI 30, q5)))) = some (nI (k + rnf m o), w') ∧ ag SU w w' := by
  intro m
  induction m with
  | zero =>
    intro k F o w hk hF hf hc hR
    obtain ⟨F, rfl, _⟩ := fuel_s hF
    rw [X4_run_L1, rnf]
    simp only [bs, l0, l1, l2, l3, l4, l5, l6, l7, l8, l9, l10, l12, l15, l30, l31, l32, l40, l42, l48, l57, l60, l64, l98, l99, l100, l109, l110, l112, l115, l265, l1000, l518400, ngd]
    rw [iT (nI_le (by omega) (by omega))]
    exact ⟨w, by rw [show k + 0 = 30 by omega]; rfl, ag.rf _ _⟩
  | succ m ih =>
    intro k F o w hk hF hf hc hR
    obtain ⟨F, rfl, hF'⟩ := fuel_s hF
    obtain ⟨w1, e1, a1, a2⟩ := e_list (N := N) (i := 1) (a := 1) (nw := true) (w := w) hN hf (by omega) hR
    have e1' : f_X2_list N 1 (nI 1) (nI 1) w = _ := e1
    have hfi := first1 (L := rights o) (qf o true) (rights o).length 0 (by omega)
    rw [List.drop_zero] at hfi
    have hfi' : ((rights o).filter (qf o true)).take 1 = match nw1 o with | some j => [dr (rights o) j] | none => [] := hfi
    rw [hfi'] at e1' a2
    have g1 : ag SU w w1 := a1.mono (by decide)
    rw [X4_run_L1, rnf]
    simp only [bs, l0, l1, l2, l3, l4, l5, l6, l7, l8, l9, l10, l12, l15, l30, l31, l32, l40, l42, l48, l57, l60, l64, l98, l99, l100, l109, l110, l112, l115, l265, l1000, l518400, ngd]
    rw [iF (nI_ge (by omega) (by omega)), e1']
    simp only [bs, l0, l1, l2, l3, l4, l5, l6, l7, l8, l9, l10, l12, l15, l30, l31, l32, l40, l42, l48, l57, l60, l64, l98, l99, l100, l109, l110, l112, l115, l265, l1000, l518400, ngd]
    cases c : nw1 o with
    | none =>
      rw [iT (by rfl)]
      exact ⟨w1, by simp [bs], g1⟩
    | some j =>
      have hj := nw1_lt c
      have hL := LOk_r hf
      have hd := LOk_at hL hj
      rw [c] at a2
      have h0 := a2.2 0 (by simp)
      have hd0 : dr [dr (rights o) j] 0 = dr (rights o) j := rfl
      rw [hd0] at h0
      have hR1 : RO 1 o w1 := RO_ag hR a1 (by decide)
      rw [iF (show ¬ nI ([dr (rights o) j] : List (List Nat)).length = nI 0 from (by decide : ¬ nI 1 = nI 0)), gd_in (by omega) (by omega), nI_clamp (by omega), h0, e_addYear (by omega) hR1.2.1]
      simp only [bs, l0, l1, l2, l3, l4, l5, l6, l7, l8, l9, l10, l12, l15, l30, l31, l32, l40, l42, l48, l57, l60, l64, l98, l99, l100, l109, l110, l112, l115, l265, l1000, l518400, ngd]
      rw [nI_add]
      obtain ⟨wx, hwx⟩ : ∃ wx, wx = sI (sA w1 19 1 (upd (gA w1 19 1) (oC o) (nI (cd (dr (rights o) j))))) 5 1 (nI (oC o + 1)) := ⟨_, rfl⟩
      rw [← hwx]
      have gx : ag SU w1 wx := by rw [hwx]; exact ((ag.rf _ w1).sA (by decide)).sI (by decide)
      have gy : ag [1019, 1005] w1 wx := by rw [hwx]; exact ((ag.rf _ w1).sA (by decide)).sI (by decide)
      obtain ⟨hwf, hc3⟩ := Wf_year hf hd (show oC o < 42 by omega)
      have hRx : RO 1 (setY o (oY o ++ [dr (rights o) j])) wx := RO_year hR1 hf hd (by omega) (agI gy 4 1) (agI gy 6 1) (by rw [hwx, gI_sI, if_pos ⟨rfl, rfl⟩]) (agA gy 16 1) (agA gy 17 1) (agA gy 18 1) (by rw [hwx, gA_sI, gA_sA, if_pos ⟨rfl, rfl⟩])
      obtain ⟨w', e, b1⟩ := ih (k + 1) F _ wx (by omega) (by omega) hwf (by rw [hc3]; omega) hRx
      exact ⟨w', by rw [e]; rw [show k + 1 + rnf m (setY o (oY o ++ [dr (rights o) j])) = k + (1 + rnf m (setY o (oY o ++ [dr (rights o) j]))) by omega], (g1.tr gx).tr b1⟩
/-! the model's -/
theorem e_isYear_L2 {N k y : Nat} {o : Of} {w : Wd} (hf : Wf o) (hR : RM o w) (hT : RTS (oN o) (rights o) w) (hk : k < (rights o).length) (hy : y < oC o) : ∀ (m x F : Nat) (b : Bool), x + m = oN o → m < F → X5_isYear_L2 N (nI k) (nI y) F (nI (bn b)) (nI x) w = some (nI (bn (b && alk (dr (oY o) y) (dr (rights o) k) m x)), w) := by
  have hn := hf.1
  have hc := hf.2.2.2.1
  have hL := LOk_r hf
  intro m
  induction m with
  | zero =>
    intro x F b hx hF
    obtain ⟨F, rfl, _⟩ := fuel_s hF
    rw [X5_isYear_L2, hR.1, iT (nI_le (by omega) (by omega)), alk, Bool.and_true]
  | succ m ih =>
    intro x F b hx hF
    obtain ⟨F, rfl, hF'⟩ := fuel_s hF
    have h1 := Pm_dg (LOk_at hL hk) (x := x) (by omega)
    have h2 := Pm_dg (Wf_yr hf hy) (x := x) (by omega)
    rw [X5_isYear_L2, hR.1, iF (nI_ge (by omega) (by omega)), e_right hL hT hk (by omega), alk]
    simp only [bs, l0, l1, l2, l3, l4, l5, l6, l7, l8, l9, l10, l12, l15, l30, l31, l32, l40, l42, l48, l57, l60, l64, l98, l99, l100, l109, l110, l112, l115, l265, l1000, l518400, ngd]
    cases b with
    | false =>
      rw [iT bnFc, nI_add, show nI 0 = nI (bn false) from rfl, ih (x + 1) F false (by omega) (by omega)]; simp
    | true =>
      rw [iF bnTc, pk_mul, nI_add, gd_in (by omega) (by omega), nI_clamp (by omega), hR.2.2.2.2 y hy x (by omega)]
      by_cases c : dg (dr (oY o) y) x = dg (dr (rights o) k) x
      · rw [iT (by rw [c]), nI_add, show nI 1 = nI (bn true) from rfl, ih (x + 1) F true (by omega) (by omega)]; simp [c]
      · rw [iF (fun q => c ((nI_eq (by omega) (by omega)).mp q)), nI_add, show nI 0 = nI (bn false) from rfl, ih (x + 1) F false (by omega) (by omega)]; simp [c]
theorem e_isYear_L1 {N k : Nat} {o : Of} {w : Wd} (hN : 1000 ≤ N) (hf : Wf o) (hR : RM o w) (hT : RTS (oN o) (rights o) w) (hk : k < (rights o).length) : ∀ (m y F : Nat), y + m = oC o → m < F → X5_isYear_L1 N (nI k) F (nI y) w = some (if dr (rights o) k ∈ (oY o).drop y then .inl (nI 1, w) else .inr w) := by
  have hn := hf.1
  have hc := hf.2.2.2.1
  have hL := LOk_r hf
  intro m
  induction m with
  | zero =>
    intro y F hy hF
    obtain ⟨F, rfl, _⟩ := fuel_s hF
    rw [X5_isYear_L1, hR.2.1, iT (nI_le (by omega) (by omega)), if_neg]
    rw [List.drop_of_length_le (by unfold oC at hy; omega)]; simp
  | succ m ih =>
    intro y F hy hF
    obtain ⟨F, rfl, hF'⟩ := fuel_s hF
    have hy' : y < oC o := by omega
    rw [X5_isYear_L1, hR.2.1, iF (nI_ge (by omega) (by omega)), show (1 : Int32) = nI (bn true) from rfl, show (0 : Int32) = nI 0 from rfl, e_isYear_L2 hf hR hT hk hy' (oN o) 0 N true (by omega) (by omega), Bool.true_and, alk_eq (Wf_yr hf hy').1 (LOk_at hL hk).1, drop_dr (show y < (oY o).length from hy')]
    simp only [bs, l0, l1, l2, l3, l4, l5, l6, l7, l8, l9, l10, l12, l15, l30, l31, l32, l40, l42, l48, l57, l60, l64, l98, l99, l100, l109, l110, l112, l115, l265, l1000, l518400, ngd]
    by_cases c : dr (oY o) y = dr (rights o) k
    · rw [iF (by simp [c]; decide), if_pos (by rw [c]; exact List.mem_cons_self)]; rfl
    · have c' : ¬ dr (rights o) k = dr (oY o) y := fun q => c q.symm
      rw [iT (by simp [c]; decide), show nI (bn true) = nI 1 from rfl, nI_add, ih (y + 1) F (by omega) (by omega)]
      simp [c']
theorem e_isYear {N k : Nat} {o : Of} {w : Wd} (hN : 1000 ≤ N) (hf : Wf o) (hR : RM o w) (hT : RTS (oN o) (rights o) w) (hk : k < (rights o).length) : f_X5_isYear N (nI k) w = some (nI (bn (decide (dr (rights o) k ∈ oY o))), w) := by
  have hc := hf.2.2.2.1
  unfold f_X5_isYear
  simp only [bs, l0, l1, l2, l3, l4, l5, l6, l7, l8, l9, l10, l12, l15, l30, l31, l32, l40, l42, l48, l57, l60, l64, l98, l99, l100, l109, l110, l112, l115, l265, l1000, l518400, ngd]
  rw [e_isYear_L1 hN hf hR hT hk (oC o) 0 N (by omega) (by omega), List.drop_zero]
  by_cases c : dr (rights o) k ∈ oY o <;> simp [c, bn, bs]
theorem e_run_L2 {N : Nat} {x1 : Int32} {o : Of} {w : Wd} (hN : 1000 ≤ N) (hf : Wf o) (hR : RM o w) (hT : RTS (oN o) (rights o) w) : ∀ (m k F : Nat), k + m = (rights o).length → m < F → X5_run_L2 N x1 F (nI k) w = some (nI (match fst (nwf o) m k with | some j => j | none => (rights o).length), w) := by
  have hL := LOk_r hf
  have hl := hL.2.1
  intro m
  induction m with
  | zero =>
    intro k F hk hF
    obtain ⟨F, rfl, _⟩ := fuel_s hF
    rw [X5_run_L2, hT.1, iT (nI_le (by omega) (by omega)), fst, show k = (rights o).length by omega]
  | succ m ih =>
    intro k F hk hF
    obtain ⟨F, rfl, hF'⟩ := fuel_s hF
    rw [X5_run_L2, hT.1, iF (nI_ge (by omega) (by omega)), e_isYear hN hf hR hT (by omega), fst]
    simp only [bs, l0, l1, l2, l3, l4, l5, l6, l7, l8, l9, l10, l12, l15, l30, l31, l32, l40, l42, l48, l57, l60, l64, l98, l99, l100, l109, l110, l112, l115, l265, l1000, l518400, ngd]
    by_cases c : dr (rights o) k ∈ oY o
    · rw [iF (by simp [c]; decide), nI_add, ih (k + 1) F (by omega) (by omega), if_neg (by unfold nwf qf; simp [c])]
    · rw [iT (by simp [c]; decide), if_pos (by unfold nwf qf; simp [c])]
theorem e_run_L3 {N n k c : Nat} {x1 x2 : Int32} {L : List (List Nat)} (hL : LOk n L) (hk : k < L.length) (hc : c < 42) : ∀ (m x F : Nat) (w : Wd), RTS n L w → gI w 510 0 = nI n → gI w 518 0 = nI c → x + m = n → m < F → ∃ w', X5_run_L3 N x1 x2 (nI k) F (nI x) w = some w' ∧ ag [39] w w' ∧ (∀ z, x ≤ z → z < n → gA w' 39 0 (6 * c + z) = nI (dg (dr L k) z)) ∧ ∀ j, j < 6 * c + x → gA w' 39 0 j = gA w 39 0 j := by
  have hn := hL.1
  intro m
  induction m with
  | zero =>
    intro x F w hT hm h5 hx hF
    obtain ⟨F, rfl, _⟩ := fuel_s hF
    rw [X5_run_L3, hm, iT (nI_le (by omega) (by omega))]
    exact ⟨w, rfl, ag.rf _ _, fun x a b => by omega, fun _ _ => rfl⟩
  | succ m ih =>
    intro x F w hT hm h5 hx hF
    obtain ⟨F, rfl, hF'⟩ := fuel_s hF
    rw [X5_run_L3, hm, iF (nI_ge (by omega) (by omega)), e_right hL hT hk (by omega), h5]
    simp only [bs, l0, l1, l2, l3, l4, l5, l6, l7, l8, l9, l10, l12, l15, l30, l31, l32, l40, l42, l48, l57, l60, l64, l98, l99, l100, l109, l110, l112, l115, l265, l1000, l518400, ngd]
    rw [pk_mul, nI_add, gd_in (by omega) (by omega), nI_clamp (by omega), nI_add]
    have g : ag [39] w (sA w 39 0 (upd (gA w 39 0) (6 * c + x) (nI (dg (dr L k) x)))) := (ag.rf _ w).sA (by simp)
    obtain ⟨w', e, a1, a2, a3⟩ := ih (x + 1) F _ (RTS_ag hT g) (by rw [agI g 510 0]; exact hm) (by rw [agI g 518 0]; exact h5) (by omega) (by omega)
    refine ⟨w', e, g.tr a1, fun z b1 b2 => ?_, fun j hj => ?_⟩
    · rcases Nat.eq_or_lt_of_le b1 with q | q
      · subst q
        rw [a3 _ (by omega), gA_sA, if_pos ⟨rfl, rfl⟩, pk_us]
      · exact a2 z (by omega) b2
    · rw [a3 j (by omega), gA_sA, if_pos ⟨rfl, rfl⟩, pk_un (by omega)]
abbrev SV : List Nat := [40, 41, 520, 522, 523, 39, 518]
theorem e_mrun_L {N c0 : Nat} (hN : 1000 ≤ N) : ∀ (m k F : Nat) (o : Of) (w : Wd), k + m = 30 → m < F → Wf o → oC o = c0 + k → oC o + m ≤ 42 → RM o w → ∃ w', X5_run_L1 N (nI c0) (F + 1) (nI 1) w = some w' ∧ ag SV w w' ∧ gI w' 518 0 = nI (oC o + rnf m o) ∧ ∀ j, j < 6 * oC o → gA w' 39 0 j = gA w 39 0 j := by
  intro m
  induction m with
  | zero =>
    intro k F o w hk hF hf hc0 hc hR
    rw [X5_run_L1, rnf]
    simp only [bs, l0, l1, l2, l3, l4, l5, l6, l7, l8, l9, l10, l12, l15, l30, l31, l32, l40, l42, l48, l57, l60, l64, l98, l99, l100, l109, l110, l112, l115, l265, l1000, l518400, ngd]
    rw [iF (by decide), hR.2.1, pk_sub (by omega), iT (nI_le (by omega) (by omega))]
    exact ⟨w, rfl, ag.rf _ _, by rw [hR.2.1]; rfl, fun _ _ => rfl⟩
  | succ m ih =>
    intro k F o w hk hF hf hc0 hc hR
    obtain ⟨F, rfl, hF'⟩ := fuel_s hF
    have hn := hf.1
    have hL := LOk_r hf
    have hl := hL.2.1
    obtain ⟨w1, e1, a1, a2⟩ := e_setRights (N := N) hN hf hR
    have g1 : ag SV w w1 := a1.mono (by decide)
    have hR1 := RM_ag hR a1
    rw [X5_run_L1, rnf]
    unfold X5_run_J61 X5_run_J74
    simp only [bs, l0, l1, l2, l3, l4, l5, l6, l7, l8, l9, l10, l12, l15, l30, l31, l32, l40, l42, l48, l57, l60, l64, l98, l99, l100, l109, l110, l112, l115, l265, l1000, l518400, ngd]
    rw [iF (by decide), hR.2.1, pk_sub (by omega), iF (nI_ge (by omega) (by omega)), e1]
    simp only [bs, l0, l1, l2, l3, l4, l5, l6, l7, l8, l9, l10, l12, l15, l30, l31, l32, l40, l42, l48, l57, l60, l64, l98, l99, l100, l109, l110, l112, l115, l265, l1000, l518400, ngd]
    rw [e_run_L2 hN hf hR1 a2 (rights o).length 0 N (by omega) (by omega)]
    simp only [bs, l0, l1, l2, l3, l4, l5, l6, l7, l8, l9, l10, l12, l15, l30, l31, l32, l40, l42, l48, l57, l60, l64, l98, l99, l100, l109, l110, l112, l115, l265, l1000, l518400, ngd]
    rw [a2.1, show fst (nwf o) (rights o).length 0 = nw1 o from rfl]
    cases c : nw1 o with
    | none =>
      rw [iT (nI_le (by simp) (by dsimp only; omega)), X5_run_L1]
      simp only [bs, l0, l1, l2, l3, l4, l5, l6, l7, l8, l9, l10, l12, l15, l30, l31, l32, l40, l42, l48, l57, l60, l64, l98, l99, l100, l109, l110, l112, l115, l265, l1000, l518400, ngd, if_true, if_false, bn0, reduceCtorEq, n10, z1, z3, z0]
      refine ⟨w1, by simp, g1, by rw [hR1.2.1]; rfl, fun j _ => by rw [agA a1 39 0]⟩
    | some j =>
      have hj := nw1_lt c
      have hd := LOk_at hL hj
      obtain ⟨w2, e2, b1, b2, b3⟩ := e_run_L3 (N := N) (x1 := nI c0) (x2 := nI 1) (c := oC o) hL hj (by omega) (oN o) 0 N w1 a2 hR1.1 hR1.2.1 (by omega) (by omega)
      rw [iF (nI_ge hj (by omega)), iF (show ¬ nI 1 = nI 0 from by decide), e2]
      simp only [bs, l0, l1, l2, l3, l4, l5, l6, l7, l8, l9, l10, l12, l15, l30, l31, l32, l40, l42, l48, l57, l60, l64, l98, l99, l100, l109, l110, l112, l115, l265, l1000, l518400, ngd]
      have h5182 : gI w2 518 0 = nI (oC o) := by rw [agI b1 518 0]; exact hR1.2.1
      rw [h5182, nI_add]
      obtain ⟨wx, hwx⟩ : ∃ wx, wx = sI w2 518 0 (nI (oC o + 1)) := ⟨_, rfl⟩
      rw [← hwx]
      have gx : ag [39, 518] w1 wx := by rw [hwx]; exact (b1.mono (by decide)).sI (by simp)
      obtain ⟨hwf, hc3⟩ := Wf_year hf hd (show oC o < 42 by omega)
      have hRx : RM (setY o (oY o ++ [dr (rights o) j])) wx := RM_year hR1 hf hd (by omega) (agI gx 510 0) (agI gx 511 0) (by rw [hwx, gI_sI, if_pos ⟨rfl, rfl⟩]) (agA gx 36 0) (agA gx 37 0) (agA gx 38 0) (fun x hx => by rw [hwx, gA_sI]; exact b2 x (by omega) hx) (fun z hz => by rw [hwx, gA_sI]; exact b3 z (by omega))
      obtain ⟨w', e, d1, d2, d3⟩ := ih (k + 1) F _ wx (by omega) (by omega) hwf (by rw [hc3]; omega) (by rw [hc3]; omega) hRx
      refine ⟨w', e, (g1.tr (gx.mono (by decide))).tr d1, ?_, fun z hz => ?_⟩
      · rw [d2, hc3]; rw [show oC o + 1 + rnf m (setY o (oY o ++ [dr (rights o) j])) = oC o + (1 + rnf m (setY o (oY o ++ [dr (rights o) j]))) by omega]
      · rw [d3 z (by rw [hc3]; omega), hwx, gA_sI, b3 z (by omega), agA a1 39 0]
theorem RM_yrest {o : Of} {w w' : Wd} (hf : Wf o) (h : RM o w) (g : ag SV w w') (h39 : ∀ j, j < 6 * oC o → gA w' 39 0 j = gA w 39 0 j) : RM o (sI w' 518 0 (nI (oC o))) := by
  have hn := hf.1
  refine ⟨?_, rfl, ?_, fun x hx => ?_, fun k hk x hx => ?_⟩
  · rw [gI_sI, if_neg (by decide), agI g 510 0]; exact h.1
  · rw [gI_sI, if_neg (by decide), agI g 511 0]; exact h.2.2.1
  · rw [gA_sI, gA_sI, gA_sI, agA g 36 0, agA g 37 0, agA g 38 0]; exact h.2.2.2.1 x hx
  · rw [gA_sI, h39 _ (by omega)]; exact h.2.2.2.2 k hk x hx
theorem ok_run {N : Nat} (hN : 1000 ≤ N) : Ok_run N Inv := fun w hI => by
  obtain ⟨o, H, hW, hT⟩ := hI
  obtain ⟨h1, h2, h3, h4, h5, h6, h7, h8, h9⟩ := id hW
  have hn := h1.1
  have fin : ∀ (w0 w2 : Wd), IW o H w0 → ag SV w0 w2 → (∀ j, j < 6 * oC o → gA w2 39 0 j = gA w0 39 0 j) → IW o H (sI w2 518 0 (nI (oC o))) := fun w0 w2 hW0 g h39 => by
    obtain ⟨k1, k2, k3, k4, k5, k6, k7, k8, k9⟩ := hW0
    have g2 : ag SV w0 (sI w2 518 0 (nI (oC o))) := g.sI (by simp)
    exact ⟨k1, k2, RO_ag k3 g2, RM_yrest k1 k4 g h39, Iro_ag k5 g2, Itx_ag k6 g2, Iht_ag k7 g2, Ikp_ag k8 g2, Ist_ag k9 g2⟩
  by_cases c : oN o = 0
  · refine ⟨nI 0, w, sI w 518 0 (nI (oC o)), ?_, ?_, o, H, fin w w hW (ag.rf _ _) (fun _ _ => rfl), Itl_ag hT ((ag.rf [518] w).sI (by simp))⟩
    · unfold f_X4_run; simp only [bs, l0, l1, l2, l3, l4, l5, l6, l7, l8, l9, l10, l12, l15, l30, l31, l32, l40, l42, l48, l57, l60, l64, l98, l99, l100, l109, l110, l112, l115, l265, l1000, l518400, ngd, if_true, if_false, bn0, reduceCtorEq, n10, z1, z3, z0]; rw [h3.1, iT (by rw [c])]
    · unfold f_X5_run X5_run_J17 X5_run_J132; simp only [bs, l0, l1, l2, l3, l4, l5, l6, l7, l8, l9, l10, l12, l15, l30, l31, l32, l40, l42, l48, l57, l60, l64, l98, l99, l100, l109, l110, l112, l115, l265, l1000, l518400, ngd, if_true, if_false, bn0, reduceCtorEq, n10, z1, z3, z0]
      rw [h4.1, iT (nI_le (by omega) (by omega)), h4.2.1]
      obtain ⟨n, rfl, _⟩ := fuel_s (show 0 < N by omega)
      rw [X5_run_L1]
      simp only [bs, l0, l1, l2, l3, l4, l5, l6, l7, l8, l9, l10, l12, l15, l30, l31, l32, l40, l42, l48, l57, l60, l64, l98, l99, l100, l109, l110, l112, l115, l265, l1000, l518400, ngd, if_true, if_false, bn0, reduceCtorEq, n10, z1, z3, z0]
      rw [h4.2.1, pk_sub (by omega), Nat.sub_self]
  · obtain ⟨wa, ea, u1, u2⟩ := e_become (N := N) h3 h1
    obtain ⟨wb, eb, v1⟩ := e_run_L (N := N) hN 30 0 N o wa (by omega) (by omega) h1 (by omega) u2
    have gab : ag [1016, 1017, 1018, 1019, 1004, 1005, 1006, 1020, 1201, 1204, 1205, 1021] w wb := (u1.mono (by decide)).tr (v1.mono (by decide))
    have hWb : IW o H wb := IW_ag hW gab
    have hrl := rnf_le 30 o
    obtain ⟨M, rfl, _⟩ := fuel_s (show 100 < N by omega)
    obtain ⟨wc, ec, x1, x2, x3⟩ := e_mrun_L (N := M + 1) (c0 := oC o) hN 30 0 M o wb (by omega) (by omega) h1 (by omega) (by omega) hWb.2.2.2.1
    rw [Nat.zero_add] at eb
    refine ⟨nI (rnf 30 o), wb, sI wc 518 0 (nI (oC o)), ?_, ?_, o, H, fin wb wc hWb x1 x3, Itl_ag (Itl_ag hT gab) (x1.sI (by simp))⟩
    · unfold f_X4_run; simp only [bs, l0, l1, l2, l3, l4, l5, l6, l7, l8, l9, l10, l12, l15, l30, l31, l32, l40, l42, l48, l57, l60, l64, l98, l99, l100, l109, l110, l112, l115, l265, l1000, l518400, ngd, if_true, if_false, bn0, reduceCtorEq, n10, z1, z3, z0]; rw [h3.1, iF (fun q => c ((nI_eq (by omega) (by omega)).mp q)), ea]; simp only [bs, l0, l1, l2, l3, l4, l5, l6, l7, l8, l9, l10, l12, l15, l30, l31, l32, l40, l42, l48, l57, l60, l64, l98, l99, l100, l109, l110, l112, l115, l265, l1000, l518400, ngd, if_true, if_false, bn0, reduceCtorEq, n10, z1, z3, z0]; exact eb
    · unfold f_X5_run X5_run_J17 X5_run_J132; simp only [bs, l0, l1, l2, l3, l4, l5, l6, l7, l8, l9, l10, l12, l15, l30, l31, l32, l40, l42, l48, l57, l60, l64, l98, l99, l100, l109, l110, l112, l115, l265, l1000, l518400, ngd, if_true, if_false, bn0, reduceCtorEq, n10, z1, z3, z0]; rw [hWb.2.2.2.1.1, iF (nI_ge (by omega) (by omega)), hWb.2.2.2.1.2.1, ec]; simp only [bs, l0, l1, l2, l3, l4, l5, l6, l7, l8, l9, l10, l12, l15, l30, l31, l32, l40, l42, l48, l57, l60, l64, l98, l99, l100, l109, l110, l112, l115, l265, l1000, l518400, ngd, if_true, if_false, bn0, reduceCtorEq, n10, z1, z3, z0]; rw [x2, pk_sub (by omega), Nat.add_sub_cancel_left]
