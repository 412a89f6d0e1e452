/-! lots -/
theorem seedge (a : Int32) : (nI 0 ≤ lg_cmp a.toInt64 (2147483647 : Int64)) ↔ 2147483647 ≤ a.toInt := by
  have h : (nI 0 ≤ lg_cmp a.toInt64 (2147483647 : Int64)) ↔ (2147483647 : Int64) ≤ a.toInt64 := lg_cmp_ge _ _
  rw [h, Int64.le_iff_toInt_le, Int32.toInt_toInt64]
  have : (2147483647 : Int64).toInt = 2147483647 := by decide
  rw [this]
theorem e_isSeed_f {N : Nat} {a : Int32} {w : Wd} (h : a.toInt < 1 ∨ 2147483647 ≤ a.toInt) : f_X4_isSeed N a w = some (nI 0, w) := by
  unfold f_X4_isSeed
  simp only [bs, l0, l1, l2, l3, l4, l5, l6, l7, l8, l9, l10, l12, l15, l30, l31, l32, l40, l42, l48, l57, l60, l64, l98, l99, l100, l109, l110, l112, l115, l265, l1000, l518400, ngd]
  rcases h with h | h
  · rw [iT ((clt (n := 1) (by omega)).mpr (by omega))]
  · rw [iF (fun q => by have := (clt (n := 1) (by omega)).mp q; omega), iT ((seedge a).mpr h)]
theorem e_isSeed_t {N : Nat} {a : Int32} {w : Wd} (h1 : 1 ≤ a.toInt) (h : a.toInt < 2147483647) : f_X4_isSeed N a w = some (nI 1, w) := by
  unfold f_X4_isSeed
  simp only [bs, l0, l1, l2, l3, l4, l5, l6, l7, l8, l9, l10, l12, l15, l30, l31, l32, l40, l42, l48, l57, l60, l64, l98, l99, l100, l109, l110, l112, l115, l265, l1000, l518400, ngd]
  rw [iF (fun q => by have := (clt (n := 1) (by omega)).mp q; omega), iF (fun q => by have := (seedge a).mp q; omega)]
theorem e_misSeed_f {N : Nat} {a : Int32} {w : Wd} (h : a.toInt < 1 ∨ 2147483647 ≤ a.toInt) : f_X5_isSeed N a w = some (nI 0, w) := by
  have e : (2147483646 : Int32).toInt = 2147483646 := by decide
  unfold f_X5_isSeed f_X5_in
  simp only [bs, l0, l1, l2, l3, l4, l5, l6, l7, l8, l9, l10, l12, l15, l30, l31, l32, l40, l42, l48, l57, l60, l64, l98, l99, l100, l109, l110, l112, l115, l265, l1000, l518400, ngd]
  rcases h with h | h
  · rw [iT ((clt (n := 1) (by omega)).mpr (by omega))]
    simp only [bs, l0, l1, l2, l3, l4, l5, l6, l7, l8, l9, l10, l12, l15, l30, l31, l32, l40, l42, l48, l57, l60, l64, l98, l99, l100, l109, l110, l112, l115, l265, l1000, l518400, ngd]
    exact gd_t (by simp)
  · rw [iF (fun q => by have := (clt (n := 1) (by omega)).mp q; omega), iT (by rw [Int32.lt_iff_toInt_lt, e]; omega)]
    simp only [bs, l0, l1, l2, l3, l4, l5, l6, l7, l8, l9, l10, l12, l15, l30, l31, l32, l40, l42, l48, l57, l60, l64, l98, l99, l100, l109, l110, l112, l115, l265, l1000, l518400, ngd]
    exact gd_t (by simp)
theorem e_misSeed_t {N : Nat} {a : Int32} {w : Wd} (h1 : 1 ≤ a.toInt) (h : a.toInt < 2147483647) : f_X5_isSeed N a w = some (nI 1, w) := by
  have e : (2147483646 : Int32).toInt = 2147483646 := by decide
  unfold f_X5_isSeed f_X5_in
  simp only [bs, l0, l1, l2, l3, l4, l5, l6, l7, l8, l9, l10, l12, l15, l30, l31, l32, l40, l42, l48, l57, l60, l64, l98, l99, l100, l109, l110, l112, l115, l265, l1000, l518400, ngd]
  rw [iF (fun q => by have := (clt (n := 1) (by omega)).mp q; omega), iF (by rw [Int32.lt_iff_toInt_lt, e]; omega)]
  simp only [bs, l0, l1, l2, l3, l4, l5, l6, l7, l8, l9, l10, l12, l15, l30, l31, l32, l40, l42, l48, l57, l60, l64, l98, l99, l100, l109, l110, l112, l115, l265, l1000, l518400, ngd]
  exact gd_t (by simp)
theorem seed_of {a : Int32} (h1 : 1 ≤ a.toInt) (h : a.toInt < 2147483647) : ∃ s : Nat, s < 2147483647 ∧ a = nI s := by
  rcases cix a (n := 2147483647) (by omega) with (q | q) | ⟨s, hs, e⟩
  · omega
  · omega
  · exact ⟨s, hs, e⟩
def nxt (s : Nat) : Nat := 48271 * s % 2147483647
theorem nxt_lt (s : Nat) : nxt s < 2147483647 := Nat.mod_lt _ (by omega)
theorem lot64 {s : Nat} (hs : s < 2147483648) : ((48271 : Int64) * lN s) - ((48271 : Int64) * lN s) / (2147483647 : Int64) * (2147483647 : Int64) = lN (nxt s) := by
  have e1 : (48271 : Int64) * lN s = lN (48271 * s) := by rw [show (48271 : Int64) = lN 48271 from rfl, lN_mul]
  rw [e1, show (2147483647 : Int64) = lN 2147483647 from rfl, pk_lRem (by omega) (by omega) (by omega)]
  rfl
theorem p64 : ¬ (2147483647 : Int64) = 0 := by decide
theorem e_nextLot {N s : Nat} {w : Wd} (hs : s < 2147483648) : f_X4_nextLot N (nI s) w = some (nI (nxt s), w) := by
  unfold f_X4_nextLot
  rw [gd_t p64, nI_l (by omega), lot64 hs, lN_i]
theorem ok_lot {N : Nat} (hN : 1000 ≤ N) : Ok_lot N Inv := fun a1 a2 w hI => by
  obtain ⟨o, H, hW, hT⟩ := hI
  have hn := hW.1.1
  by_cases c0 : a1.toInt < 1 ∨ 2147483647 ≤ a1.toInt
  · refine ⟨ng 1, w, w, ?_, ?_, o, H, hW, hT⟩
    · unfold f_X4_lot; rw [e_isSeed_f c0]; simp only [bs, l0, l1, l2, l3, l4, l5, l6, l7, l8, l9, l10, l12, l15, l30, l31, l32, l40, l42, l48, l57, l60, l64, l98, l99, l100, l109, l110, l112, l115, l265, l1000, l518400, ngd, if_true, if_false, bn0, reduceCtorEq, n10, z1, z3, z0]
    · unfold f_X5_lot; rw [e_misSeed_f c0]; simp only [bs, l0, l1, l2, l3, l4, l5, l6, l7, l8, l9, l10, l12, l15, l30, l31, l32, l40, l42, l48, l57, l60, l64, l98, l99, l100, l109, l110, l112, l115, l265, l1000, l518400, ngd, if_true, if_false, bn0, reduceCtorEq, n10, z1, z3, z0]
  have s1 : 1 ≤ a1.toInt := by omega
  have s2 : a1.toInt < 2147483647 := by omega
  rcases cix a2 (n := 6) (by omega) with h | ⟨r, hr, rfl⟩
  · refine ⟨ng 1, w, w, ?_, ?_, o, H, hW, hT⟩
    · unfold f_X4_lot; rw [e_isSeed_t s1 s2]; simp only [bs, l0, l1, l2, l3, l4, l5, l6, l7, l8, l9, l10, l12, l15, l30, l31, l32, l40, l42, l48, l57, l60, l64, l98, l99, l100, l109, l110, l112, l115, l265, l1000, l518400, ngd, if_true, if_false, bn0, reduceCtorEq, n10, z1, z3, z0]; rw [e_isRow_f h]; simp only [bs, l0, l1, l2, l3, l4, l5, l6, l7, l8, l9, l10, l12, l15, l30, l31, l32, l40, l42, l48, l57, l60, l64, l98, l99, l100, l109, l110, l112, l115, l265, l1000, l518400, ngd, if_true, if_false, bn0, reduceCtorEq, n10, z1, z3, z0]
    · unfold f_X5_lot; rw [e_misSeed_t s1 s2]; simp only [bs, l0, l1, l2, l3, l4, l5, l6, l7, l8, l9, l10, l12, l15, l30, l31, l32, l40, l42, l48, l57, l60, l64, l98, l99, l100, l109, l110, l112, l115, l265, l1000, l518400, ngd, if_true, if_false, bn0, reduceCtorEq, n10, z1, z3, z0]; rw [e_misRow_f h]; simp only [bs, l0, l1, l2, l3, l4, l5, l6, l7, l8, l9, l10, l12, l15, l30, l31, l32, l40, l42, l48, l57, l60, l64, l98, l99, l100, l109, l110, l112, l115, l265, l1000, l518400, ngd, if_true, if_false, bn0, reduceCtorEq, n10, z1, z3, z0]
  obtain ⟨wa, ea, u1, u2, hWa⟩ := IW_list (N := N) hN hW
  obtain ⟨h1, h2, h3, h4, h5, h6, h7, h8, h9⟩ := id hWa
  have hL := LOk_r h1
  have hl := hL.2.1
  have hTa := Itl_ag hT u1
  by_cases c : (rights o).length = 0
  · obtain ⟨w2, e2, b1, b2⟩ := e_setRights (N := N) hN h1 (RM_ag h4 (cref_ag 4 wa))
    refine ⟨ng 3, cref 4 wa, mref 4 w2, ?_, ?_, Inv_ref hWa hTa b1⟩
    · unfold f_X4_lot; rw [e_isSeed_t s1 s2]; simp only [bs, l0, l1, l2, l3, l4, l5, l6, l7, l8, l9, l10, l12, l15, l30, l31, l32, l40, l42, l48, l57, l60, l64, l98, l99, l100, l109, l110, l112, l115, l265, l1000, l518400, ngd, if_true, if_false, bn0, reduceCtorEq, n10, z1, z3, z0]; rw [e_isRow_t hr]; simp only [bs, l0, l1, l2, l3, l4, l5, l6, l7, l8, l9, l10, l12, l15, l30, l31, l32, l40, l42, l48, l57, l60, l64, l98, l99, l100, l109, l110, l112, l115, l265, l1000, l518400, ngd, if_true, if_false, bn0, reduceCtorEq, n10, z1, z3, z0]; rw [ea]; simp only [bs, l0, l1, l2, l3, l4, l5, l6, l7, l8, l9, l10, l12, l15, l30, l31, l32, l40, l42, l48, l57, l60, l64, l98, l99, l100, l109, l110, l112, l115, l265, l1000, l518400, ngd, if_true, if_false, bn0, reduceCtorEq, n10, z1, z3, z0]; rw [u2.1, iT (by rw [c]), e_refuse (by omega)]; simp only [bs, l0, l1, l2, l3, l4, l5, l6, l7, l8, l9, l10, l12, l15, l30, l31, l32, l40, l42, l48, l57, l60, l64, l98, l99, l100, l109, l110, l112, l115, l265, l1000, l518400, ngd, if_true, if_false, bn0, reduceCtorEq, n10, z1, z3, z0]
    · unfold f_X5_lot; rw [e_misSeed_t s1 s2]; simp only [bs, l0, l1, l2, l3, l4, l5, l6, l7, l8, l9, l10, l12, l15, l30, l31, l32, l40, l42, l48, l57, l60, l64, l98, l99, l100, l109, l110, l112, l115, l265, l1000, l518400, ngd, if_true, if_false, bn0, reduceCtorEq, n10, z1, z3, z0]; rw [e_misRow_t hr]; simp only [bs, l0, l1, l2, l3, l4, l5, l6, l7, l8, l9, l10, l12, l15, l30, l31, l32, l40, l42, l48, l57, l60, l64, l98, l99, l100, l109, l110, l112, l115, l265, l1000, l518400, ngd, if_true, if_false, bn0, reduceCtorEq, n10, z1, z3, z0]; rw [e2]; simp only [bs, l0, l1, l2, l3, l4, l5, l6, l7, l8, l9, l10, l12, l15, l30, l31, l32, l40, l42, l48, l57, l60, l64, l98, l99, l100, l109, l110, l112, l115, l265, l1000, l518400, ngd, if_true, if_false, bn0, reduceCtorEq, n10, z1, z3, z0]; rw [b2.1, iT (by rw [c]), e_meet (by omega)]; simp only [bs, l0, l1, l2, l3, l4, l5, l6, l7, l8, l9, l10, l12, l15, l30, l31, l32, l40, l42, l48, l57, l60, l64, l98, l99, l100, l109, l110, l112, l115, l265, l1000, l518400, ngd, if_true, if_false, bn0, reduceCtorEq, n10, z1, z3, z0]
  · obtain ⟨s, hs, rfl⟩ := seed_of s1 s2
    have c' : ¬ nI (rights o).length = nI 0 := fun q => c ((nI_eq (by omega) (by omega)).mp q)
    have hx := nxt_lt s
    have hk := Nat.mod_lt (nxt s) (show 0 < (rights o).length by omega)
    obtain ⟨k, hke⟩ : ∃ k, k = nxt s % (rights o).length := ⟨_, rfl⟩
    rw [← hke] at hk
    obtain ⟨w1, e1, c1, c2, c3, c4⟩ := e_layD (N := N) hN h1 hr h3.1 (LOk_at hL hk)
    have hR1 : RM o w1 := RM_ag h4 c1 (fun k hk => by simp only [List.mem_cons, List.not_mem_nil, or_false] at hk ⊢; omega)
    obtain ⟨w2, e2, b1, b2⟩ := e_setRights (N := N) hN h1 hR1
    obtain ⟨w3, e3, d1, d2, d3, d4, d5⟩ := e_layR (N := N) (r := r) hN hL hr hk b2 (RM_ag hR1 b1).1
    have m1 : ag ([40, 41, 520, 522, 523, 31, 32, 526, 530] : List Nat) w1 w3 := (b1.mono (by decide)).tr (d1.mono (by decide))
    refine ⟨nI k, w1, w3, ?_, ?_, o, H, IW_lay hWa hr c1 c2 c3 c4 m1 ?_ d3 d4 (fun j hj => ?_), lay_tl hTa hr c1 m1⟩
    · unfold f_X4_lot; rw [e_isSeed_t s1 s2]; simp only [bs, l0, l1, l2, l3, l4, l5, l6, l7, l8, l9, l10, l12, l15, l30, l31, l32, l40, l42, l48, l57, l60, l64, l98, l99, l100, l109, l110, l112, l115, l265, l1000, l518400, ngd, if_true, if_false, bn0, reduceCtorEq, n10, z1, z3, z0]; rw [e_isRow_t hr]; simp only [bs, l0, l1, l2, l3, l4, l5, l6, l7, l8, l9, l10, l12, l15, l30, l31, l32, l40, l42, l48, l57, l60, l64, l98, l99, l100, l109, l110, l112, l115, l265, l1000, l518400, ngd, if_true, if_false, bn0, reduceCtorEq, n10, z1, z3, z0]; rw [ea]; simp only [bs, l0, l1, l2, l3, l4, l5, l6, l7, l8, l9, l10, l12, l15, l30, l31, l32, l40, l42, l48, l57, l60, l64, l98, l99, l100, l109, l110, l112, l115, l265, l1000, l518400, ngd, if_true, if_false, bn0, reduceCtorEq, n10, z1, z3, z0]; rw [u2.1, iF c', e_nextLot (by omega)]; simp only [bs, l0, l1, l2, l3, l4, l5, l6, l7, l8, l9, l10, l12, l15, l30, l31, l32, l40, l42, l48, l57, l60, l64, l98, l99, l100, l109, l110, l112, l115, l265, l1000, l518400, ngd, if_true, if_false, bn0, reduceCtorEq, n10, z1, z3, z0]; rw [u2.1, gd_t c', pk_rem (by omega) (by omega) (by omega), ← hke, gd_in (by omega) (by omega), nI_clamp (by omega), u2.2 k hk, e1]; simp only [bs, l0, l1, l2, l3, l4, l5, l6, l7, l8, l9, l10, l12, l15, l30, l31, l32, l40, l42, l48, l57, l60, l64, l98, l99, l100, l109, l110, l112, l115, l265, l1000, l518400, ngd, if_true, if_false, bn0, reduceCtorEq, n10, z1, z3, z0]
    · have ne64 : ¬ lN (rights o).length = (0 : Int64) := fun q => c ((lN_eq (by omega) (by omega)).mp (show lN (rights o).length = lN 0 from q))
      unfold f_X5_lot; rw [e_misSeed_t s1 s2]; simp only [bs, l0, l1, l2, l3, l4, l5, l6, l7, l8, l9, l10, l12, l15, l30, l31, l32, l40, l42, l48, l57, l60, l64, l98, l99, l100, l109, l110, l112, l115, l265, l1000, l518400, ngd, if_true, if_false, bn0, reduceCtorEq, n10, z1, z3, z0]; rw [e_misRow_t hr]; simp only [bs, l0, l1, l2, l3, l4, l5, l6, l7, l8, l9, l10, l12, l15, l30, l31, l32, l40, l42, l48, l57, l60, l64, l98, l99, l100, l109, l110, l112, l115, l265, l1000, l518400, ngd, if_true, if_false, bn0, reduceCtorEq, n10, z1, z3, z0]; rw [e2]; simp only [bs, l0, l1, l2, l3, l4, l5, l6, l7, l8, l9, l10, l12, l15, l30, l31, l32, l40, l42, l48, l57, l60, l64, l98, l99, l100, l109, l110, l112, l115, l265, l1000, l518400, ngd, if_true, if_false, bn0, reduceCtorEq, n10, z1, z3, z0]; rw [b2.1, iF c', gd_t p64, nI_l (by omega), gd_t ne64, nI_l (by omega), lot64 (by omega), pk_lRem (by omega) (by omega) (by omega), lN_i, ← hke, e3]; simp only [bs, l0, l1, l2, l3, l4, l5, l6, l7, l8, l9, l10, l12, l15, l30, l31, l32, l40, l42, l48, l57, l60, l64, l98, l99, l100, l109, l110, l112, l115, l265, l1000, l518400, ngd, if_true, if_false, bn0, reduceCtorEq, n10, z1, z3, z0]
    · rw [d2, agA b1 31 0, c1.2.2 31 0 (by simp; omega) (by decide)]
    · rw [d5 j hj, agA b1 32 0, c1.2.2 32 0 (by simp; omega) (by decide)]
/-! can, alike -/
def bgc (L : List (List Nat)) (H : List Nat) (i : Nat) : Bool := decide ((dr L i).take H.length = H)
def orf (f : Nat → Bool) (g : Nat → Nat) : Nat → Nat → Nat → Nat
  | 0, _, s => s
  | m + 1, k, s => orf f g m (k + 1) (if f k = true then s ||| 1 <<< g k else s)
theorem orf_lt {f : Nat → Bool} {g : Nat → Nat} : ∀ (m k s : Nat), (∀ j, k ≤ j → j < k + m → g j < 6) → s < 64 → orf f g m k s < 64 := by
  intro m
  induction m with
  | zero => intro k s _ hs; exact hs
  | succ m ih =>
    intro k s h hs
    rw [orf]
    refine ih (k + 1) _ (fun j a b => h j (by omega) (by omega)) ?_
    split
    · exact or_lt64 hs (shl_lt64 (h k (by omega) (by omega)))
    · exact hs
def cns (n : Nat) (L : List (List Nat)) (H : List Nat) : Nat := if H.length < n then orf (bgc L H) (fun i => dg (dr L i) H.length) L.length 0 0 else 0
def cnb (L : List (List Nat)) (H : List Nat) : Nat := cnt (bgc L H) L.length 0 0
theorem cns_lt {n : Nat} {L : List (List Nat)} {H : List Nat} (hL : LOk n L) : cns n L H < 64 := by
  unfold cns
  split
  · refine orf_lt _ _ _ (fun j _ hj => ?_) (by omega)
    have := Pm_dg (LOk_at hL (k := j) (by omega)) (x := H.length) (by omega)
    have := hL.1
    omega
  · omega
theorem cnb_le (L : List (List Nat)) (H : List Nat) : cnb L H ≤ L.length := by
  have := cnt_le (bgc L H) L.length 0 0
  unfold cnb; omega
/-- the hat as codes -/
theorem ftf_bgc {n : Nat} {L : List (List Nat)} {H : List Nat} (hL : LOk n L) (hH : ∀ y ∈ H, y < n) (hl : H.length ≤ n) {j : Nat} (hj : j < L.length) : ftf L (cd H) (8 ^ H.length - 1) j = bgc L H j := ftf_take hL hj hH hl
theorem hat_cd {n : Nat} {H : List Nat} (hn : n ≤ 6) (hH : ∀ y ∈ H, y < n) (hl : H.length ≤ n) : cd H < 262144 := cd_small (fun y hy => by have := hH y hy; omega) (by omega)
theorem e_fitHat {N n : Nat} {L : List (List Nat)} {H : List Nat} {w : Wd} (hN : 1000 ≤ N) (hL : LOk n L) (h : RTC 0 L w) (hH : ∀ y ∈ H, y < n) (hl : H.length ≤ n) : f_X2_fitting N 0 (nI (cd H)) (nI (8 ^ H.length - 1)) w = some (nI (cnb L H), w) := by
  rw [e_fitting hN hL h (hat_cd hL.1 hH hl), cnt_congr L.length 0 0 (fun j _ hj => ftf_bgc hL hH hl (by omega))]; rfl
theorem e_nextOpen_L {N n : Nat} {L : List (List Nat)} {H : List Nat} {w : Wd} (hL : LOk n L) (h : RTC 0 L w) (hH : ∀ y ∈ H, y < n) (hl : H.length < n) (h1 : gI w 407 0 = nI H.length) (h2 : gI w 406 0 = nI (cd H)) : ∀ (m k s F : Nat), k + m = L.length → m < F → X4_nextOpen_L1 N F (nI s) (nI k) w = some (nI (orf (bgc L H) (fun i => dg (dr L i) H.length) m k s), w) := by
  have hn := hL.1
  have hll := hL.2.1
  intro m
  induction m with
  | zero =>
    intro k s F hk hF
    obtain ⟨F, rfl, _⟩ := fuel_s hF
    rw [X4_nextOpen_L1, h.1, iT (nI_le (by omega) (by omega)), orf]
  | succ m ih =>
    intro k s F hk hF
    obtain ⟨F, rfl, hF'⟩ := fuel_s hF
    have hp := LOk_at hL (k := k) (by omega)
    have hlt := Pm_dg hp (x := H.length) hl
    have hcd := Pm_cd hp hn
    rw [X4_nextOpen_L1, h.1, iF (nI_ge (by omega) (by omega)), h1, e_ones (by omega)]
    simp only [bs, l0, l1, l2, l3, l4, l5, l6, l7, l8, l9, l10, l12, l15, l30, l31, l32, l40, l42, l48, l57, l60, l64, l98, l99, l100, l109, l110, l112, l115, l265, l1000, l518400, ngd]
    rw [h2, e_fitsAt hL h (by omega) (hat_cd hn hH (by omega)), ftf_bgc hL hH (by omega) (by omega), orf]
    simp only [bs, l0, l1, l2, l3, l4, l5, l6, l7, l8, l9, l10, l12, l15, l30, l31, l32, l40, l42, l48, l57, l60, l64, l98, l99, l100, l109, l110, l112, l115, l265, l1000, l518400, ngd]
    cases c : bgc L H k with
    | false =>
      rw [iT bnFc, nI_add, ih (k + 1) _ F (by omega) (by omega)]; rfl
    | true =>
      rw [iF bnTc, gd_in (by omega) (by omega), nI_clamp (by omega), h.2 k (by omega), h1, e_paper (by omega) (by omega), Pm_pp hp hn]
      simp only [bs, l0, l1, l2, l3, l4, l5, l6, l7, l8, l9, l10, l12, l15, l30, l31, l32, l40, l42, l48, l57, l60, l64, l98, l99, l100, l109, l110, l112, l115, l265, l1000, l518400, ngd]
      rw [shl1c (by omega), nx_or, nI_add, ih (k + 1) _ F (by omega) (by omega)]; rfl
theorem e_nextOpen {N n : Nat} {L : List (List Nat)} {H : List Nat} {w : Wd} (hN : 1000 ≤ N) (hL : LOk n L) (h : RTC 0 L w) (hH : ∀ y ∈ H, y < n) (hl : H.length ≤ n) (h0 : gI w 4 0 = nI n) (h1 : gI w 407 0 = nI H.length) (h2 : gI w 406 0 = nI (cd H)) : f_X4_nextOpen N w = some (nI (cns n L H), w) := by
  have hn := hL.1
  have hll := hL.2.1
  unfold f_X4_nextOpen cns
  rw [h0, h1]
  simp only [bs, l0, l1, l2, l3, l4, l5, l6, l7, l8, l9, l10, l12, l15, l30, l31, l32, l40, l42, l48, l57, l60, l64, l98, l99, l100, l109, l110, l112, l115, l265, l1000, l518400, ngd]
  by_cases c : H.length < n
  · rw [iF (nI_ge c (by omega)), e_nextOpen_L hL h hH c h1 h2 L.length 0 0 N (by omega) (by omega), if_pos c]; simp only [bs, l0, l1, l2, l3, l4, l5, l6, l7, l8, l9, l10, l12, l15, l30, l31, l32, l40, l42, l48, l57, l60, l64, l98, l99, l100, l109, l110, l112, l115, l265, l1000, l518400, ngd]
  · rw [iT (nI_le (by omega) (by omega)), if_neg c]
theorem bgc_alk {n : Nat} {L : List (List Nat)} {H : List Nat} (hL : LOk n L) (hl : H.length ≤ n) {k : Nat} (hk : k < L.length) : alk (dr L k) H H.length 0 = bgc L H k := by
  rw [alk_take (LOk_at hL hk).1 hl]; rfl
theorem e_cans_L {N n : Nat} {L : List (List Nat)} {H : List Nat} (hN : 1000 ≤ N) (hL : LOk n L) (hH : ∀ y ∈ H, y < n) (hl : H.length ≤ n) : ∀ (m k s c F : Nat) (w : Wd), RTS n L w → gI w 510 0 = nI n → (∀ x, x < H.length → gA w 42 0 x = nI (dg H x)) → gI w 526 0 = nI c → k + m = L.length → m < F → ∃ w', X5_cans_L1 N (nI H.length) F (nI s) (nI k) w = some (nI (if H.length < n then orf (bgc L H) (fun i => dg (dr L i) H.length) m k s else s), w') ∧ ag [526] w w' ∧ gI w' 526 0 = nI (cnt (bgc L H) m k c) := by
  have hn := hL.1
  have hll := hL.2.1
  intro m
  induction m with
  | zero =>
    intro k s c F w hT hm hh h5 hk hF
    obtain ⟨F, rfl, _⟩ := fuel_s hF
    rw [X5_cans_L1, hT.1, iT (nI_le (by omega) (by omega))]
    exact ⟨w, by rw [orf]; simp, ag.rf _ _, h5⟩
  | succ m ih =>
    intro k s c F w hT hm hh h5 hk hF
    obtain ⟨F, rfl, hF'⟩ := fuel_s hF
    rw [X5_cans_L1, hT.1, iF (nI_ge (by omega) (by omega)), e_begins hN hL hT (by omega) hl hh (fun x hx => hH _ (dg_mem hx)), bgc_alk hL hl (by omega)]
    simp only [bs, l0, l1, l2, l3, l4, l5, l6, l7, l8, l9, l10, l12, l15, l30, l31, l32, l40, l42, l48, l57, l60, l64, l98, l99, l100, l109, l110, l112, l115, l265, l1000, l518400, ngd]
    cases q : bgc L H k with
    | false =>
      obtain ⟨w', e, a1, a2⟩ := ih (k + 1) s c F w hT hm hh h5 (by omega) (by omega)
      rw [iT bnFc, nI_add, e]
      refine ⟨w', ?_, a1, by rw [a2, cnt_f q]⟩
      rw [orf, q]; simp
    | true =>
      have g : ag [526] w (sI w 526 0 (nI (c + 1))) := (ag.rf _ w).sI (by simp)
      rw [iF bnTc, h5, nI_add, show gI (sI w 526 0 (nI (c + 1))) 510 0 = nI n from hm]
      by_cases c2 : H.length < n
      · have hlt := Pm_dg (LOk_at hL (k := k) (by omega)) (x := H.length) c2
        obtain ⟨w', e, a1, a2⟩ := ih (k + 1) (s ||| 1 <<< dg (dr L k) H.length) (c + 1) F _ (RTS_ag hT g) hm hh (by rw [gI_sI, if_pos ⟨rfl, rfl⟩]) (by omega) (by omega)
        rw [iF (nI_ge c2 (by omega)), e_right hL (RTS_ag hT g) (by omega) c2]
        simp only [bs, l0, l1, l2, l3, l4, l5, l6, l7, l8, l9, l10, l12, l15, l30, l31, l32, l40, l42, l48, l57, l60, l64, l98, l99, l100, l109, l110, l112, l115, l265, l1000, l518400, ngd]
        rw [shl1c (by omega), nx_or, nI_add, e]
        refine ⟨w', ?_, g.tr a1, by rw [a2, cnt_t q]⟩
        rw [if_pos c2, if_pos c2, orf, q]; rfl
      · obtain ⟨w', e, a1, a2⟩ := ih (k + 1) s (c + 1) F _ (RTS_ag hT g) hm hh (by rw [gI_sI, if_pos ⟨rfl, rfl⟩]) (by omega) (by omega)
        rw [iT (nI_le (by omega) (by omega)), nx_or, Nat.or_zero, nI_add, e]
        refine ⟨w', ?_, g.tr a1, by rw [a2, cnt_t q]⟩
        rw [if_neg c2, if_neg c2]
theorem e_cans {N n : Nat} {L : List (List Nat)} {H : List Nat} {w : Wd} (hN : 1000 ≤ N) (hL : LOk n L) (hH : ∀ y ∈ H, y < n) (hl : H.length ≤ n) (hT : RTS n L w) (hm : gI w 510 0 = nI n) (hh : ∀ x, x < H.length → gA w 42 0 x = nI (dg H x)) : ∃ w', f_X5_cans N (nI H.length) w = some (nI (cns n L H), w') ∧ ag [526] w w' ∧ gI w' 526 0 = nI (cnb L H) := by
  have hll := hL.2.1
  have g : ag [526] w (sI w 526 0 (nI 0)) := (ag.rf _ w).sI (by simp)
  obtain ⟨w', e, a1, a2⟩ := e_cans_L (N := N) hN hL hH hl L.length 0 0 0 N (sI w 526 0 (nI 0)) (RTS_ag hT g) hm hh (by rw [gI_sI, if_pos ⟨rfl, rfl⟩]) (by omega) (by omega)
  unfold f_X5_cans
  simp only [bs, l0, l1, l2, l3, l4, l5, l6, l7, l8, l9, l10, l12, l15, l30, l31, l32, l40, l42, l48, l57, l60, l64, l98, l99, l100, l109, l110, l112, l115, l265, l1000, l518400, ngd]
  rw [e]
  exact ⟨w', rfl, g.tr a1, a2⟩
theorem ok_can {N : Nat} (hN : 1000 ≤ N) : Ok_can N Inv := fun w hI => by
  obtain ⟨o, H, hW, hT⟩ := hI
  obtain ⟨wa, ea, u1, u2, hWa⟩ := IW_list (N := N) hN hW
  obtain ⟨h1, h2, h3, h4, h5, h6, h7, h8, h9⟩ := id hWa
  obtain ⟨t1, t2, t3, t4, t5, t6⟩ := id h7
  have hn := h1.1
  have hL := LOk_r h1
  have hTa := Itl_ag hT u1
  obtain ⟨v, hv⟩ : ∃ v, v = nI (cnb (rights o) H) := ⟨_, rfl⟩
  have g1 : ag [412] wa (sI wa 412 0 v) := (ag.rf _ wa).sI (by simp)
  obtain ⟨w2, e2, b1, b2⟩ := e_setRights (N := N) hN h1 (RM_ag h4 g1)
  have t5' : gI w2 524 0 = nI H.length := by rw [agI b1 524 0]; exact t5
  obtain ⟨w3, e3, d1, d2⟩ := e_cans (N := N) (H := H) (w := w2) hN hL t2 t1 b2 (RM_ag (RM_ag h4 g1) b1).1 (by rw [agA b1 42 0]; exact t6)
  refine ⟨nI (cns (oN o) (rights o) H), sI wa 412 0 v, sI w3 502 0 v, ?_, ?_, Inv_ask hWa hTa ((b1.mono (by decide)).tr (d1.mono (by decide)) : ag [40, 41, 520, 522, 523, 526] _ w3)⟩
  · unfold f_X4_can; rw [ea]; simp only [bs, l0, l1, l2, l3, l4, l5, l6, l7, l8, l9, l10, l12, l15, l30, l31, l32, l40, l42, l48, l57, l60, l64, l98, l99, l100, l109, l110, l112, l115, l265, l1000, l518400, ngd, if_true, if_false, bn0, reduceCtorEq, n10, z1, z3, z0]; rw [t3, e_ones (by omega)]; simp only [bs, l0, l1, l2, l3, l4, l5, l6, l7, l8, l9, l10, l12, l15, l30, l31, l32, l40, l42, l48, l57, l60, l64, l98, l99, l100, l109, l110, l112, l115, l265, l1000, l518400, ngd, if_true, if_false, bn0, reduceCtorEq, n10, z1, z3, z0]; rw [t4, e_fitHat hN hL u2 t2 t1]; simp only [bs, l0, l1, l2, l3, l4, l5, l6, l7, l8, l9, l10, l12, l15, l30, l31, l32, l40, l42, l48, l57, l60, l64, l98, l99, l100, l109, l110, l112, l115, l265, l1000, l518400, ngd, if_true, if_false, bn0, reduceCtorEq, n10, z1, z3, z0]; rw [← hv, e_nextOpen (w := sI wa 412 0 v) hN hL u2 t2 t1 h3.1 t3 t4]; simp only [bs, l0, l1, l2, l3, l4, l5, l6, l7, l8, l9, l10, l12, l15, l30, l31, l32, l40, l42, l48, l57, l60, l64, l98, l99, l100, l109, l110, l112, l115, l265, l1000, l518400, ngd, if_true, if_false, bn0, reduceCtorEq, n10, z1, z3, z0]
  · unfold f_X5_can; rw [e2]; simp only [bs, l0, l1, l2, l3, l4, l5, l6, l7, l8, l9, l10, l12, l15, l30, l31, l32, l40, l42, l48, l57, l60, l64, l98, l99, l100, l109, l110, l112, l115, l265, l1000, l518400, ngd, if_true, if_false, bn0, reduceCtorEq, n10, z1, z3, z0]; rw [t5', e3]; simp only [bs, l0, l1, l2, l3, l4, l5, l6, l7, l8, l9, l10, l12, l15, l30, l31, l32, l40, l42, l48, l57, l60, l64, l98, l99, l100, l109, l110, l112, l115, l265, l1000, l518400, ngd, if_true, if_false, bn0, reduceCtorEq, n10, z1, z3, z0]; rw [d2, ← hv, e_ask]; simp only [bs, l0, l1, l2, l3, l4, l5, l6, l7, l8, l9, l10, l12, l15, l30, l31, l32, l40, l42, l48, l57, l60, l64, l98, l99, l100, l109, l110, l112, l115, l265, l1000, l518400, ngd, if_true, if_false, bn0, reduceCtorEq, n10, z1, z3, z0]
def alf (L : List (List Nat)) (H : List Nat) (x y i : Nat) : Bool := bgc L H i && decide (dg (dr L i) x = y)
theorem e_alike_L {N n x y : Nat} {x3 : Int32} {L : List (List Nat)} {H : List Nat} {w : Wd} (hL : LOk n L) (h : RTC 0 L w) (hH : ∀ y ∈ H, y < n) (hl : H.length ≤ n) (h1 : gI w 407 0 = nI H.length) (h2 : gI w 406 0 = nI (cd H)) (hx : x < n) (hy : y < n) : ∀ (m k c F : Nat), k + m = L.length → m < F → X4_alike_L1 N (nI x) (nI y) x3 F (nI c) (nI k) w = some (nI (cnt (alf L H x y) m k c), w) := by
  have hn := hL.1
  have hll := hL.2.1
  intro m
  induction m with
  | zero =>
    intro k c F hk hF
    obtain ⟨F, rfl, _⟩ := fuel_s hF
    rw [X4_alike_L1, h.1, iT (nI_le (by omega) (by omega)), cnt]
  | succ m ih =>
    intro k c F hk hF
    obtain ⟨F, rfl, hF'⟩ := fuel_s hF
    have hp := LOk_at hL (k := k) (by omega)
    have hlt := Pm_dg hp hx
    have hcd := Pm_cd hp hn
    rw [X4_alike_L1, h.1, iF (nI_ge (by omega) (by omega)), h1, e_ones (by omega)]
    simp only [bs, l0, l1, l2, l3, l4, l5, l6, l7, l8, l9, l10, l12, l15, l30, l31, l32, l40, l42, l48, l57, l60, l64, l98, l99, l100, l109, l110, l112, l115, l265, l1000, l518400, ngd]
    rw [h2, e_fitsAt hL h (by omega) (hat_cd hn hH (by omega)), ftf_bgc hL hH (by omega) (by omega)]
    simp only [bs, l0, l1, l2, l3, l4, l5, l6, l7, l8, l9, l10, l12, l15, l30, l31, l32, l40, l42, l48, l57, l60, l64, l98, l99, l100, l109, l110, l112, l115, l265, l1000, l518400, ngd]
    cases q : bgc L H k with
    | false =>
      rw [iT bnFc, nI_add, ih (k + 1) _ F (by omega) (by omega), cnt_f (by unfold alf; simp [q])]
    | true =>
      rw [iF bnTc, gd_in (by omega) (by omega), nI_clamp (by omega), h.2 k (by omega), e_paper (by omega) (by omega), Pm_pp hp hn]
      simp only [bs, l0, l1, l2, l3, l4, l5, l6, l7, l8, l9, l10, l12, l15, l30, l31, l32, l40, l42, l48, l57, l60, l64, l98, l99, l100, l109, l110, l112, l115, l265, l1000, l518400, ngd]
      by_cases q2 : dg (dr L k) x = y
      · rw [iT (by rw [q2]), nI_add, nI_add, ih (k + 1) _ F (by omega) (by omega), cnt_t (by unfold alf; simp [q, q2])]
      · rw [iF (fun z => q2 ((nI_eq (by omega) (by omega)).mp z)), nI_add, ih (k + 1) _ F (by omega) (by omega), cnt_f (by unfold alf; simp [q2])]
theorem e_malike_L {N n x y : Nat} {L : List (List Nat)} {H : List Nat} {w : Wd} (hN : 1000 ≤ N) (hL : LOk n L) (h : RTS n L w) (hH : ∀ y ∈ H, y < n) (hl : H.length ≤ n) (hh : ∀ x, x < H.length → gA w 42 0 x = nI (dg H x)) (h5 : gI w 524 0 = nI H.length) (hx : x < n) (hy : y < n) : ∀ (m k a c F : Nat), k + m = L.length → m < F → X5_alike_L1 N (nI x) (nI y) F (nI a) (nI c) (nI k) w = some (nI (cnt (bgc L H) m k a), nI (cnt (alf L H x y) m k c), w) := by
  have hn := hL.1
  have hll := hL.2.1
  intro m
  induction m with
  | zero =>
    intro k a c F hk hF
    obtain ⟨F, rfl, _⟩ := fuel_s hF
    rw [X5_alike_L1, h.1, iT (nI_le (by omega) (by omega)), cnt, cnt]
  | succ m ih =>
    intro k a c F hk hF
    obtain ⟨F, rfl, hF'⟩ := fuel_s hF
    have hp := LOk_at hL (k := k) (by omega)
    have hlt := Pm_dg hp hx
    rw [X5_alike_L1, h.1, iF (nI_ge (by omega) (by omega)), h5, e_begins hN hL h (by omega) hl hh (fun x hx => hH _ (dg_mem hx)), bgc_alk hL hl (by omega)]
    unfold X5_alike_J62
    simp only [bs, l0, l1, l2, l3, l4, l5, l6, l7, l8, l9, l10, l12, l15, l30, l31, l32, l40, l42, l48, l57, l60, l64, l98, l99, l100, l109, l110, l112, l115, l265, l1000, l518400, ngd]
    cases q : bgc L H k with
    | false =>
      rw [iT bnFc, iT bnFc, nI_add, nI_add, nI_add, ih (k + 1) _ _ F (by omega) (by omega), cnt_f q, cnt_f (f := alf L H x y) (by unfold alf; simp [q])]; rfl
    | true =>
      rw [iF bnTc, iF bnTc, e_right hL h (by omega) hx]
      simp only [bs, l0, l1, l2, l3, l4, l5, l6, l7, l8, l9, l10, l12, l15, l30, l31, l32, l40, l42, l48, l57, l60, l64, l98, l99, l100, l109, l110, l112, l115, l265, l1000, l518400, ngd]
      by_cases q2 : dg (dr L k) x = y
      · rw [iT (by rw [q2]), nI_add, nI_add, nI_add, ih (k + 1) _ _ F (by omega) (by omega), cnt_t q, cnt_t (f := alf L H x y) (by unfold alf; simp [q, q2])]
      · rw [iF (fun z => q2 ((nI_eq (by omega) (by omega)).mp z)), nI_add, nI_add, nI_add, ih (k + 1) _ _ F (by omega) (by omega), cnt_t q, cnt_f (f := alf L H x y) (by unfold alf; simp [q2])]; rfl
theorem ok_alike {N : Nat} (hN : 1000 ≤ N) : Ok_alike N Inv := fun a1 a2 w hI => by
  obtain ⟨o, H, hW, hT⟩ := hI
  have h3 := hW.2.2.1
  have h4 := hW.2.2.2.1
  have hn := hW.1.1
  rcases cix a1 (n := oN o) (by omega) with h | ⟨x, hx, rfl⟩
  · refine ⟨ng 1, w, w, ?_, ?_, o, H, hW, hT⟩
    · unfold f_X4_alike; rw [e_isMate_f hn h3.1 h]; simp only [bs, l0, l1, l2, l3, l4, l5, l6, l7, l8, l9, l10, l12, l15, l30, l31, l32, l40, l42, l48, l57, l60, l64, l98, l99, l100, l109, l110, l112, l115, l265, l1000, l518400, ngd, if_true, if_false, bn0, reduceCtorEq, n10, z1, z3, z0]
    · unfold f_X5_alike; rw [e_misMate_f hn h4.1 h]; simp only [bs, l0, l1, l2, l3, l4, l5, l6, l7, l8, l9, l10, l12, l15, l30, l31, l32, l40, l42, l48, l57, l60, l64, l98, l99, l100, l109, l110, l112, l115, l265, l1000, l518400, ngd, if_true, if_false, bn0, reduceCtorEq, n10, z1, z3, z0]
  rcases cix a2 (n := oN o) (by omega) with h | ⟨y, hy, rfl⟩
  · refine ⟨ng 1, w, w, ?_, ?_, o, H, hW, hT⟩
    · unfold f_X4_alike; rw [e_isMate_t hn h3.1 hx]; simp only [bs, l0, l1, l2, l3, l4, l5, l6, l7, l8, l9, l10, l12, l15, l30, l31, l32, l40, l42, l48, l57, l60, l64, l98, l99, l100, l109, l110, l112, l115, l265, l1000, l518400, ngd, if_true, if_false, bn0, reduceCtorEq, n10, z1, z3, z0]; rw [e_isMate_f hn h3.1 h]; simp only [bs, l0, l1, l2, l3, l4, l5, l6, l7, l8, l9, l10, l12, l15, l30, l31, l32, l40, l42, l48, l57, l60, l64, l98, l99, l100, l109, l110, l112, l115, l265, l1000, l518400, ngd, if_true, if_false, bn0, reduceCtorEq, n10, z1, z3, z0]
    · unfold f_X5_alike; rw [e_misMate_t hn h4.1 hx]; simp only [bs, l0, l1, l2, l3, l4, l5, l6, l7, l8, l9, l10, l12, l15, l30, l31, l32, l40, l42, l48, l57, l60, l64, l98, l99, l100, l109, l110, l112, l115, l265, l1000, l518400, ngd, if_true, if_false, bn0, reduceCtorEq, n10, z1, z3, z0]; rw [e_misMate_f hn h4.1 h]; simp only [bs, l0, l1, l2, l3, l4, l5, l6, l7, l8, l9, l10, l12, l15, l30, l31, l32, l40, l42, l48, l57, l60, l64, l98, l99, l100, l109, l110, l112, l115, l265, l1000, l518400, ngd, if_true, if_false, bn0, reduceCtorEq, n10, z1, z3, z0]
  obtain ⟨wa, ea, u1, u2, hWa⟩ := IW_list (N := N) hN hW
  obtain ⟨h1, h2, h3', h4', h5, h6, h7, h8, h9⟩ := id hWa
  obtain ⟨t1, t2, t3, t4, t5, t6⟩ := id h7
  have hL := LOk_r h1
  have hll := hL.2.1
  have hTa := Itl_ag hT u1
  have hcb := cnb_le (rights o) H
  by_cases c : cnb (rights o) H = 0
  · have h4c := RM_ag h4' (cref_ag 4 wa)
    obtain ⟨w2, e2, b1, b2⟩ := e_setRights (N := N) hN h1 h4c
    have gc := cref_ag 4 wa
    refine ⟨ng 3, cref 4 wa, mref 4 w2, ?_, ?_, Inv_ref hWa hTa b1⟩
    · unfold f_X4_alike; rw [e_isMate_t hn h3.1 hx]; simp only [bs, l0, l1, l2, l3, l4, l5, l6, l7, l8, l9, l10, l12, l15, l30, l31, l32, l40, l42, l48, l57, l60, l64, l98, l99, l100, l109, l110, l112, l115, l265, l1000, l518400, ngd, if_true, if_false, bn0, reduceCtorEq, n10, z1, z3, z0]; rw [e_isMate_t hn h3.1 hy]; simp only [bs, l0, l1, l2, l3, l4, l5, l6, l7, l8, l9, l10, l12, l15, l30, l31, l32, l40, l42, l48, l57, l60, l64, l98, l99, l100, l109, l110, l112, l115, l265, l1000, l518400, ngd, if_true, if_false, bn0, reduceCtorEq, n10, z1, z3, z0]; rw [ea]; simp only [bs, l0, l1, l2, l3, l4, l5, l6, l7, l8, l9, l10, l12, l15, l30, l31, l32, l40, l42, l48, l57, l60, l64, l98, l99, l100, l109, l110, l112, l115, l265, l1000, l518400, ngd, if_true, if_false, bn0, reduceCtorEq, n10, z1, z3, z0]; rw [t3, e_ones (by omega)]; simp only [bs, l0, l1, l2, l3, l4, l5, l6, l7, l8, l9, l10, l12, l15, l30, l31, l32, l40, l42, l48, l57, l60, l64, l98, l99, l100, l109, l110, l112, l115, l265, l1000, l518400, ngd, if_true, if_false, bn0, reduceCtorEq, n10, z1, z3, z0]; rw [t4, e_fitHat hN hL u2 t2 t1]; simp only [bs, l0, l1, l2, l3, l4, l5, l6, l7, l8, l9, l10, l12, l15, l30, l31, l32, l40, l42, l48, l57, l60, l64, l98, l99, l100, l109, l110, l112, l115, l265, l1000, l518400, ngd, if_true, if_false, bn0, reduceCtorEq, n10, z1, z3, z0]; rw [iT (by rw [c]), e_refuse (by omega)]; simp only [bs, l0, l1, l2, l3, l4, l5, l6, l7, l8, l9, l10, l12, l15, l30, l31, l32, l40, l42, l48, l57, l60, l64, l98, l99, l100, l109, l110, l112, l115, l265, l1000, l518400, ngd, if_true, if_false, bn0, reduceCtorEq, n10, z1, z3, z0]
    · unfold f_X5_alike; rw [e_misMate_t hn h4c.1 hx]; simp only [bs, l0, l1, l2, l3, l4, l5, l6, l7, l8, l9, l10, l12, l15, l30, l31, l32, l40, l42, l48, l57, l60, l64, l98, l99, l100, l109, l110, l112, l115, l265, l1000, l518400, ngd, if_true, if_false, bn0, reduceCtorEq, n10, z1, z3, z0]; rw [e_misMate_t hn h4c.1 hy]; simp only [bs, l0, l1, l2, l3, l4, l5, l6, l7, l8, l9, l10, l12, l15, l30, l31, l32, l40, l42, l48, l57, l60, l64, l98, l99, l100, l109, l110, l112, l115, l265, l1000, l518400, ngd, if_true, if_false, bn0, reduceCtorEq, n10, z1, z3, z0]; rw [e2]; simp only [bs, l0, l1, l2, l3, l4, l5, l6, l7, l8, l9, l10, l12, l15, l30, l31, l32, l40, l42, l48, l57, l60, l64, l98, l99, l100, l109, l110, l112, l115, l265, l1000, l518400, ngd, if_true, if_false, bn0, reduceCtorEq, n10, z1, z3, z0]; rw [e_malike_L hN hL b2 t2 t1 (by rw [agA b1 42 0, agA gc 42 0]; exact t6) (by rw [agI b1 524 0, agI gc 524 0]; exact t5) hx hy (rights o).length 0 0 0 N (by omega) (by omega)]; simp only [bs, l0, l1, l2, l3, l4, l5, l6, l7, l8, l9, l10, l12, l15, l30, l31, l32, l40, l42, l48, l57, l60, l64, l98, l99, l100, l109, l110, l112, l115, l265, l1000, l518400, ngd, if_true, if_false, bn0, reduceCtorEq, n10, z1, z3, z0]; rw [iT (by rw [show cnt (bgc (rights o) H) (rights o).length 0 0 = 0 from c]), e_meet (by omega)]; simp only [bs, l0, l1, l2, l3, l4, l5, l6, l7, l8, l9, l10, l12, l15, l30, l31, l32, l40, l42, l48, l57, l60, l64, l98, l99, l100, l109, l110, l112, l115, l265, l1000, l518400, ngd, if_true, if_false, bn0, reduceCtorEq, n10, z1, z3, z0]
  · have c' : ¬ nI (cnb (rights o) H) = nI 0 := fun q => c ((nI_eq (by omega) (by omega)).mp q)
    obtain ⟨so, hso⟩ : ∃ so, so = cnt (alf (rights o) H x y) (rights o).length 0 0 := ⟨_, rfl⟩
    have hsl : so ≤ 265 := by have := cnt_le (alf (rights o) H x y) (rights o).length 0 0; omega
    obtain ⟨u, hu⟩ : ∃ u, u = lN (so / Nat.gcd so (cnb (rights o) H)) := ⟨_, rfl⟩
    obtain ⟨l, hl⟩ : ∃ l, l = lN (cnb (rights o) H / Nat.gcd so (cnb (rights o) H)) := ⟨_, rfl⟩
    have g1 : ag [413, 414] wa (sL (sL wa 413 0 u) 414 0 l) := ((ag.rf _ wa).sL (by simp)).sL (by simp)
    have h4c := RM_ag h4' g1
    obtain ⟨w2, e2, b1, b2⟩ := e_setRights (N := N) hN h1 h4c
    refine ⟨nI 1, sL (sL wa 413 0 u) 414 0 l, sL (sL w2 503 0 u) 504 0 l, ?_, ?_, Inv_frac hWa hTa b1⟩
    · unfold f_X4_alike; rw [e_isMate_t hn h3.1 hx]; simp only [bs, l0, l1, l2, l3, l4, l5, l6, l7, l8, l9, l10, l12, l15, l30, l31, l32, l40, l42, l48, l57, l60, l64, l98, l99, l100, l109, l110, l112, l115, l265, l1000, l518400, ngd, if_true, if_false, bn0, reduceCtorEq, n10, z1, z3, z0]; rw [e_isMate_t hn h3.1 hy]; simp only [bs, l0, l1, l2, l3, l4, l5, l6, l7, l8, l9, l10, l12, l15, l30, l31, l32, l40, l42, l48, l57, l60, l64, l98, l99, l100, l109, l110, l112, l115, l265, l1000, l518400, ngd, if_true, if_false, bn0, reduceCtorEq, n10, z1, z3, z0]; rw [ea]; simp only [bs, l0, l1, l2, l3, l4, l5, l6, l7, l8, l9, l10, l12, l15, l30, l31, l32, l40, l42, l48, l57, l60, l64, l98, l99, l100, l109, l110, l112, l115, l265, l1000, l518400, ngd, if_true, if_false, bn0, reduceCtorEq, n10, z1, z3, z0]; rw [t3, e_ones (by omega)]; simp only [bs, l0, l1, l2, l3, l4, l5, l6, l7, l8, l9, l10, l12, l15, l30, l31, l32, l40, l42, l48, l57, l60, l64, l98, l99, l100, l109, l110, l112, l115, l265, l1000, l518400, ngd, if_true, if_false, bn0, reduceCtorEq, n10, z1, z3, z0]; rw [t4, e_fitHat hN hL u2 t2 t1]; simp only [bs, l0, l1, l2, l3, l4, l5, l6, l7, l8, l9, l10, l12, l15, l30, l31, l32, l40, l42, l48, l57, l60, l64, l98, l99, l100, l109, l110, l112, l115, l265, l1000, l518400, ngd, if_true, if_false, bn0, reduceCtorEq, n10, z1, z3, z0]; rw [iF c', e_alike_L hL u2 t2 t1 t3 t4 hx hy (rights o).length 0 0 N (by omega) (by omega), ← hso]; simp only [bs, l0, l1, l2, l3, l4, l5, l6, l7, l8, l9, l10, l12, l15, l30, l31, l32, l40, l42, l48, l57, l60, l64, l98, l99, l100, l109, l110, l112, l115, l265, l1000, l518400, ngd, if_true, if_false, bn0, reduceCtorEq, n10, z1, z3, z0]; rw [e_tellFraction hN (by omega) (by omega) (by omega), ← hu, ← hl]; simp only [bs, l0, l1, l2, l3, l4, l5, l6, l7, l8, l9, l10, l12, l15, l30, l31, l32, l40, l42, l48, l57, l60, l64, l98, l99, l100, l109, l110, l112, l115, l265, l1000, l518400, ngd, if_true, if_false, bn0, reduceCtorEq, n10, z1, z3, z0]
    · unfold f_X5_alike; rw [e_misMate_t hn h4c.1 hx]; simp only [bs, l0, l1, l2, l3, l4, l5, l6, l7, l8, l9, l10, l12, l15, l30, l31, l32, l40, l42, l48, l57, l60, l64, l98, l99, l100, l109, l110, l112, l115, l265, l1000, l518400, ngd, if_true, if_false, bn0, reduceCtorEq, n10, z1, z3, z0]; rw [e_misMate_t hn h4c.1 hy]; simp only [bs, l0, l1, l2, l3, l4, l5, l6, l7, l8, l9, l10, l12, l15, l30, l31, l32, l40, l42, l48, l57, l60, l64, l98, l99, l100, l109, l110, l112, l115, l265, l1000, l518400, ngd, if_true, if_false, bn0, reduceCtorEq, n10, z1, z3, z0]; rw [e2]; simp only [bs, l0, l1, l2, l3, l4, l5, l6, l7, l8, l9, l10, l12, l15, l30, l31, l32, l40, l42, l48, l57, l60, l64, l98, l99, l100, l109, l110, l112, l115, l265, l1000, l518400, ngd, if_true, if_false, bn0, reduceCtorEq, n10, z1, z3, z0]; rw [e_malike_L hN hL b2 t2 t1 (by rw [agA b1 42 0]; exact t6) (by rw [agI b1 524 0]; exact t5) hx hy (rights o).length 0 0 0 N (by omega) (by omega)]; simp only [bs, l0, l1, l2, l3, l4, l5, l6, l7, l8, l9, l10, l12, l15, l30, l31, l32, l40, l42, l48, l57, l60, l64, l98, l99, l100, l109, l110, l112, l115, l265, l1000, l518400, ngd, if_true, if_false, bn0, reduceCtorEq, n10, z1, z3, z0]; rw [show cnt (bgc (rights o) H) (rights o).length 0 0 = cnb (rights o) H from rfl, iF c', ← hso, nI_l (by omega), nI_l (by omega), e_part hN (by omega) (by omega) (by omega), ← hu, ← hl]; simp only [bs, l0, l1, l2, l3, l4, l5, l6, l7, l8, l9, l10, l12, l15, l30, l31, l32, l40, l42, l48, l57, l60, l64, l98, l99, l100, l109, l110, l112, l115, l265, l1000, l518400, ngd, if_true, if_false, bn0, reduceCtorEq, n10, z1, z3, z0]
