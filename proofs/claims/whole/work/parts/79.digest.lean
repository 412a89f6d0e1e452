/-! digest -/
def mx (v : Int32) (h : Int64) : Int64 := ((31 : Int64) * h) + v.toInt64
def fo (g : Nat → Int64 → Int64) : Nat → Nat → Int64 → Int64
  | 0, _, h => h
  | m + 1, k, h => fo g m (k + 1) (g k h)
theorem fo_congr {g g' : Nat → Int64 → Int64} : ∀ (m k : Nat) (h : Int64), (∀ j, k ≤ j → j < k + m → g j = g' j) → fo g m k h = fo g' m k h := by
  intro m
  induction m with
  | zero => intro k h _; rfl
  | succ m ih => intro k h c; rw [fo, fo, c k (Nat.le_refl _) (by omega)]; exact ih _ _ (fun j a b => c j (by omega) (by omega))
def ml (w : Wd) (h : Int64) : Wd := sL w 531 0 h
theorem e_mix {N : Nat} {v : Int32} {w : Wd} {h : Int64} : f_X5_mix N v (ml w h) = some (ml w (mx v h)) := by
  have e : sL (sL w 531 0 h) 531 0 (mx v h) = sL w 531 0 (mx v h) := by
    unfold sL
    refine Prod.ext rfl (Prod.ext (funext fun f => funext fun i => ?_) rfl)
    show (if f = 531 ∧ i = 0 then mx v h else if f = 531 ∧ i = 0 then h else w.2.1 f i) = (if f = 531 ∧ i = 0 then mx v h else w.2.1 f i)
    by_cases c : f = 531 ∧ i = 0
    · rw [if_pos c, if_pos c]
    · rw [if_neg c, if_neg c, if_neg c]
  exact congrArg some e
def gpap (d : List Nat) : Nat → Int64 → Int64 := fun k => mx (nI (dg d k))
theorem e_cpap_L {N n : Nat} {d : List Nat} {w : Wd} (hd : ∀ y ∈ d, y < 8) (hl : d.length = n) (hn : n ≤ 6) : ∀ (m k F : Nat) (h : Int64), k + m = n → m < F → X4_mixPapers_L1 N (nI (cd d)) (nI n) F h (nI k) w = some (fo (gpap d) m k h, w) := by
  have hcd := cd_small hd (by omega)
  intro m
  induction m with
  | zero =>
    intro k F h hk hF
    obtain ⟨F, rfl, _⟩ := fuel_s hF
    rw [X4_mixPapers_L1, iT (nI_le (by omega) (by omega))]; rfl
  | succ m ih =>
    intro k F h hk hF
    obtain ⟨F, rfl, hF'⟩ := fuel_s hF
    rw [X4_mixPapers_L1, iF (nI_ge (by omega) (by omega)), e_paper (by omega) (by omega), pp_cd d k hd]
    simp only [bs, l0, l1, l2, l3, l4, l5, l6, l7, l8, l9, l10, l12, l15, l30, l31, l32, l40, l42, l48, l57, l60, l64, l98, l99, l100, l109, l110, l112, l115, l265, l1000, l518400, ngd]
    rw [nI_add]
    exact ih (k + 1) F _ (by omega) (by omega)
theorem e_cpap {N n : Nat} {d : List Nat} {w : Wd} {h : Int64} (hN : 1000 ≤ N) (hd : ∀ y ∈ d, y < 8) (hl : d.length = n) (hn : n ≤ 6) : f_X4_mixPapers N h (nI (cd d)) (nI n) w = some (fo (gpap d) n 0 h, w) := by
  unfold f_X4_mixPapers
  simp only [bs, l0, l1, l2, l3, l4, l5, l6, l7, l8, l9, l10, l12, l15, l30, l31, l32, l40, l42, l48, l57, l60, l64, l98, l99, l100, l109, l110, l112, l115, l265, l1000, l518400, ngd]
  rw [e_cpap_L hd hl hn n 0 N h (by omega) (by omega)]; rfl
def gcnt (o : Of) (H : List Nat) (w : Wd) : Nat → Int64 → Int64 := fun q => mx (nI (ctv o H w q))
theorem e_cd1 {N : Nat} {o : Of} {H : List Nat} {w : Wd} (hN : 1000 ≤ N) (hW : IW o H w) : ∀ (m k F : Nat) (h : Int64), k + m = 8 → m < F → X4_digest_L1 N F h (nI k) w = some (fo (gcnt o H w) m k h, w) := by
  intro m
  induction m with
  | zero =>
    intro k F h hk hF
    obtain ⟨F, rfl, _⟩ := fuel_s hF
    rw [X4_digest_L1, show (7 : Int32) = nI 7 from rfl, iT (nI_lt (by omega) (by omega))]; rfl
  | succ m ih =>
    intro k F h hk hF
    obtain ⟨F, rfl, hF'⟩ := fuel_s hF
    rw [X4_digest_L1, show (7 : Int32) = nI 7 from rfl, iF (nI_nlt (by omega) (by omega)), e_count hN hW (by omega)]
    simp only [bs, l0, l1, l2, l3, l4, l5, l6, l7, l8, l9, l10, l12, l15, l30, l31, l32, l40, l42, l48, l57, l60, l64, l98, l99, l100, l109, l110, l112, l115, l265, l1000, l518400, ngd]
    rw [nI_add]
    exact ih (k + 1) F _ (by omega) (by omega)
def gfct (o : Of) (x : Nat) : Nat → Int64 → Int64 := fun q => mx (fct o x q)
theorem e_cd3 {N x : Nat} {o : Of} {H : List Nat} {w : Wd} (hW : IW o H w) (hx : x < oN o) : ∀ (m k F : Nat) (h : Int64), k + m = 4 → m < F → X4_digest_L3 N (nI x) F h (nI k) w = some (fo (gfct o x) m k h, w) := by
  intro m
  induction m with
  | zero =>
    intro k F h hk hF
    obtain ⟨F, rfl, _⟩ := fuel_s hF
    rw [X4_digest_L3, l3, iT (nI_lt (by omega) (by omega))]; rfl
  | succ m ih =>
    intro k F h hk hF
    obtain ⟨F, rfl, hF'⟩ := fuel_s hF
    rw [X4_digest_L3, l3, iF (nI_nlt (by omega) (by omega)), e_fact hW.2.2.1 hW.1 hx (by omega)]
    simp only [bs, l0, l1, l2, l3, l4, l5, l6, l7, l8, l9, l10, l12, l15, l30, l31, l32, l40, l42, l48, l57, l60, l64, l98, l99, l100, l109, l110, l112, l115, l265, l1000, l518400, ngd]
    rw [nI_add]
    exact ih (k + 1) F _ (by omega) (by omega)
def gmat (o : Of) : Nat → Int64 → Int64 := fun x => fo (gfct o x) 4 0
theorem e_cd2 {N : Nat} {o : Of} {H : List Nat} {w : Wd} (hN : 1000 ≤ N) (hW : IW o H w) : ∀ (m k F : Nat) (h : Int64), k + m = oN o → m < F → X4_digest_L2 N F h (nI k) w = some (fo (gmat o) m k h, w) := by
  have hn := hW.1.1
  intro m
  induction m with
  | zero =>
    intro k F h hk hF
    obtain ⟨F, rfl, _⟩ := fuel_s hF
    rw [X4_digest_L2, hW.2.2.1.1, iT (nI_le (by omega) (by omega))]; rfl
  | succ m ih =>
    intro k F h hk hF
    obtain ⟨F, rfl, hF'⟩ := fuel_s hF
    rw [X4_digest_L2, hW.2.2.1.1, iF (nI_ge (by omega) (by omega)), show (0 : Int32) = nI 0 from rfl, e_cd3 hW (by omega) 4 0 N h (by omega) (by omega)]
    simp only [bs, l0, l1, l2, l3, l4, l5, l6, l7, l8, l9, l10, l12, l15, l30, l31, l32, l40, l42, l48, l57, l60, l64, l98, l99, l100, l109, l110, l112, l115, l265, l1000, l518400, ngd]
    rw [nI_add]
    exact ih (k + 1) F _ (by omega) (by omega)
def gyr (o : Of) : Nat → Int64 → Int64 := fun k => fo (gpap (dr (oY o) k)) (oN o) 0
theorem e_cd4 {N : Nat} {o : Of} {H : List Nat} {w : Wd} (hN : 1000 ≤ N) (hW : IW o H w) : ∀ (m k F : Nat) (h : Int64), k + m = oC o → m < F → X4_digest_L4 N F h (nI k) w = some (fo (gyr o) m k h, w) := by
  have hn := hW.1.1
  have hc := hW.2.1
  intro m
  induction m with
  | zero =>
    intro k F h hk hF
    obtain ⟨F, rfl, _⟩ := fuel_s hF
    rw [X4_digest_L4, hW.2.2.1.2.1, iT (nI_le (by omega) (by omega))]; rfl
  | succ m ih =>
    intro k F h hk hF
    obtain ⟨F, rfl, hF'⟩ := fuel_s hF
    have hy := Wf_yr hW.1 (show k < oC o by omega)
    rw [X4_digest_L4, hW.2.2.1.2.1, iF (nI_ge (by omega) (by omega)), gd_in (by omega) (by omega), nI_clamp (by omega), hW.2.2.1.2.2.2.2 k (by omega), hW.2.2.1.1, e_cpap hN (Pm8 hy hn) hy.1 hn]
    simp only [bs, l0, l1, l2, l3, l4, l5, l6, l7, l8, l9, l10, l12, l15, l30, l31, l32, l40, l42, l48, l57, l60, l64, l98, l99, l100, l109, l110, l112, l115, l265, l1000, l518400, ngd]
    rw [nI_add]
    exact ih (k + 1) F _ (by omega) (by omega)
def garr (f : Nat → Int32) : Nat → Int64 → Int64 := fun k => mx (f k)
theorem e_cd5 {N : Nat} {w : Wd} : ∀ (m k F : Nat) (h : Int64), k + m = 3 → m < F → X4_digest_L5 N F h (nI k) w = some (fo (garr (gA w 23 0)) m k h, w) := by
  intro m
  induction m with
  | zero =>
    intro k F h hk hF
    obtain ⟨F, rfl, _⟩ := fuel_s hF
    rw [X4_digest_L5, l3, iT (nI_le (by omega) (by omega))]; rfl
  | succ m ih =>
    intro k F h hk hF
    obtain ⟨F, rfl, hF'⟩ := fuel_s hF
    rw [X4_digest_L5, l3, iF (nI_ge (by omega) (by omega)), gd_in (by omega) (by omega), nI_clamp (by omega)]
    simp only [bs, l0, l1, l2, l3, l4, l5, l6, l7, l8, l9, l10, l12, l15, l30, l31, l32, l40, l42, l48, l57, l60, l64, l98, l99, l100, l109, l110, l112, l115, l265, l1000, l518400, ngd]
    rw [nI_add]
    exact ih (k + 1) F _ (by omega) (by omega)
/-! sizes -/
theorem szr_n {a b : Int32} {M : Nat} (h : szr a b M) (hM : M < 1000) : a.toInt.toNat ≤ M ∧ (∀ k, k < a.toInt.toNat → ¬ a ≤ nI k ∧ ¬ b ≤ nI k) ∧ (∀ k, a.toInt.toNat ≤ k → k < 1000 → a ≤ nI k ∧ b ≤ nI k) ∧ (nI 0 ≤ b → b = a) ∧ (¬ nI 0 ≤ b → a = ng 1) := by
  rcases h with ⟨rfl, rfl⟩ | ⟨n, hn, rfl, rfl⟩
  · refine ⟨?_, fun k hk => ?_, fun k _ hk => ⟨?_, ?_⟩, fun q => absurd q (by decide), fun _ => rfl⟩
    · show (0 : Nat) ≤ M; exact Nat.zero_le _
    · exact absurd hk (Nat.not_lt_zero _)
    · rw [ng_le (by omega) (by omega)]; trivial
    · rw [ng_le (by omega) (by omega)]; trivial
  · rw [nI_toInt (by omega), Int.toNat_natCast]
    exact ⟨hn, fun k hk => ⟨nI_ge (by omega) (by omega), nI_ge (by omega) (by omega)⟩, fun k hk hk2 => ⟨nI_le (by omega) (by omega), nI_le (by omega) (by omega)⟩, fun _ => rfl, fun q => absurd (nI_le (Nat.zero_le _) (by omega)) q⟩
def szn (a : Int32) : Nat := a.toInt.toNat
theorem e_cr2 {N r : Nat} {w : Wd} (hr : r < 6) (hz : szr (gA w 12 0 r) (gA w 31 0 r) 40) : ∀ (m k F : Nat) (h : Int64), k + m = szn (gA w 12 0 r) → m < F → X1_mixAll_L2 N (nI r) F h (nI k) w = some (fo (garr (gA w 11 r)) m k h, w) := by
  obtain ⟨z1, z2, z3, _, _⟩ := szr_n hz (by omega)
  intro m
  induction m with
  | zero =>
    intro k F h hk hF
    obtain ⟨F, rfl, _⟩ := fuel_s hF
    unfold szn at hk
    rw [X1_mixAll_L2, gd_in hr (by omega), nI_clamp (by omega), iT (z3 k (by omega) (by omega)).1]; rfl
  | succ m ih =>
    intro k F h hk hF
    obtain ⟨F, rfl, hF'⟩ := fuel_s hF
    have hk' := hk
    unfold szn at hk'
    rw [X1_mixAll_L2, gd_in hr (by omega), nI_clamp (by omega), iF (z2 k (by omega)).1, gd_in hr (by omega), gd_in (by omega) (by omega), nI_clamp (by omega)]
    simp only [bs, l0, l1, l2, l3, l4, l5, l6, l7, l8, l9, l10, l12, l15, l30, l31, l32, l40, l42, l48, l57, l60, l64, l98, l99, l100, l109, l110, l112, l115, l265, l1000, l518400, ngd]
    rw [nI_add]
    exact ih (k + 1) F _ (by omega) (by omega)
def grow (f : Nat → Int32) (g : Nat → Nat → Int32) : Nat → Int64 → Int64 := fun r h => fo (garr (g r)) (szn (f r)) 0 (mx (f r) h)
theorem e_cr1 {N : Nat} {w : Wd} (hN : 1000 ≤ N) (hz : Iro w) : ∀ (m k F : Nat) (h : Int64), k + m = 6 → m < F → X1_mixAll_L1 N F h (nI k) w = some (fo (grow (gA w 12 0) (gA w 11)) m k h, w) := by
  intro m
  induction m with
  | zero =>
    intro k F h hk hF
    obtain ⟨F, rfl, _⟩ := fuel_s hF
    rw [X1_mixAll_L1, l6, iT (nI_le (by omega) (by omega))]; rfl
  | succ m ih =>
    intro k F h hk hF
    obtain ⟨F, rfl, hF'⟩ := fuel_s hF
    have hs := (szr_n (hz k (by omega)).1 (by omega)).1
    rw [X1_mixAll_L1, l6, iF (nI_ge (by omega) (by omega)), gd_in (by omega) (by omega), nI_clamp (by omega), show (0 : Int32) = nI 0 from rfl, e_cr2 (by omega) (hz k (by omega)).1 (szn (gA w 12 0 k)) 0 N _ (by omega) (by unfold szn; omega)]
    simp only [bs, l0, l1, l2, l3, l4, l5, l6, l7, l8, l9, l10, l12, l15, l30, l31, l32, l40, l42, l48, l57, l60, l64, l98, l99, l100, l109, l110, l112, l115, l265, l1000, l518400, ngd]
    rw [nI_add]
    exact ih (k + 1) F _ (by omega) (by omega)
theorem e_ct2 {N r : Nat} {w : Wd} (hr : r < 4) (hz : szr (gA w 15 0 r) (gA w 34 0 r) 60) : ∀ (m k F : Nat) (h : Int64), k + m = szn (gA w 15 0 r) → m < F → X3_mixAll_L2 N (nI r) F h (nI k) w = some (fo (garr (gA w 14 r)) m k h, w) := by
  obtain ⟨z1, z2, z3, _, _⟩ := szr_n hz (by omega)
  intro m
  induction m with
  | zero =>
    intro k F h hk hF
    obtain ⟨F, rfl, _⟩ := fuel_s hF
    unfold szn at hk
    rw [X3_mixAll_L2, gd_in hr (by omega), nI_clamp (by omega), iT (z3 k (by omega) (by omega)).1]; rfl
  | succ m ih =>
    intro k F h hk hF
    obtain ⟨F, rfl, hF'⟩ := fuel_s hF
    have hk' := hk
    unfold szn at hk'
    rw [X3_mixAll_L2, gd_in hr (by omega), nI_clamp (by omega), iF (z2 k (by omega)).1, gd_in hr (by omega), gd_in (by omega) (by omega), nI_clamp (by omega)]
    simp only [bs, l0, l1, l2, l3, l4, l5, l6, l7, l8, l9, l10, l12, l15, l30, l31, l32, l40, l42, l48, l57, l60, l64, l98, l99, l100, l109, l110, l112, l115, l265, l1000, l518400, ngd]
    rw [nI_add]
    exact ih (k + 1) F _ (by omega) (by omega)
theorem e_ct1 {N : Nat} {w : Wd} (hN : 1000 ≤ N) (hz : Itx w) : ∀ (m k F : Nat) (h : Int64), k + m = 4 → m < F → X3_mixAll_L1 N F h (nI k) w = some (fo (grow (gA w 15 0) (gA w 14)) m k h, w) := by
  intro m
  induction m with
  | zero =>
    intro k F h hk hF
    obtain ⟨F, rfl, _⟩ := fuel_s hF
    rw [X3_mixAll_L1, l4, iT (nI_le (by omega) (by omega))]; rfl
  | succ m ih =>
    intro k F h hk hF
    obtain ⟨F, rfl, hF'⟩ := fuel_s hF
    have hs := (szr_n (hz k (by omega)).1 (by omega)).1
    rw [X3_mixAll_L1, l4, iF (nI_ge (by omega) (by omega)), gd_in (by omega) (by omega), nI_clamp (by omega), show (0 : Int32) = nI 0 from rfl, e_ct2 (by omega) (hz k (by omega)).1 (szn (gA w 15 0 k)) 0 N _ (by omega) (by unfold szn; omega)]
    simp only [bs, l0, l1, l2, l3, l4, l5, l6, l7, l8, l9, l10, l12, l15, l30, l31, l32, l40, l42, l48, l57, l60, l64, l98, l99, l100, l109, l110, l112, l115, l265, l1000, l518400, ngd]
    rw [nI_add]
    exact ih (k + 1) F _ (by omega) (by omega)
def dgs (o : Of) (H : List Nat) (w : Wd) : Int64 :=
  fo (grow (gA w 15 0) (gA w 14)) 4 0 (fo (grow (gA w 12 0) (gA w 11)) 6 0 (fo (garr (gA w 23 0)) 3 0 (fo (gyr o) (oC o) 0 (fo (gpap H) H.length 0 (fo (gmat o) (oN o) 0 (mx (nI (oR o)) (fo (gcnt o H w) 8 0 17)))))))
theorem e_cdig {N : Nat} {o : Of} {H : List Nat} {w : Wd} (hN : 1000 ≤ N) (hW : IW o H w) : f_X4_digest N w = some (dgs o H w, w) := by
  have hn := hW.1.1
  have hc := hW.2.1
  obtain ⟨t1, t2, t3, t4, t5, t6⟩ := id hW.2.2.2.2.2.2.1
  have h8' : ∀ y ∈ H, y < 8 := fun y hy => by have := t2 y hy; omega
  unfold f_X4_digest
  simp only [bs, l0, l1, l2, l3, l4, l5, l6, l7, l8, l9, l10, l12, l15, l30, l31, l32, l40, l42, l48, l57, l60, l64, l98, l99, l100, l109, l110, l112, l115, l265, l1000, l518400, ngd]
  rw [e_cd1 hN hW 8 0 N _ (by omega) (by omega)]
  simp only [bs, l0, l1, l2, l3, l4, l5, l6, l7, l8, l9, l10, l12, l15, l30, l31, l32, l40, l42, l48, l57, l60, l64, l98, l99, l100, l109, l110, l112, l115, l265, l1000, l518400, ngd]
  rw [hW.2.2.1.2.2.1, e_cd2 hN hW (oN o) 0 N _ (by omega) (by omega)]
  simp only [bs, l0, l1, l2, l3, l4, l5, l6, l7, l8, l9, l10, l12, l15, l30, l31, l32, l40, l42, l48, l57, l60, l64, l98, l99, l100, l109, l110, l112, l115, l265, l1000, l518400, ngd]
  rw [t3, t4, e_cpap hN h8' rfl (by omega)]
  simp only [bs, l0, l1, l2, l3, l4, l5, l6, l7, l8, l9, l10, l12, l15, l30, l31, l32, l40, l42, l48, l57, l60, l64, l98, l99, l100, l109, l110, l112, l115, l265, l1000, l518400, ngd]
  rw [e_cd4 hN hW (oC o) 0 N _ (by omega) (by omega)]
  simp only [bs, l0, l1, l2, l3, l4, l5, l6, l7, l8, l9, l10, l12, l15, l30, l31, l32, l40, l42, l48, l57, l60, l64, l98, l99, l100, l109, l110, l112, l115, l265, l1000, l518400, ngd]
  rw [e_cd5 3 0 N _ (by omega) (by omega)]
  simp only [bs, l0, l1, l2, l3, l4, l5, l6, l7, l8, l9, l10, l12, l15, l30, l31, l32, l40, l42, l48, l57, l60, l64, l98, l99, l100, l109, l110, l112, l115, l265, l1000, l518400, ngd]
  unfold f_X1_mixAll f_X3_mixAll
  simp only [bs, l0, l1, l2, l3, l4, l5, l6, l7, l8, l9, l10, l12, l15, l30, l31, l32, l40, l42, l48, l57, l60, l64, l98, l99, l100, l109, l110, l112, l115, l265, l1000, l518400, ngd]
  rw [e_cr1 hN hW.2.2.2.2.1 6 0 N _ (by omega) (by omega)]
  simp only [bs, l0, l1, l2, l3, l4, l5, l6, l7, l8, l9, l10, l12, l15, l30, l31, l32, l40, l42, l48, l57, l60, l64, l98, l99, l100, l109, l110, l112, l115, l265, l1000, l518400, ngd]
  rw [e_ct1 hN hW.2.2.2.2.2.1 4 0 N _ (by omega) (by omega)]
  rfl
/-! the model's -/
theorem IW_ml {o : Of} {H : List Nat} {w : Wd} (hW : IW o H w) (h : Int64) : IW o H (ml w h) := IW_ag hW ((ag.rf [531] w).sL (by simp))
theorem e_md1 {N : Nat} {o : Of} {H : List Nat} {w : Wd} (hN : 1000 ≤ N) (hW : IW o H w) : ∀ (m k F : Nat) (h : Int64), k + m = 8 → m < F → X5_digest_L1 N F (nI k) (ml w h) = some (ml w (fo (gcnt o H w) m k h)) := by
  intro m
  induction m with
  | zero =>
    intro k F h hk hF
    obtain ⟨F, rfl, _⟩ := fuel_s hF
    rw [X5_digest_L1, show (7 : Int32) = nI 7 from rfl, iT (nI_lt (by omega) (by omega))]; rfl
  | succ m ih =>
    intro k F h hk hF
    obtain ⟨F, rfl, hF'⟩ := fuel_s hF
    rw [X5_digest_L1, show (7 : Int32) = nI 7 from rfl, iF (nI_nlt (by omega) (by omega)), e_tells hN (IW_ml hW h) (by omega)]
    simp only [bs, l0, l1, l2, l3, l4, l5, l6, l7, l8, l9, l10, l12, l15, l30, l31, l32, l40, l42, l48, l57, l60, l64, l98, l99, l100, l109, l110, l112, l115, l265, l1000, l518400, ngd]
    rw [e_mix]
    simp only [bs, l0, l1, l2, l3, l4, l5, l6, l7, l8, l9, l10, l12, l15, l30, l31, l32, l40, l42, l48, l57, l60, l64, l98, l99, l100, l109, l110, l112, l115, l265, l1000, l518400, ngd]
    rw [nI_add]
    exact ih (k + 1) F _ (by omega) (by omega)
theorem e_mo2 {N x : Nat} {o : Of} {H : List Nat} {w : Wd} (hW : IW o H w) (hx : x < oN o) : ∀ (m k F : Nat) (h : Int64), k + m = 4 → m < F → X5_mixOffice_L2 N (nI x) F (nI k) (ml w h) = some (ml w (fo (gfct o x) m k h)) := by
  intro m
  induction m with
  | zero =>
    intro k F h hk hF
    obtain ⟨F, rfl, _⟩ := fuel_s hF
    rw [X5_mixOffice_L2, l3, iT (nI_lt (by omega) (by omega))]; rfl
  | succ m ih =>
    intro k F h hk hF
    obtain ⟨F, rfl, hF'⟩ := fuel_s hF
    rw [X5_mixOffice_L2, l3, iF (nI_nlt (by omega) (by omega)), e_mateOf (IW_ml hW h).2.2.2.1 hW.1 hx (by omega)]
    simp only [bs, l0, l1, l2, l3, l4, l5, l6, l7, l8, l9, l10, l12, l15, l30, l31, l32, l40, l42, l48, l57, l60, l64, l98, l99, l100, l109, l110, l112, l115, l265, l1000, l518400, ngd]
    rw [e_mix]
    simp only [bs, l0, l1, l2, l3, l4, l5, l6, l7, l8, l9, l10, l12, l15, l30, l31, l32, l40, l42, l48, l57, l60, l64, l98, l99, l100, l109, l110, l112, l115, l265, l1000, l518400, ngd]
    rw [nI_add]
    exact ih (k + 1) F _ (by omega) (by omega)
theorem e_mo1 {N : Nat} {o : Of} {H : List Nat} {w : Wd} (hN : 1000 ≤ N) (hW : IW o H w) : ∀ (m k F : Nat) (h : Int64), k + m = oN o → m < F → X5_mixOffice_L1 N F (nI k) (ml w h) = some (ml w (fo (gmat o) m k h)) := by
  have hn := hW.1.1
  intro m
  induction m with
  | zero =>
    intro k F h hk hF
    obtain ⟨F, rfl, _⟩ := fuel_s hF
    rw [X5_mixOffice_L1, (IW_ml hW h).2.2.2.1.1, iT (nI_le (by omega) (by omega))]; rfl
  | succ m ih =>
    intro k F h hk hF
    obtain ⟨F, rfl, hF'⟩ := fuel_s hF
    rw [X5_mixOffice_L1, (IW_ml hW h).2.2.2.1.1, iF (nI_ge (by omega) (by omega)), show (0 : Int32) = nI 0 from rfl, e_mo2 hW (by omega) 4 0 N h (by omega) (by omega)]
    simp only [bs, l0, l1, l2, l3, l4, l5, l6, l7, l8, l9, l10, l12, l15, l30, l31, l32, l40, l42, l48, l57, l60, l64, l98, l99, l100, l109, l110, l112, l115, l265, l1000, l518400, ngd]
    rw [nI_add]
    exact ih (k + 1) F _ (by omega) (by omega)
theorem e_mo3 {N : Nat} {o : Of} {H : List Nat} {w : Wd} (hW : IW o H w) : ∀ (m k F : Nat) (h : Int64), k + m = H.length → m < F → X5_mixOffice_L3 N F (nI k) (ml w h) = some (ml w (fo (gpap H) m k h)) := by
  have hn := hW.1.1
  obtain ⟨t1, t2, t3, t4, t5, t6⟩ := id hW.2.2.2.2.2.2.1
  intro m
  induction m with
  | zero =>
    intro k F h hk hF
    obtain ⟨F, rfl, _⟩ := fuel_s hF
    rw [X5_mixOffice_L3, show gI (ml w h) 524 0 = nI H.length from t5, iT (nI_le (by omega) (by omega))]; rfl
  | succ m ih =>
    intro k F h hk hF
    obtain ⟨F, rfl, hF'⟩ := fuel_s hF
    rw [X5_mixOffice_L3, show gI (ml w h) 524 0 = nI H.length from t5, iF (nI_ge (by omega) (by omega)), gd_in (by omega) (by omega), nI_clamp (by omega), show gA (ml w h) 42 0 k = nI (dg H k) from t6 k (by omega), e_mix]
    simp only [bs, l0, l1, l2, l3, l4, l5, l6, l7, l8, l9, l10, l12, l15, l30, l31, l32, l40, l42, l48, l57, l60, l64, l98, l99, l100, l109, l110, l112, l115, l265, l1000, l518400, ngd]
    rw [nI_add]
    exact ih (k + 1) F _ (by omega) (by omega)
theorem e_mo5 {N y : Nat} {o : Of} {H : List Nat} {w : Wd} (hW : IW o H w) (hy : y < oC o) : ∀ (m k F : Nat) (h : Int64), k + m = oN o → m < F → X5_mixOffice_L5 N (nI y) F (nI k) (ml w h) = some (ml w (fo (gpap (dr (oY o) y)) m k h)) := by
  have hn := hW.1.1
  have hc := hW.2.1
  intro m
  induction m with
  | zero =>
    intro k F h hk hF
    obtain ⟨F, rfl, _⟩ := fuel_s hF
    rw [X5_mixOffice_L5, (IW_ml hW h).2.2.2.1.1, iT (nI_le (by omega) (by omega))]; rfl
  | succ m ih =>
    intro k F h hk hF
    obtain ⟨F, rfl, hF'⟩ := fuel_s hF
    rw [X5_mixOffice_L5, (IW_ml hW h).2.2.2.1.1, iF (nI_ge (by omega) (by omega))]
    simp only [bs, l0, l1, l2, l3, l4, l5, l6, l7, l8, l9, l10, l12, l15, l30, l31, l32, l40, l42, l48, l57, l60, l64, l98, l99, l100, l109, l110, l112, l115, l265, l1000, l518400, ngd]
    rw [pk_mul, nI_add, gd_in (by omega) (by omega), nI_clamp (by omega), show gA (ml w h) 39 0 (6 * y + k) = nI (dg (dr (oY o) y) k) from hW.2.2.2.1.2.2.2.2 y hy k (by omega), e_mix]
    simp only [bs, l0, l1, l2, l3, l4, l5, l6, l7, l8, l9, l10, l12, l15, l30, l31, l32, l40, l42, l48, l57, l60, l64, l98, l99, l100, l109, l110, l112, l115, l265, l1000, l518400, ngd]
    rw [nI_add]
    exact ih (k + 1) F _ (by omega) (by omega)
theorem e_mo4 {N : Nat} {o : Of} {H : List Nat} {w : Wd} (hN : 1000 ≤ N) (hW : IW o H w) : ∀ (m k F : Nat) (h : Int64), k + m = oC o → m < F → X5_mixOffice_L4 N F (nI k) (ml w h) = some (ml w (fo (gyr o) m k h)) := by
  have hn := hW.1.1
  have hc := hW.2.1
  intro m
  induction m with
  | zero =>
    intro k F h hk hF
    obtain ⟨F, rfl, _⟩ := fuel_s hF
    rw [X5_mixOffice_L4, (IW_ml hW h).2.2.2.1.2.1, iT (nI_le (by omega) (by omega))]; rfl
  | succ m ih =>
    intro k F h hk hF
    obtain ⟨F, rfl, hF'⟩ := fuel_s hF
    rw [X5_mixOffice_L4, (IW_ml hW h).2.2.2.1.2.1, iF (nI_ge (by omega) (by omega)), show (0 : Int32) = nI 0 from rfl, e_mo5 hW (by omega) (oN o) 0 N h (by omega) (by omega)]
    simp only [bs, l0, l1, l2, l3, l4, l5, l6, l7, l8, l9, l10, l12, l15, l30, l31, l32, l40, l42, l48, l57, l60, l64, l98, l99, l100, l109, l110, l112, l115, l265, l1000, l518400, ngd]
    rw [nI_add]
    exact ih (k + 1) F _ (by omega) (by omega)
theorem e_mo6 {N : Nat} {o : Of} {H : List Nat} {w : Wd} (hW : IW o H w) : ∀ (m k F : Nat) (h : Int64), k + m = 3 → m < F → X5_mixOffice_L6 N F (nI k) (ml w h) = some (ml w (fo (garr (gA w 23 0)) m k h)) := by
  have hn := hW.1.1
  intro m
  induction m with
  | zero =>
    intro k F h hk hF
    obtain ⟨F, rfl, _⟩ := fuel_s hF
    rw [X5_mixOffice_L6, l3, iT (nI_le (by omega) (by omega))]; rfl
  | succ m ih =>
    intro k F h hk hF
    obtain ⟨F, rfl, hF'⟩ := fuel_s hF
    have h8 : (gA w 23 0 k = ng 1 ∧ gA w 44 0 (8 * k) = ng 9) ∨ (¬ gA w 44 0 (8 * k) = ng 9 ∧ gA w 44 0 (8 * k) = gA w 23 0 k) := by
      rcases hW.2.2.2.2.2.2.2.1 k (by omega) with q | ⟨K, v, k1, k2, k3, k4, k5, k6, k7, k8, k9⟩
      · exact Or.inl q
      · refine Or.inr ⟨?_, by rw [k4, k7]⟩
        have hk : K.length ≤ 6 := Nat.le_trans k1 hn
        rw [k7, nI_ng (by omega) (by omega) (by omega)]; simp
    rw [X5_mixOffice_L6]
    simp only [bs, l0, l1, l2, l3, l4, l5, l6, l7, l8, l9, l10, l12, l15, l30, l31, l32, l40, l42, l48, l57, l60, l64, l98, l99, l100, l109, l110, l112, l115, l265, l1000, l518400, ngd]
    rw [iF (nI_ge (by omega) (by omega)), pk_mul, gd_in (by omega) (by omega), nI_clamp (by omega), show gA (ml w h) 44 0 (8 * k) = gA w 44 0 (8 * k) from rfl]
    rcases h8 with ⟨a, b⟩ | ⟨a, b⟩
    · rw [iT b, e_mix]
      simp only [bs, l0, l1, l2, l3, l4, l5, l6, l7, l8, l9, l10, l12, l15, l30, l31, l32, l40, l42, l48, l57, l60, l64, l98, l99, l100, l109, l110, l112, l115, l265, l1000, l518400, ngd]
      rw [nI_add, ← a]
      exact ih (k + 1) F _ (by omega) (by omega)
    · rw [iF a, gd_in (by omega) (by omega), b, e_mix]
      simp only [bs, l0, l1, l2, l3, l4, l5, l6, l7, l8, l9, l10, l12, l15, l30, l31, l32, l40, l42, l48, l57, l60, l64, l98, l99, l100, l109, l110, l112, l115, l265, l1000, l518400, ngd]
      rw [nI_add]
      exact ih (k + 1) F _ (by omega) (by omega)
theorem e_mro3 {N r : Nat} {o : Of} {H : List Nat} {w : Wd} (hW : IW o H w) (hr : r < 6) : ∀ (m k F : Nat) (h : Int64), k + m = szn (gA w 12 0 r) → m < F → X5_digest_L3 N (nI r) F (nI k) (ml w h) = some (ml w (fo (garr (gA w 11 r)) m k h)) := by
  obtain ⟨hz, hcc⟩ := hW.2.2.2.2.1 r hr
  obtain ⟨z1, z2, z3, _, _⟩ := szr_n hz (by omega)
  intro m
  induction m with
  | zero =>
    intro k F h hk hF
    obtain ⟨F, rfl, _⟩ := fuel_s hF
    unfold szn at hk
    rw [X5_digest_L3, gd_in hr (by omega), nI_clamp (by omega), show gA (ml w h) 31 0 r = gA w 31 0 r from rfl, iT (z3 k (by omega) (by omega)).2]; rfl
  | succ m ih =>
    intro k F h hk hF
    obtain ⟨F, rfl, hF'⟩ := fuel_s hF
    have hk' := hk
    unfold szn at hk'
    rw [X5_digest_L3, gd_in hr (by omega), nI_clamp (by omega), show gA (ml w h) 31 0 r = gA w 31 0 r from rfl, iF (z2 k (by omega)).2, e_rowAt hr (by omega), show gA (ml w h) 32 0 (40 * r + k) = gA w 11 r k from (hcc k (by omega)).symm]
    simp only [bs, l0, l1, l2, l3, l4, l5, l6, l7, l8, l9, l10, l12, l15, l30, l31, l32, l40, l42, l48, l57, l60, l64, l98, l99, l100, l109, l110, l112, l115, l265, l1000, l518400, ngd]
    rw [e_mix]
    simp only [bs, l0, l1, l2, l3, l4, l5, l6, l7, l8, l9, l10, l12, l15, l30, l31, l32, l40, l42, l48, l57, l60, l64, l98, l99, l100, l109, l110, l112, l115, l265, l1000, l518400, ngd]
    rw [nI_add]
    exact ih (k + 1) F _ (by omega) (by omega)
theorem e_mro2 {N : Nat} {o : Of} {H : List Nat} {w : Wd} (hN : 1000 ≤ N) (hW : IW o H w) : ∀ (m k F : Nat) (h : Int64), k + m = 6 → m < F → X5_digest_L2 N F (nI k) (ml w h) = some (ml w (fo (grow (gA w 12 0) (gA w 11)) m k h)) := by
  intro m
  induction m with
  | zero =>
    intro k F h hk hF
    obtain ⟨F, rfl, _⟩ := fuel_s hF
    rw [X5_digest_L2, l6, iT (nI_le (by omega) (by omega))]; rfl
  | succ m ih =>
    intro k F h hk hF
    obtain ⟨F, rfl, hF'⟩ := fuel_s hF
    obtain ⟨z1, z2, z3, z4, z5⟩ := szr_n (hW.2.2.2.2.1 k (by omega)).1 (by omega)
    have go : X5_digest_J62 N (X5_digest_L2 N F) (nI k) (gA w 12 0 k) (ml w h) = some (ml w (fo (grow (gA w 12 0) (gA w 11)) (m + 1) k h)) := by
      unfold X5_digest_J62
      rw [e_mix]
      simp only [bs, l0, l1, l2, l3, l4, l5, l6, l7, l8, l9, l10, l12, l15, l30, l31, l32, l40, l42, l48, l57, l60, l64, l98, l99, l100, l109, l110, l112, l115, l265, l1000, l518400, ngd]
      rw [e_mro3 hW (by omega) (szn (gA w 12 0 k)) 0 N _ (by omega) (by unfold szn; omega)]
      simp only [bs, l0, l1, l2, l3, l4, l5, l6, l7, l8, l9, l10, l12, l15, l30, l31, l32, l40, l42, l48, l57, l60, l64, l98, l99, l100, l109, l110, l112, l115, l265, l1000, l518400, ngd]
      rw [nI_add]
      exact ih (k + 1) F _ (by omega) (by omega)
    rw [X5_digest_L2, l6, iF (nI_ge (by omega) (by omega)), gd_in (by omega) (by omega), nI_clamp (by omega), show gA (ml w h) 31 0 k = gA w 31 0 k from rfl, show (0 : Int32) = nI 0 from rfl]
    by_cases c : nI 0 ≤ gA w 31 0 k
    · rw [iT c, gd_in (by omega) (by omega), z4 c]; exact go
    · rw [iF c, show (-1 : Int32) = ng 1 from rfl, ← z5 c]; exact go
theorem e_mtx5 {N r : Nat} {o : Of} {H : List Nat} {w : Wd} (hW : IW o H w) (hr : r < 4) : ∀ (m k F : Nat) (h : Int64), k + m = szn (gA w 15 0 r) → m < F → X5_digest_L5 N (nI r) F (nI k) (ml w h) = some (ml w (fo (garr (gA w 14 r)) m k h)) := by
  obtain ⟨hz, hcc⟩ := hW.2.2.2.2.2.1 r hr
  obtain ⟨z1, z2, z3, _, _⟩ := szr_n hz (by omega)
  intro m
  induction m with
  | zero =>
    intro k F h hk hF
    obtain ⟨F, rfl, _⟩ := fuel_s hF
    unfold szn at hk
    rw [X5_digest_L5, gd_in hr (by omega), nI_clamp (by omega), show gA (ml w h) 34 0 r = gA w 34 0 r from rfl, iT (z3 k (by omega) (by omega)).2]; rfl
  | succ m ih =>
    intro k F h hk hF
    obtain ⟨F, rfl, hF'⟩ := fuel_s hF
    have hk' := hk
    unfold szn at hk'
    rw [X5_digest_L5, gd_in hr (by omega), nI_clamp (by omega), show gA (ml w h) 34 0 r = gA w 34 0 r from rfl, iF (z2 k (by omega)).2]
    simp only [bs, l0, l1, l2, l3, l4, l5, l6, l7, l8, l9, l10, l12, l15, l30, l31, l32, l40, l42, l48, l57, l60, l64, l98, l99, l100, l109, l110, l112, l115, l265, l1000, l518400, ngd]
    rw [pk_mul, nI_add, gd_in (by omega) (by omega), nI_clamp (by omega), show gA (ml w h) 35 0 (60 * r + k) = gA w 14 r k from (hcc k (by omega)).symm, e_mix]
    simp only [bs, l0, l1, l2, l3, l4, l5, l6, l7, l8, l9, l10, l12, l15, l30, l31, l32, l40, l42, l48, l57, l60, l64, l98, l99, l100, l109, l110, l112, l115, l265, l1000, l518400, ngd]
    rw [nI_add]
    exact ih (k + 1) F _ (by omega) (by omega)
theorem e_mtx4 {N : Nat} {o : Of} {H : List Nat} {w : Wd} (hN : 1000 ≤ N) (hW : IW o H w) : ∀ (m k F : Nat) (h : Int64), k + m = 4 → m < F → X5_digest_L4 N F (nI k) (ml w h) = some (ml w (fo (grow (gA w 15 0) (gA w 14)) m k h)) := by
  intro m
  induction m with
  | zero =>
    intro k F h hk hF
    obtain ⟨F, rfl, _⟩ := fuel_s hF
    rw [X5_digest_L4, l4, iT (nI_le (by omega) (by omega))]; rfl
  | succ m ih =>
    intro k F h hk hF
    obtain ⟨F, rfl, hF'⟩ := fuel_s hF
    obtain ⟨z1, z2, z3, z4, z5⟩ := szr_n (hW.2.2.2.2.2.1 k (by omega)).1 (by omega)
    have go : X5_digest_J126 N (X5_digest_L4 N F) (nI k) (gA w 15 0 k) (ml w h) = some (ml w (fo (grow (gA w 15 0) (gA w 14)) (m + 1) k h)) := by
      unfold X5_digest_J126
      rw [e_mix]
      simp only [bs, l0, l1, l2, l3, l4, l5, l6, l7, l8, l9, l10, l12, l15, l30, l31, l32, l40, l42, l48, l57, l60, l64, l98, l99, l100, l109, l110, l112, l115, l265, l1000, l518400, ngd]
      rw [e_mtx5 hW (by omega) (szn (gA w 15 0 k)) 0 N _ (by omega) (by unfold szn; omega)]
      simp only [bs, l0, l1, l2, l3, l4, l5, l6, l7, l8, l9, l10, l12, l15, l30, l31, l32, l40, l42, l48, l57, l60, l64, l98, l99, l100, l109, l110, l112, l115, l265, l1000, l518400, ngd]
      rw [nI_add]
      exact ih (k + 1) F _ (by omega) (by omega)
    rw [X5_digest_L4, l4, iF (nI_ge (by omega) (by omega)), gd_in (by omega) (by omega), nI_clamp (by omega), show gA (ml w h) 34 0 k = gA w 34 0 k from rfl, show (0 : Int32) = nI 0 from rfl]
    by_cases c : nI 0 ≤ gA w 34 0 k
    · rw [iT c, gd_in (by omega) (by omega), z4 c]; exact go
    · rw [iF c, show (-1 : Int32) = ng 1 from rfl, ← z5 c]; exact go
theorem ok_digest {N : Nat} (hN : 1000 ≤ N) : Ok_digest N Inv := fun w hI => by
  obtain ⟨o, H, hW, hT⟩ := hI
  have hn := hW.1.1
  have hc := hW.2.1
  have hl := hW.2.2.2.2.2.2.1.1
  refine ⟨dgs o H w, w, ml w (dgs o H w), e_cdig hN hW, ?_, o, H, IW_ml hW _, Itl_ag hT ((ag.rf [531] w).sL (by simp))⟩
  unfold f_X5_digest f_X5_mixOffice
  rw [show sL w 531 0 (17 : Int64) = ml w 17 from rfl]
  simp only [bs, l0, l1, l2, l3, l4, l5, l6, l7, l8, l9, l10, l12, l15, l30, l31, l32, l40, l42, l48, l57, l60, l64, l98, l99, l100, l109, l110, l112, l115, l265, l1000, l518400, ngd]
  rw [e_md1 hN hW 8 0 N _ (by omega) (by omega)]
  simp only [bs, l0, l1, l2, l3, l4, l5, l6, l7, l8, l9, l10, l12, l15, l30, l31, l32, l40, l42, l48, l57, l60, l64, l98, l99, l100, l109, l110, l112, l115, l265, l1000, l518400, ngd]
  rw [show gI (ml w (fo (gcnt o H w) 8 0 17)) 511 0 = nI (oR o) from hW.2.2.2.1.2.2.1, e_mix]
  simp only [bs, l0, l1, l2, l3, l4, l5, l6, l7, l8, l9, l10, l12, l15, l30, l31, l32, l40, l42, l48, l57, l60, l64, l98, l99, l100, l109, l110, l112, l115, l265, l1000, l518400, ngd]
  rw [e_mo1 hN hW (oN o) 0 N _ (by omega) (by omega)]
  simp only [bs, l0, l1, l2, l3, l4, l5, l6, l7, l8, l9, l10, l12, l15, l30, l31, l32, l40, l42, l48, l57, l60, l64, l98, l99, l100, l109, l110, l112, l115, l265, l1000, l518400, ngd]
  rw [e_mo3 hW H.length 0 N _ (by omega) (by omega)]
  simp only [bs, l0, l1, l2, l3, l4, l5, l6, l7, l8, l9, l10, l12, l15, l30, l31, l32, l40, l42, l48, l57, l60, l64, l98, l99, l100, l109, l110, l112, l115, l265, l1000, l518400, ngd]
  rw [e_mo4 hN hW (oC o) 0 N _ (by omega) (by omega)]
  simp only [bs, l0, l1, l2, l3, l4, l5, l6, l7, l8, l9, l10, l12, l15, l30, l31, l32, l40, l42, l48, l57, l60, l64, l98, l99, l100, l109, l110, l112, l115, l265, l1000, l518400, ngd]
  rw [e_mo6 hW 3 0 N _ (by omega) (by omega)]
  simp only [bs, l0, l1, l2, l3, l4, l5, l6, l7, l8, l9, l10, l12, l15, l30, l31, l32, l40, l42, l48, l57, l60, l64, l98, l99, l100, l109, l110, l112, l115, l265, l1000, l518400, ngd]
  rw [e_mro2 hN hW 6 0 N _ (by omega) (by omega)]
  simp only [bs, l0, l1, l2, l3, l4, l5, l6, l7, l8, l9, l10, l12, l15, l30, l31, l32, l40, l42, l48, l57, l60, l64, l98, l99, l100, l109, l110, l112, l115, l265, l1000, l518400, ngd]
  rw [e_mtx4 hN hW 4 0 N _ (by omega) (by omega)]
  rfl
