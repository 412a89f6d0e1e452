/-! right drawings: what they are, and the model's list of them -/
def agn (o : Of) (d : List Nat) (x : Nat) : Nat := if bar o x (dg d x) = 0 then (if dg d (dg d x) = x ∧ mnd o x (dg d x) = true then 5 else 0) else bar o x (dg d x)
def fb (o : Of) (d : List Nat) : Nat → Nat → Option Nat
  | 0, _ => none
  | m + 1, k => if agn o d k = 0 then fb o d m (k + 1) else some k
def rgb (o : Of) (d : List Nat) : Bool := decide (rb o 3 = true ∧ 1 < rc d)
def rt (o : Of) (d : List Nat) : Bool := decide (fb o d (oN o) 0 = none ∧ rgb o d = false)
def gl (F : Nat → List (List Nat)) : Nat → Nat → List (List Nat)
  | 0, _ => []
  | m + 1, k => F k ++ gl F m (k + 1)
def gen (o : Of) : Nat → List Nat → List (List Nat)
  | 0, p => if rt o p = true then [p] else []
  | m + 1, p => gl (fun y => if y ∈ p ∨ ¬ bar o p.length y = 0 then [] else gen o m (p ++ [y])) (oN o) 0
def rights (o : Of) : List (List Nat) := gen o (oN o) []
theorem fb_none {o : Of} {d : List Nat} : ∀ (m k : Nat), fb o d m k = none ↔ ∀ x, k ≤ x → x < k + m → agn o d x = 0 := by
  intro m
  induction m with
  | zero => intro k; exact ⟨fun _ x h1 h2 => by omega, fun _ => rfl⟩
  | succ m ih =>
    intro k
    unfold fb
    by_cases c : agn o d k = 0
    · rw [iT c, ih]
      constructor
      · intro h x h1 h2
        rcases Nat.eq_or_lt_of_le h1 with e | e
        · rw [← e]; exact c
        · exact h x (by omega) (by omega)
      · intro h x h1 h2; exact h x (by omega) (by omega)
    · rw [iF c]
      constructor
      · intro h; cases h
      · intro h; exact absurd (h k (by omega) (by omega)) c
theorem fb_some {o : Of} {d : List Nat} : ∀ (m k j : Nat), fb o d m k = some j → k ≤ j ∧ j < k + m ∧ agn o d j ≠ 0 := by
  intro m
  induction m with
  | zero => intro k j e; cases e
  | succ m ih =>
    intro k j e
    unfold fb at e
    by_cases c : agn o d k = 0
    · rw [iT c] at e
      obtain ⟨h1, h2, h3⟩ := ih (k + 1) j e
      exact ⟨by omega, by omega, h3⟩
    · rw [iF c] at e
      obtain rfl := Option.some.inj e
      exact ⟨by omega, by omega, c⟩
theorem agn_lt (o : Of) (d : List Nat) (x : Nat) : agn o d x < 6 := by
  have := bar_le o x (dg d x)
  unfold agn
  repeat' split
  all_goals omega
def bb (o : Of) (d : List Nat) : Nat := match fb o d (oN o) 0 with
  | some j => agn o d j
  | none => if rgb o d = true then 6 else 0
def bm (o : Of) (d : List Nat) : Nat := match fb o d (oN o) 0 with
  | some j => j
  | none => 0
theorem rt_bb (o : Of) (d : List Nat) : rt o d = true ↔ bb o d = 0 := by
  unfold rt bb
  rw [decide_eq_true_eq]
  cases e : fb o d (oN o) 0 with
  | some j =>
    have := (fb_some _ _ _ e).2.2
    simp [this]
  | none => cases c : rgb o d <;> simp
theorem One_ag {S : List Nat} {n : Nat} {d : List Nat} {w w' : Wd} (h : One n d w) (g : ag S w w') (hs : 40 ∉ S := by decide) : One n d w' := fun x hx => by
  rw [g.2.2 40 0 hs (by decide)]; exact h x hx
theorem e_badBy_L {N : Nat} {o : Of} {d : List Nat} (hf : Wf o) (hd : Pm (oN o) d) : ∀ (m k F : Nat) (w : Wd), RM o w → One (oN o) d w → k + m = oN o → m < F → ∃ w', ag [520] w w' ∧ (fb o d m k = none → X5_badBy_L1 N F (nI k) w = some (.inr w')) ∧ ∀ j, fb o d m k = some j → X5_badBy_L1 N F (nI k) w = some (.inl (nI (agn o d j), w')) ∧ gI w' 520 0 = nI j := by
  have hn := hf.1
  intro m
  induction m with
  | zero =>
    intro k F w hR hO hk hF
    obtain ⟨F, rfl, _⟩ := fuel_s hF
    refine ⟨w, ag.rf _ _, fun _ => ?_, fun j e => by cases e⟩
    rw [X5_badBy_L1, hR.1, iT (nI_le (by omega) (by omega))]
  | succ m ih =>
    intro k F w hR hO hk hF
    obtain ⟨F, rfl, hF'⟩ := fuel_s hF
    have g1 : ag [520] w (sI w 520 0 (nI k)) := (ag.rf _ _).sI (by decide)
    have hR1 := RM_ag hR g1
    have hO1 := One_ag hO g1
    have hk' : k < oN o := by omega
    have hy := Pm_dg hd hk'
    have hz := Pm_dg hd hy
    have hb := bar_le o k (dg d k)
    obtain ⟨w', a1, a2, a3⟩ := ih (k + 1) F (sI w 520 0 (nI k)) hR1 hO1 (by omega) (by omega)
    rw [X5_badBy_L1, hR.1, iF (nI_ge (by omega) (by omega)), gd_in (by omega) (by omega), nI_clamp (by omega), hO1 k hk', e_barOf hR1 hf hk' hy, fb]
    simp only [bs, l0, l1, l2, l3, l4, l5, l6, l7, l8, l9, l10, l12, l15, l30, l31, l32, l40, l42, l48, l57, l60, l64, l98, l99, l100, l109, l110, l112, l115, l265, l1000, l518400, ngd]
    by_cases c1 : bar o k (dg d k) = 0
    · rw [c1, iT rfl, gd_in (by omega) (by omega), hO1 k hk', gd_in (by omega) (by omega), nI_clamp (by omega), hO1 _ hy]
      by_cases c2 : dg d (dg d k) = k
      · rw [c2, iT rfl, gd_in (by omega) (by omega), e_isBack hR1 hf hk' hy]
        simp only [bs, l0, l1, l2, l3, l4, l5, l6, l7, l8, l9, l10, l12, l15, l30, l31, l32, l40, l42, l48, l57, l60, l64, l98, l99, l100, l109, l110, l112, l115, l265, l1000, l518400, ngd]
        cases c3 : mnd o k (dg d k) with
        | false =>
          have e0 : agn o d k = 0 := by unfold agn; simp [c1, c3]
          rw [iT bnFc, iT e0, nI_add]
          exact ⟨w', g1.tr a1, a2, a3⟩
        | true =>
          have e0 : agn o d k = 5 := by unfold agn; simp [c1, c2, c3]
          rw [iF bnTc, e0, iF (by decide)]
          refine ⟨sI w 520 0 (nI k), g1, (fun e => by cases e), fun j e => ?_⟩
          obtain rfl := Option.some.inj e
          rw [e0]
          exact ⟨rfl, by rw [gI_sI]; simp⟩
      · have e0 : agn o d k = 0 := by unfold agn; simp [c1, c2]
        rw [iF (fun q => c2 ((nI_eq (by omega) (by omega)).mp q)), iT e0, nI_add]
        exact ⟨w', g1.tr a1, a2, a3⟩
    · have e0 : agn o d k = bar o k (dg d k) := by unfold agn; simp [c1]
      rw [iF (fun q => c1 ((nI_eq (a := bar o k (dg d k)) (b := 0) (by omega) (by omega)).mp q)), e0, iF c1]
      refine ⟨sI w 520 0 (nI k), g1, (fun e => by cases e), fun j e => ?_⟩
      obtain rfl := Option.some.inj e
      rw [e0]
      exact ⟨rfl, by rw [gI_sI]; simp⟩
theorem e_badBy {N : Nat} {o : Of} {d : List Nat} {w : Wd} (hN : 1000 ≤ N) (hf : Wf o) (hd : Pm (oN o) d) (hR : RM o w) (hO : One (oN o) d w) : ∃ w', f_X5_badBy N w = some (nI (bb o d), w') ∧ ag [520] w w' ∧ gI w' 520 0 = nI (bm o d) := by
  have hn := hf.1
  have hr := hf.2.1
  obtain ⟨w', a1, a2, a3⟩ := e_badBy_L (N := N) hf hd (oN o) 0 N w hR hO (by omega) (by omega)
  unfold f_X5_badBy bb bm
  cases e : fb o d (oN o) 0 with
  | some j =>
    obtain ⟨b1, b2⟩ := a3 j e
    rw [l0, b1]
    exact ⟨w', rfl, a1, b2⟩
  | none =>
    have g1 : ag [520] w (sI w' 520 0 (nI 0)) := a1.sI (by decide)
    have hR1 := RM_ag hR g1
    have hO1 := One_ag hO g1
    have h5 : gI (sI w' 520 0 (nI 0)) 520 0 = nI 0 := by rw [gI_sI]; simp
    simp only [bs, l0, l1, l2, l3, l4, l5, l6, l7, l8, l9, l10, l12, l15, l30, l31, l32, l40, l42, l48, l57, l60, l64, l98, l99, l100, l109, l110, l112, l115, l265, l1000, l518400, ngd]
    rw [a2 e]
    simp only [bs, Sum.elim_inr]
    rw [hR1.2.2.1, e_has (by omega) (by omega)]
    simp only [bs, l0, l1, l2, l3, l4, l5, l6, l7, l8, l9, l10, l12, l15, l30, l31, l32, l40, l42, l48, l57, l60, l64, l98, l99, l100, l109, l110, l112, l115, l265, l1000, l518400, ngd]
    unfold rgb rb
    have hrc := rc_le hn hd
    cases c1 : (oR o).testBit 3 with
    | false =>
      rw [iT bnFc]
      exact ⟨_, by simp, g1, h5⟩
    | true =>
      rw [iF bnTc, e_ringsOf hN hn hd hO1 hR1.1]
      simp only [bs, l0, l1, l2, l3, l4, l5, l6, l7, l8, l9, l10, l12, l15, l30, l31, l32, l40, l42, l48, l57, l60, l64, l98, l99, l100, l109, l110, l112, l115, l265, l1000, l518400, ngd]
      by_cases c2 : rc d ≤ 1
      · rw [iT (nI_le c2 (by omega))]
        have c3 : ¬ 1 < rc d := by omega
        exact ⟨_, by simp [c3], g1, h5⟩
      · rw [iF (nI_ge (by omega) (by omega))]
        have c3 : 1 < rc d := by omega
        exact ⟨_, by simp [c3], g1, h5⟩
