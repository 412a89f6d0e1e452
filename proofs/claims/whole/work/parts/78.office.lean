/-! an office's text: fault, office -/
def kc (c : Int32) : Int32 := if c = nI 109 then nI 0 else if c = nI 98 then nI 1 else if c = nI 110 then nI 2 else if c = nI 115 then nI 3 else if c = nI 99 then nI 4 else if c = nI 112 then nI 5 else ng 9
theorem kc_cases (c : Int32) : kc c = ng 9 ∨ ∃ k, k < 6 ∧ kc c = nI k := by
  unfold kc
  by_cases h1 : c = nI 109
  · rw [if_pos h1]; exact Or.inr ⟨0, by omega, rfl⟩
  rw [if_neg h1]
  by_cases h2 : c = nI 98
  · rw [if_pos h2]; exact Or.inr ⟨1, by omega, rfl⟩
  rw [if_neg h2]
  by_cases h3 : c = nI 110
  · rw [if_pos h3]; exact Or.inr ⟨2, by omega, rfl⟩
  rw [if_neg h3]
  by_cases h4 : c = nI 115
  · rw [if_pos h4]; exact Or.inr ⟨3, by omega, rfl⟩
  rw [if_neg h4]
  by_cases h5 : c = nI 99
  · rw [if_pos h5]; exact Or.inr ⟨4, by omega, rfl⟩
  rw [if_neg h5]
  by_cases h6 : c = nI 112
  · rw [if_pos h6]; exact Or.inr ⟨5, by omega, rfl⟩
  rw [if_neg h6]; exact Or.inl rfl
theorem e_mkind {N : Nat} {c : Int32} {w : Wd} : f_X5_kindOf N c w = some (kc c, w) := by
  unfold f_X5_kindOf kc
  simp only [bs, l0, l1, l2, l3, l4, l5, l6, l7, l8, l9, l10, l12, l15, l30, l31, l32, l40, l42, l48, l57, l60, l64, l98, l99, l100, l109, l110, l112, l115, l265, l1000, l518400, ngd]
  by_cases h1 : c = nI 109
  · rw [iT h1, iT h1]
  rw [iF h1, iF h1]
  by_cases h2 : c = nI 98
  · rw [iT h2, iT h2]
  rw [iF h2, iF h2]
  by_cases h3 : c = nI 110
  · rw [iT h3, iT h3]
  rw [iF h3, iF h3]
  by_cases h4 : c = nI 115
  · rw [iT h4, iT h4]
  rw [iF h4, iF h4]
  by_cases h5 : c = nI 99
  · rw [iT h5, iT h5]
  rw [iF h5, iF h5]
  by_cases h6 : c = nI 112
  · rw [iT h6, iT h6]
  rw [iF h6, iF h6]
theorem e_ckind_s {N n k v : Nat} {c : Int32} {w : Wd} (hk : k < 6) (hv : letN k = nI v) : X4_kindOf_L1 N c (n + 1) (nI k) w = if c = nI v then some (.inl (nI k, w)) else X4_kindOf_L1 N c n (nI (k + 1)) w := by
  rw [X4_kindOf_L1]
  simp only [bs, l0, l1, l2, l3, l4, l5, l6, l7, l8, l9, l10, l12, l15, l30, l31, l32, l40, l42, l48, l57, l60, l64, l98, l99, l100, l109, l110, l112, l115, l265, l1000, l518400, ngd]
  rw [iF (nI_ge (by omega) (by omega)), gd_in (by omega) (by omega), nI_clamp (by omega), hv, nI_add]
  by_cases h : c = nI v
  · rw [iT h.symm, if_pos h]
  · rw [iF (fun q => h q.symm), if_neg h]
theorem e_ckind {N : Nat} {c : Int32} {w : Wd} (hN : 1000 ≤ N) : f_X4_kindOf N c w = some (kc c, w) := by
  obtain ⟨n, hn⟩ : ∃ n, N = n + 7 := ⟨N - 7, by omega⟩
  have e : X4_kindOf_L1 N c N (nI 0) w = X4_kindOf_L1 N c (n + 7) (nI 0) w := by rw [← hn]
  unfold f_X4_kindOf kc
  simp only [bs, l0, l1, l2, l3, l4, l5, l6, l7, l8, l9, l10, l12, l15, l30, l31, l32, l40, l42, l48, l57, l60, l64, l98, l99, l100, l109, l110, l112, l115, l265, l1000, l518400, ngd]
  rw [e, e_ckind_s (v := 109) (by omega) (by decide)]
  by_cases h1 : c = nI 109
  · rw [if_pos h1, if_pos h1]; rfl
  rw [if_neg h1, if_neg h1, e_ckind_s (v := 98) (by omega) (by decide)]
  by_cases h2 : c = nI 98
  · rw [if_pos h2, if_pos h2]; rfl
  rw [if_neg h2, if_neg h2, e_ckind_s (v := 110) (by omega) (by decide)]
  by_cases h3 : c = nI 110
  · rw [if_pos h3, if_pos h3]; rfl
  rw [if_neg h3, if_neg h3, e_ckind_s (v := 115) (by omega) (by decide)]
  by_cases h4 : c = nI 115
  · rw [if_pos h4, if_pos h4]; rfl
  rw [if_neg h4, if_neg h4, e_ckind_s (v := 99) (by omega) (by decide)]
  by_cases h5 : c = nI 99
  · rw [if_pos h5, if_pos h5]; rfl
  rw [if_neg h5, if_neg h5, e_ckind_s (v := 112) (by omega) (by decide)]
  by_cases h6 : c = nI 112
  · rw [if_pos h6, if_pos h6]; rfl
  rw [if_neg h6, if_neg h6, X4_kindOf_L1, iT (by decide)]; rfl
def fig (v : Nat → Int32) (n p : Nat) : Bool := decide (p < n ∧ 48 ≤ (v p).toInt ∧ (v p).toInt ≤ 57)
theorem fig_d {v : Nat → Int32} {n p : Nat} (h : fig v n p = true) : ∃ d, d ≤ 9 ∧ v p - nI 48 = nI d := by
  obtain ⟨h1, h2, h3⟩ := of_decide_eq_true h
  obtain ⟨d, hd⟩ : ∃ d : Nat, (v p).toInt = 48 + d := ⟨((v p).toInt - 48).toNat, by omega⟩
  refine ⟨d, by omega, ?_⟩
  have e : v p = nI (d + 48) := by rw [← Int32.toInt_inj, nI_toInt (by omega), hd]; omega
  rw [e, pk_sub (by omega), Nat.add_sub_cancel]
theorem e_isFigure {N t n p : Nat} {v : Nat → Int32} {w : Wd} (ht : t < 4) (hn : n ≤ 60) (hp : p ≤ 65) (hs : gA w 15 0 t = nI n) (hv : ∀ i, i < n → gA w 14 t i = v i) : f_X3_isFigure N (nI t) (nI p) w = some (nI (bn (fig v n p)), w) := by
  unfold f_X3_isFigure fig
  simp only [bs, l0, l1, l2, l3, l4, l5, l6, l7, l8, l9, l10, l12, l15, l30, l31, l32, l40, l42, l48, l57, l60, l64, l98, l99, l100, l109, l110, l112, l115, l265, l1000, l518400, ngd]
  rw [gd_in ht (by omega), nI_clamp (by omega), hs]
  by_cases h : n ≤ p
  · rw [iT (nI_le h (by omega)), decide_eq_false (by omega)]; rfl
  rw [iF (nI_ge (by omega) (by omega)), gd_in ht (by omega), gd_in (by omega) (by omega), nI_clamp (by omega), hv p (by omega)]
  have k1 : v p < nI 48 ↔ (v p).toInt < 48 := clt (n := 48) (by omega)
  have k2 : nI 57 < v p ↔ 57 < (v p).toInt := cgt (n := 57) (by omega)
  by_cases h1 : (v p).toInt < 48
  · rw [iT (k1.mpr h1), decide_eq_false (by omega)]; rfl
  rw [iF (fun q => h1 (k1.mp q)), gd_in ht (by omega), gd_in (by omega) (by omega)]
  by_cases h2 : 57 < (v p).toInt
  · rw [iT (k2.mpr h2), decide_eq_false (by omega)]; rfl
  rw [iF (fun q => h2 (k2.mp q)), decide_eq_true (by omega)]; rfl
def bad (v : Nat → Int32) (n c p : Nat) : Option Nat := if c = 6 then some p else if kc (v p) = ng 9 then some p else if fig v n (p + 1) = false then some (p + 1) else if fig v n (p + 2) = false then some (p + 2) else none
theorem bad_none {v : Nat → Int32} {n c p : Nat} (h : bad v n c p = none) : c ≠ 6 ∧ kc (v p) ≠ ng 9 ∧ fig v n (p + 1) = true ∧ fig v n (p + 2) = true := by
  unfold bad at h
  by_cases h1 : c = 6
  · rw [if_pos h1] at h; cases h
  rw [if_neg h1] at h
  by_cases h2 : kc (v p) = ng 9
  · rw [if_pos h2] at h; cases h
  rw [if_neg h2] at h
  cases h3 : fig v n (p + 1) with
  | false => rw [if_pos h3] at h; cases h
  | true =>
    rw [if_neg (by simp [h3])] at h
    cases h4 : fig v n (p + 2) with
    | false => rw [if_pos h4] at h; cases h
    | true => exact ⟨h1, h2, rfl, rfl⟩
def rd (v : Nat → Int32) (n : Nat) : Nat → Nat → Nat → Option Nat × List Nat
  | 0, _, _ => (none, [])
  | m + 1, c, p => if n ≤ p then (none, []) else if v p = nI 32 then rd v n m c (p + 1) else
    match bad v n c p with
    | some q => (some q, [])
    | none => ((rd v n m (c + 1) (p + 3)).1, p :: (rd v n m (c + 1) (p + 3)).2)
theorem rd_end {v : Nat → Int32} {n : Nat} : ∀ (m c p : Nat), (n ≤ p + 2 ∨ c = 6) → (rd v n m c p).1 = none → (rd v n m c p).2 = [] := by
  intro m
  induction m with
  | zero => intro c p _ _; rfl
  | succ m ih =>
    intro c p h h1
    rw [rd] at h1 ⊢
    by_cases a : n ≤ p
    · rw [if_pos a]
    rw [if_neg a] at h1 ⊢
    by_cases b : v p = nI 32
    · rw [if_pos b] at h1 ⊢; exact ih c (p + 1) (by omega) h1
    rw [if_neg b] at h1 ⊢
    cases d : bad v n c p with
    | some q => rfl
    | none =>
      obtain ⟨d1, d2, d3, d4⟩ := bad_none d
      have := (of_decide_eq_true d4).1
      omega
theorem rd_lt {v : Nat → Int32} {n q : Nat} : ∀ (m c p : Nat), (rd v n m c p).1 = some q → q ≤ n + 1 := by
  intro m
  induction m with
  | zero => intro c p h; cases h
  | succ m ih =>
    intro c p h
    rw [rd] at h
    by_cases a : n ≤ p
    · rw [if_pos a] at h; cases h
    rw [if_neg a] at h
    by_cases b : v p = nI 32
    · rw [if_pos b] at h; exact ih c (p + 1) h
    rw [if_neg b] at h
    cases d : bad v n c p with
    | none => rw [d] at h; exact ih _ _ h
    | some r =>
      rw [d] at h
      have hr : r = q := Option.some.inj h
      subst hr
      unfold bad at d
      by_cases d1 : c = 6
      · rw [if_pos d1] at d; have := Option.some.inj d; omega
      rw [if_neg d1] at d
      by_cases d2 : kc (v p) = ng 9
      · rw [if_pos d2] at d; have := Option.some.inj d; omega
      rw [if_neg d2] at d
      by_cases d3 : fig v n (p + 1) = false
      · rw [if_pos d3] at d; have := Option.some.inj d; omega
      have d3' := (of_decide_eq_true ((Bool.not_eq_false _).mp d3 : fig v n (p + 1) = true)).1
      rw [if_neg d3] at d
      by_cases d4 : fig v n (p + 2) = false
      · rw [if_pos d4] at d; have := Option.some.inj d; omega
      rw [if_neg d4] at d
      cases d
theorem rd_mem {v : Nat → Int32} {n : Nat} : ∀ (m c p : Nat), ∀ x ∈ (rd v n m c p).2, kc (v x) ≠ ng 9 ∧ fig v n (x + 1) = true ∧ fig v n (x + 2) = true := by
  intro m
  induction m with
  | zero => intro c p x hx; cases hx
  | succ m ih =>
    intro c p x hx
    rw [rd] at hx
    by_cases a : n ≤ p
    · rw [if_pos a] at hx; cases hx
    rw [if_neg a] at hx
    by_cases b : v p = nI 32
    · rw [if_pos b] at hx; exact ih c (p + 1) x hx
    rw [if_neg b] at hx
    cases d : bad v n c p with
    | some q => rw [d] at hx; cases hx
    | none =>
      rw [d] at hx
      rcases List.mem_cons.mp hx with q | q
      · rw [q]; exact (bad_none d).2
      · exact ih _ _ x q
theorem e_ff_L {N t n : Nat} {v : Nat → Int32} {w : Wd} (hN : 1000 ≤ N) (ht : t < 4) (hn : n ≤ 60) (hs : gA w 15 0 t = nI n) (hv : ∀ i, i < n → gA w 14 t i = v i) : ∀ (m c p F : Nat), n ≤ p + m → m < F → c ≤ 6 → p ≤ 63 → X3_firstFault_L1 N (nI t) F (nI c) (nI p) w = some (match (rd v n m c p).1 with | some q => .inl (nI q, w) | none => .inr w) := by
  intro m
  induction m with
  | zero =>
    intro c p F h hF hc hp
    obtain ⟨F, rfl, _⟩ := fuel_s hF
    rw [X3_firstFault_L1, gd_in ht (by omega), nI_clamp (by omega), hs, iT (nI_le (by omega) (by omega))]; rfl
  | succ m ih =>
    intro c p F h hF hc hp
    obtain ⟨F, rfl, hF'⟩ := fuel_s hF
    rw [X3_firstFault_L1, gd_in ht (by omega), nI_clamp (by omega), hs, rd]
    by_cases a : n ≤ p
    · rw [iT (nI_le a (by omega)), if_pos a]
    rw [iF (nI_ge (by omega) (by omega)), if_neg a, gd_in ht (by omega), gd_in (by omega) (by omega), nI_clamp (by omega), hv p (by omega)]
    simp only [bs, l0, l1, l2, l3, l4, l5, l6, l7, l8, l9, l10, l12, l15, l30, l31, l32, l40, l42, l48, l57, l60, l64, l98, l99, l100, l109, l110, l112, l115, l265, l1000, l518400, ngd]
    by_cases b : v p = nI 32
    · rw [iT b, if_pos b, nI_add, ih c (p + 1) F (by omega) (by omega) hc (by omega)]
    rw [iF b, if_neg b]
    by_cases d1 : c = 6
    · rw [iT (by rw [d1])]; unfold bad; rw [if_pos d1]
    rw [iF (fun q => d1 ((nI_eq (by omega) (by omega)).mp q)), gd_in ht (by omega), gd_in (by omega) (by omega), e_ckind hN]
    simp only [bs, l0, l1, l2, l3, l4, l5, l6, l7, l8, l9, l10, l12, l15, l30, l31, l32, l40, l42, l48, l57, l60, l64, l98, l99, l100, l109, l110, l112, l115, l265, l1000, l518400, ngd]
    by_cases d2 : kc (v p) = ng 9
    · rw [iT d2]; unfold bad; rw [if_neg d1, if_pos d2]
    rw [iF d2, nI_add, nI_add, nI_add, e_isFigure ht hn (by omega) hs hv]
    simp only [bs, l0, l1, l2, l3, l4, l5, l6, l7, l8, l9, l10, l12, l15, l30, l31, l32, l40, l42, l48, l57, l60, l64, l98, l99, l100, l109, l110, l112, l115, l265, l1000, l518400, ngd]
    cases d3 : fig v n (p + 1) with
    | false => rw [iT bnFc]; unfold bad; rw [if_neg d1, if_neg d2, if_pos d3]
    | true =>
      rw [iF (by decide), e_isFigure ht hn (by omega) hs hv]
      simp only [bs, l0, l1, l2, l3, l4, l5, l6, l7, l8, l9, l10, l12, l15, l30, l31, l32, l40, l42, l48, l57, l60, l64, l98, l99, l100, l109, l110, l112, l115, l265, l1000, l518400, ngd]
      cases d4 : fig v n (p + 2) with
      | false => rw [iT bnFc]; unfold bad; rw [if_neg d1, if_neg d2, if_neg (by simp [d3]), if_pos d4]
      | true =>
        rw [iF (by decide), nI_add, ih (c + 1) (p + 3) F (by omega) (by omega) (by omega) (by have := (of_decide_eq_true d4).1; omega)]; unfold bad; rw [if_neg d1, if_neg d2, if_neg (by simp [d3]), if_neg (by simp [d4])]
theorem e_ff {N t n : Nat} {v : Nat → Int32} {w : Wd} (hN : 1000 ≤ N) (ht : t < 4) (hn : n ≤ 60) (hs : gA w 15 0 t = nI n) (hv : ∀ i, i < n → gA w 14 t i = v i) : f_X3_firstFault N (nI t) w = some ((match (rd v n 60 0 0).1 with | some q => nI q | none => ng 9), w) := by
  unfold f_X3_firstFault
  simp only [bs, l0, l1, l2, l3, l4, l5, l6, l7, l8, l9, l10, l12, l15, l30, l31, l32, l40, l42, l48, l57, l60, l64, l98, l99, l100, l109, l110, l112, l115, l265, l1000, l518400, ngd]
  rw [e_ff_L hN ht hn hs hv 60 0 0 N (by omega) (by omega) (by omega) (by omega)]
  cases (rd v n 60 0 0).1 <;> rfl
/-! settling -/
theorem e_settle_L {N t n : Nat} {v : Nat → Int32} (hN : 1000 ≤ N) (hn : n ≤ 60) : ∀ (m c p F : Nat) (w : Wd), n ≤ p + m → m < F → c ≤ 6 → p ≤ 63 → gI w 4 0 = nI c → (∀ i, i < n → gA w 14 t i = v i) → (rd v n m c p).1 = none → ∃ w', X0_settle_L1 N 0 t (nI n) F (nI p) w = some w' ∧ ag [4, 16, 17, 18] w w' ∧ c + (rd v n m c p).2.length ≤ 6 ∧ gI w' 4 0 = nI (c + (rd v n m c p).2.length) ∧ (∀ k, k < (rd v n m c p).2.length → gA w' 16 0 (c + k) = kc (v (dg (rd v n m c p).2 k)) ∧ gA w' 17 0 (c + k) = v (dg (rd v n m c p).2 k + 1) - nI 48 ∧ gA w' 18 0 (c + k) = v (dg (rd v n m c p).2 k + 2) - nI 48) ∧ ∀ j, j < c → gA w' 16 0 j = gA w 16 0 j ∧ gA w' 17 0 j = gA w 17 0 j ∧ gA w' 18 0 j = gA w 18 0 j := by
  intro m
  induction m with
  | zero =>
    intro c p F w h hF hc hp h4 hv hr
    obtain ⟨F, rfl, _⟩ := fuel_s hF
    rw [X0_settle_L1]
    simp only [bs, l0, l1, l2, l3, l4, l5, l6, l7, l8, l9, l10, l12, l15, l30, l31, l32, l40, l42, l48, l57, l60, l64, l98, l99, l100, l109, l110, l112, l115, l265, l1000, l518400, ngd]
    rw [nI_add, iT (nI_le (by omega) (by omega))]
    exact ⟨w, rfl, ag.rf _ _, hc, h4, fun k hk => absurd hk (Nat.not_lt_zero _), fun _ _ => ⟨rfl, rfl, rfl⟩⟩
  | succ m ih =>
    intro c p F w h hF hc hp h4 hv hr
    obtain ⟨F, rfl, hF'⟩ := fuel_s hF
    rw [X0_settle_L1]
    simp only [bs, l0, l1, l2, l3, l4, l5, l6, l7, l8, l9, l10, l12, l15, l30, l31, l32, l40, l42, l48, l57, l60, l64, l98, l99, l100, l109, l110, l112, l115, l265, l1000, l518400, ngd]
    rw [nI_add, h4]
    by_cases a : n ≤ p + 2
    · rw [iT (nI_le a (by omega)), rd_end (m + 1) c p (Or.inl a) hr]
      exact ⟨w, rfl, ag.rf _ _, hc, h4, fun k hk => absurd hk (Nat.not_lt_zero _), fun _ _ => ⟨rfl, rfl, rfl⟩⟩
    rw [iF (nI_ge (by omega) (by omega))]
    by_cases a2 : c = 6
    · rw [iT (nI_le (by omega) (by omega)), rd_end (m + 1) c p (Or.inr a2) hr]
      exact ⟨w, rfl, ag.rf _ _, hc, h4, fun k hk => absurd hk (Nat.not_lt_zero _), fun _ _ => ⟨rfl, rfl, rfl⟩⟩
    rw [iF (nI_ge (by omega) (by omega)), gd_in (by omega) (by omega), nI_clamp (by omega), hv p (by omega)]
    rw [rd, if_neg (show ¬ n ≤ p by omega)] at hr ⊢
    by_cases b : v p = nI 32
    · rw [if_pos b] at hr ⊢
      rw [iT b, nI_add]
      exact ih c (p + 1) F w (by omega) (by omega) hc (by omega) h4 hv hr
    rw [if_neg b] at hr ⊢
    rw [iF b, gd_in (by omega) (by omega), e_ckind hN]
    simp only [bs, l0, l1, l2, l3, l4, l5, l6, l7, l8, l9, l10, l12, l15, l30, l31, l32, l40, l42, l48, l57, l60, l64, l98, l99, l100, l109, l110, l112, l115, l265, l1000, l518400, ngd]
    cases d : bad v n c p with
    | some q => rw [d] at hr; cases hr
    | none =>
      rw [d] at hr
      obtain ⟨w1, hw1⟩ : ∃ w1, w1 = sA w 16 0 (upd (gA w 16 0) c (kc (v p))) := ⟨_, rfl⟩
      obtain ⟨w2, hw2⟩ : ∃ w2, w2 = sA w1 17 0 (upd (gA w1 17 0) c (v (p + 1) - nI 48)) := ⟨_, rfl⟩
      obtain ⟨w3, hw3⟩ : ∃ w3, w3 = sA w2 18 0 (upd (gA w2 18 0) c (v (p + 2) - nI 48)) := ⟨_, rfl⟩
      have g1 : ag [4, 16, 17, 18] w w1 := by rw [hw1]; exact (ag.rf _ w).sA (by simp)
      have g2 : ag [4, 16, 17, 18] w w2 := g1.tr (by rw [hw2]; exact (ag.rf _ w1).sA (by simp))
      have g3 : ag [4, 16, 17, 18] w w3 := g2.tr (by rw [hw3]; exact (ag.rf _ w2).sA (by simp))
      have i1 : gI w1 4 0 = nI c := by rw [hw1]; exact h4
      have i2 : gI w2 4 0 = nI c := by rw [hw2]; exact i1
      have i3 : gI w3 4 0 = nI c := by rw [hw3]; exact i2
      have v1 : ∀ i, i < n → gA w1 14 t i = v i := fun i hi => by rw [hw1, gA_sA, if_neg (by simp)]; exact hv i hi
      have v2 : ∀ i, i < n → gA w2 14 t i = v i := fun i hi => by rw [hw2, gA_sA, if_neg (by simp)]; exact v1 i hi
      have v3 : ∀ i, i < n → gA w3 14 t i = v i := fun i hi => by rw [hw3, gA_sA, if_neg (by simp)]; exact v2 i hi
      rw [nI_clamp (by omega), ← hw1, i1, nI_add, nI_add, nI_clamp (show p + 1 < 2 ^ 31 by omega), nI_clamp (show p + 2 < 2 ^ 31 by omega), nI_clamp (by omega), v1 (p + 1) (by omega), ← hw2, i2, nI_clamp (by omega), v2 (p + 2) (by omega), ← hw3, i3, nI_add]
      rw [gd_in (by omega) (by omega), gd_in (by omega) (by omega), gd_in (by omega) (by omega), gd_in (by omega) (by omega), gd_in (by omega) (by omega)]
      obtain ⟨w', e, a1, a2', a3, a4, a5⟩ := ih (c + 1) (p + 3) F (sI w3 4 0 (nI (c + 1))) (by omega) (by omega) (by omega) (by omega) rfl (fun i hi => by rw [gA_sI]; exact v3 i hi) hr
      have hl : (p :: (rd v n m (c + 1) (p + 3)).2).length = (rd v n m (c + 1) (p + 3)).2.length + 1 := rfl
      dsimp only
      rw [hl]
      refine ⟨w', e, (g3.sI (by simp)).tr a1, by omega, by rw [a3]; congr 1; omega, fun k hk => ?_, fun j hj => ?_⟩
      · cases k with
        | zero =>
          obtain ⟨q1, q2, q3⟩ := a5 c (by omega)
          rw [Nat.add_zero, q1, q2, q3, gA_sI, gA_sI, gA_sI]
          refine ⟨?_, ?_, ?_⟩
          · rw [hw3, gA_sA, if_neg (by simp), hw2, gA_sA, if_neg (by simp), hw1, gA_sA, if_pos ⟨rfl, rfl⟩, pk_us]; rfl
          · rw [hw3, gA_sA, if_neg (by simp), hw2, gA_sA, if_pos ⟨rfl, rfl⟩, pk_us]; rfl
          · rw [hw3, gA_sA, if_pos ⟨rfl, rfl⟩, pk_us]; rfl
        | succ k =>
          have := a4 k (by omega)
          rw [show c + 1 + k = c + (k + 1) by omega] at this
          exact this
      · obtain ⟨q1, q2, q3⟩ := a5 j (by omega)
        rw [q1, q2, q3, gA_sI, gA_sI, gA_sI]
        refine ⟨?_, ?_, ?_⟩
        · rw [hw3, gA_sA, if_neg (by simp), hw2, gA_sA, if_neg (by simp), hw1, gA_sA, if_pos ⟨rfl, rfl⟩, pk_un (by omega)]
        · rw [hw3, gA_sA, if_neg (by simp), hw2, gA_sA, if_pos ⟨rfl, rfl⟩, pk_un (by omega), hw1, gA_sA, if_neg (by simp)]
        · rw [hw3, gA_sA, if_pos ⟨rfl, rfl⟩, pk_un (by omega), hw2, gA_sA, if_neg (by simp), hw1, gA_sA, if_neg (by simp)]
/-! the model's reading -/
def lo6 (b : Nat) (w w' : Wd) : Prop := ∀ j, j < b → gA w' 36 0 j = gA w 36 0 j ∧ gA w' 37 0 j = gA w 37 0 j ∧ gA w' 38 0 j = gA w 38 0 j
theorem lo6.rf {b : Nat} {w : Wd} : lo6 b w w := fun _ _ => ⟨rfl, rfl, rfl⟩
theorem lo6.tr {b c : Nat} {w w1 w2 : Wd} (h : lo6 b w w1) (h2 : lo6 c w1 w2) (hc : b ≤ c) : lo6 b w w2 := fun j hj => by
  obtain ⟨a1, a2, a3⟩ := h j hj
  obtain ⟨b1, b2, b3⟩ := h2 j (by omega)
  exact ⟨b1.trans a1, b2.trans a2, b3.trans a3⟩
theorem e_here {N t n p : Nat} {v : Nat → Int32} {w : Wd} (ht : t < 4) (hn : n ≤ 60) (hp : p ≤ 65) (hs : gA w 34 0 t = nI n) (hv : ∀ i, i < n → gA w 35 0 (60 * t + i) = v i) (h5 : gI w 515 0 = nI p) : f_X5_here N (nI t) w = some (if p < n then v p else ng 9, w) := by
  unfold f_X5_here
  simp only [bs, l0, l1, l2, l3, l4, l5, l6, l7, l8, l9, l10, l12, l15, l30, l31, l32, l40, l42, l48, l57, l60, l64, l98, l99, l100, l109, l110, l112, l115, l265, l1000, l518400, ngd]
  rw [gd_in ht (by omega), nI_clamp (by omega), hs, h5]
  by_cases h : n ≤ p
  · rw [iT (nI_le h (by omega)), if_neg (by omega)]
  rw [iF (nI_ge (by omega) (by omega)), if_pos (by omega), pk_mul, nI_add, gd_in (by omega) (by omega), nI_clamp (by omega), hv p (by omega)]
theorem e_infig {N n p : Nat} {v : Nat → Int32} {w : Wd} : f_X5_in N (if p < n then v p else ng 9) (nI 48) (nI 57) w = some (nI (bn (fig v n p)), w) := by
  unfold f_X5_in fig
  simp only [bs, l0, l1, l2, l3, l4, l5, l6, l7, l8, l9, l10, l12, l15, l30, l31, l32, l40, l42, l48, l57, l60, l64, l98, l99, l100, l109, l110, l112, l115, l265, l1000, l518400, ngd]
  by_cases h : p < n
  · rw [if_pos h]
    have k1 : v p < nI 48 ↔ (v p).toInt < 48 := clt (n := 48) (by omega)
    have k2 : nI 57 < v p ↔ 57 < (v p).toInt := cgt (n := 57) (by omega)
    by_cases h1 : (v p).toInt < 48
    · rw [iT (k1.mpr h1), decide_eq_false (by omega)]; rfl
    rw [iF (fun q => h1 (k1.mp q))]
    by_cases h2 : 57 < (v p).toInt
    · rw [iT (k2.mpr h2), decide_eq_false (by omega)]; rfl
    rw [iF (fun q => h2 (k2.mp q)), decide_eq_true (by omega)]; rfl
  · rw [if_neg h, iT (by decide), decide_eq_false (by omega)]; rfl
abbrev SX : List Nat := [515, 516, 36, 37, 38]
theorem e_rm {N t n c p : Nat} {v : Nat → Int32} {w : Wd} (ht : t < 4) (hn : n ≤ 60) (hp : p < n) (hc : c ≤ 6) (hs : gA w 34 0 t = nI n) (hv : ∀ i, i < n → gA w 35 0 (60 * t + i) = v i) (h5 : gI w 515 0 = nI p) (h6 : gI w 516 0 = nI c) : ∃ w', f_X5_readsMate N (nI t) w = some (nI (bn (bad v n c p).isNone), w') ∧ ag SX w w' ∧ lo6 (6 + c) w w' ∧ (∀ q, bad v n c p = some q → gI w' 515 0 = nI q) ∧ (bad v n c p = none → gI w' 515 0 = nI (p + 3) ∧ gI w' 516 0 = nI (c + 1) ∧ gA w' 36 0 (6 + c) = kc (v p) ∧ gA w' 37 0 (6 + c) = v (p + 1) - nI 48 ∧ gA w' 38 0 (6 + c) = v (p + 2) - nI 48) := by
  unfold f_X5_readsMate
  rw [e_here ht hn (by omega) hs hv h5, if_pos hp]
  simp only [bs, l0, l1, l2, l3, l4, l5, l6, l7, l8, l9, l10, l12, l15, l30, l31, l32, l40, l42, l48, l57, l60, l64, l98, l99, l100, l109, l110, l112, l115, l265, l1000, l518400, ngd]
  rw [e_mkind]
  simp only [bs, l0, l1, l2, l3, l4, l5, l6, l7, l8, l9, l10, l12, l15, l30, l31, l32, l40, l42, l48, l57, l60, l64, l98, l99, l100, l109, l110, l112, l115, l265, l1000, l518400, ngd]
  by_cases d2 : kc (v p) = ng 9
  · have hb : bad v n c p = some p := by unfold bad; rw [if_pos d2]; exact ite_self _
    rw [iT d2, hb]
    exact ⟨w, rfl, ag.rf _ _, lo6.rf, fun q hq => by rw [← Option.some.inj hq]; exact h5, fun hq => by cases hq⟩
  rw [iF d2, h6]
  by_cases d1 : c = 6
  · have hb : bad v n c p = some p := by unfold bad; rw [if_pos d1]
    rw [iT (by rw [d1]), hb]
    exact ⟨w, rfl, ag.rf _ _, lo6.rf, fun q hq => by rw [← Option.some.inj hq]; exact h5, fun hq => by cases hq⟩
  rw [iF (fun q => d1 ((nI_eq (by omega) (by omega)).mp q)), h5, nI_add]
  obtain ⟨wa, hwa⟩ : ∃ wa, wa = sI w 515 0 (nI (p + 1)) := ⟨_, rfl⟩
  have a6 : gI wa 516 0 = nI c := by rw [hwa]; exact h6
  rw [← hwa, a6, nI_add, gd_in (by omega) (by omega), nI_clamp (by omega)]
  obtain ⟨wb, hwb⟩ : ∃ wb, wb = sA wa 36 0 (upd (gA wa 36 0) (6 + c) (kc (v p))) := ⟨_, rfl⟩
  have gb : ag SX w wb := by rw [hwb, hwa]; exact ((ag.rf _ w).sI (by simp)).sA (by simp)
  have lb : lo6 (6 + c) w wb := fun j hj => by
    rw [hwb, hwa]
    refine ⟨?_, rfl, rfl⟩
    rw [gA_sA, if_pos ⟨rfl, rfl⟩, pk_un (by omega)]; rfl
  have b5 : gI wb 515 0 = nI (p + 1) := by rw [hwb, hwa]; rfl
  have bs34 : gA wb 34 0 t = nI n := by rw [agA gb 34 0]; exact hs
  have bv : ∀ i, i < n → gA wb 35 0 (60 * t + i) = v i := fun i hi => by rw [agA gb 35 0]; exact hv i hi
  rw [← hwb, e_here ht hn (by omega) bs34 bv b5]
  simp only [bs, l0, l1, l2, l3, l4, l5, l6, l7, l8, l9, l10, l12, l15, l30, l31, l32, l40, l42, l48, l57, l60, l64, l98, l99, l100, l109, l110, l112, l115, l265, l1000, l518400, ngd]
  rw [e_infig]
  simp only [bs, l0, l1, l2, l3, l4, l5, l6, l7, l8, l9, l10, l12, l15, l30, l31, l32, l40, l42, l48, l57, l60, l64, l98, l99, l100, l109, l110, l112, l115, l265, l1000, l518400, ngd]
  cases d3 : fig v n (p + 1) with
  | false =>
    have hb : bad v n c p = some (p + 1) := by unfold bad; rw [if_neg d1, if_neg d2, if_pos d3]
    rw [iT bnFc, hb]
    exact ⟨wb, rfl, gb, lb, fun q hq => by rw [← Option.some.inj hq]; exact b5, fun hq => by cases hq⟩
  | true =>
    have hp1 := (of_decide_eq_true d3).1
    rw [iF (by decide), e_here ht hn (by omega) bs34 bv b5, if_pos hp1]
    simp only [bs, l0, l1, l2, l3, l4, l5, l6, l7, l8, l9, l10, l12, l15, l30, l31, l32, l40, l42, l48, l57, l60, l64, l98, l99, l100, l109, l110, l112, l115, l265, l1000, l518400, ngd]
    rw [gd_in (by omega) (by omega)]
    obtain ⟨wc, hwc⟩ : ∃ wc, wc = sA wb 37 0 (upd (gA wb 37 0) (6 + c) (v (p + 1) - nI 48)) := ⟨_, rfl⟩
    have c5 : gI wc 515 0 = nI (p + 1) := by rw [hwc]; exact b5
    rw [← hwc, c5, nI_add]
    obtain ⟨wd, hwd⟩ : ∃ wd, wd = sI wc 515 0 (nI (p + 1 + 1)) := ⟨_, rfl⟩
    have gd' : ag SX w wd := by rw [hwd, hwc]; exact (gb.sA (by simp)).sI (by simp)
    have ld : lo6 (6 + c) w wd := fun j hj => by
      obtain ⟨z1, z2, z3⟩ := lb j hj
      rw [hwd, hwc]
      refine ⟨z1, ?_, z3⟩
      rw [gA_sI, gA_sA, if_pos ⟨rfl, rfl⟩, pk_un (by omega)]; exact z2
    have d5 : gI wd 515 0 = nI (p + 1 + 1) := by rw [hwd]; rfl
    have ds : gA wd 34 0 t = nI n := by rw [agA gd' 34 0]; exact hs
    have dv : ∀ i, i < n → gA wd 35 0 (60 * t + i) = v i := fun i hi => by rw [agA gd' 35 0]; exact hv i hi
    rw [← hwd, e_here ht hn (by omega) ds dv d5]
    simp only [bs, l0, l1, l2, l3, l4, l5, l6, l7, l8, l9, l10, l12, l15, l30, l31, l32, l40, l42, l48, l57, l60, l64, l98, l99, l100, l109, l110, l112, l115, l265, l1000, l518400, ngd]
    rw [e_infig]
    simp only [bs, l0, l1, l2, l3, l4, l5, l6, l7, l8, l9, l10, l12, l15, l30, l31, l32, l40, l42, l48, l57, l60, l64, l98, l99, l100, l109, l110, l112, l115, l265, l1000, l518400, ngd]
    cases d4 : fig v n (p + 1 + 1) with
    | false =>
      have hb : bad v n c p = some (p + 2) := by unfold bad; rw [if_neg d1, if_neg d2, if_neg (by simp [d3]), if_pos d4]
      rw [iT bnFc, hb]
      exact ⟨wd, rfl, gd', ld, fun q hq => by rw [← Option.some.inj hq]; exact d5, fun hq => by cases hq⟩
    | true =>
      have hp2 := (of_decide_eq_true d4).1
      have hb : bad v n c p = none := by unfold bad; rw [if_neg d1, if_neg d2, if_neg (by simp [d3]), if_neg (by rw [d4]; simp)]
      rw [iF (by decide), e_here ht hn (by omega) ds dv d5, if_pos hp2]
      simp only [bs, l0, l1, l2, l3, l4, l5, l6, l7, l8, l9, l10, l12, l15, l30, l31, l32, l40, l42, l48, l57, l60, l64, l98, l99, l100, l109, l110, l112, l115, l265, l1000, l518400, ngd]
      rw [gd_in (by omega) (by omega)]
      obtain ⟨we, hwe⟩ : ∃ we, we = sA wd 38 0 (upd (gA wd 38 0) (6 + c) (v (p + 1 + 1) - nI 48)) := ⟨_, rfl⟩
      have e5 : gI we 515 0 = nI (p + 1 + 1) := by rw [hwe]; exact d5
      rw [← hwe, e5, nI_add]
      have e6 : gI (sI we 515 0 (nI (p + 1 + 1 + 1))) 516 0 = nI c := by rw [gI_sI, if_neg (by decide), hwe, hwd, hwc, hwb]; exact a6
      rw [e6, nI_add, hb]
      refine ⟨_, rfl, ?_, fun j hj => ?_, fun q hq => (by cases hq), fun _ => ⟨rfl, rfl, ?_, ?_, ?_⟩⟩
      · rw [hwe]; exact ((gd'.sA (by simp)).sI (by simp)).sI (by simp)
      · obtain ⟨z1, z2, z3⟩ := ld j hj
        rw [hwe]
        refine ⟨z1, z2, ?_⟩
        rw [gA_sI, gA_sI, gA_sA, if_pos ⟨rfl, rfl⟩, pk_un (by omega)]; exact z3
      · rw [gA_sI, gA_sI, hwe, gA_sA, if_neg (by simp), hwd, gA_sI, hwc, gA_sA, if_neg (by simp), hwb, gA_sA, if_pos ⟨rfl, rfl⟩, pk_us]
      · rw [gA_sI, gA_sI, hwe, gA_sA, if_neg (by simp), hwd, gA_sI, hwc, gA_sA, if_pos ⟨rfl, rfl⟩, pk_us]
      · rw [gA_sI, gA_sI, hwe, gA_sA, if_pos ⟨rfl, rfl⟩, pk_us]
theorem e_goesOn_L {N t n : Nat} {v : Nat → Int32} (ht : t < 4) (hn : n ≤ 60) : ∀ (m c p F : Nat) (w : Wd), n ≤ p + m → m < F → c ≤ 6 → p ≤ 63 → gA w 34 0 t = nI n → (∀ i, i < n → gA w 35 0 (60 * t + i) = v i) → gI w 515 0 = nI p → gI w 516 0 = nI c → ∃ w', X5_goesOn_L1 N (nI t) F w = some (match (rd v n m c p).1 with | some q => .inl (nI q, w') | none => .inr w') ∧ ag SX w w' ∧ lo6 (6 + c) w w' ∧ ((rd v n m c p).1 = none → gI w' 516 0 = nI (c + (rd v n m c p).2.length) ∧ ∀ k, k < (rd v n m c p).2.length → gA w' 36 0 (6 + c + k) = kc (v (dg (rd v n m c p).2 k)) ∧ gA w' 37 0 (6 + c + k) = v (dg (rd v n m c p).2 k + 1) - nI 48 ∧ gA w' 38 0 (6 + c + k) = v (dg (rd v n m c p).2 k + 2) - nI 48) := by
  intro m
  induction m with
  | zero =>
    intro c p F w h hF hc hp hs hv h5 h6
    obtain ⟨F, rfl, _⟩ := fuel_s hF
    rw [X5_goesOn_L1, gd_in ht (by omega), nI_clamp (by omega), hs, h5, iT (nI_le (by omega) (by omega))]
    exact ⟨w, rfl, ag.rf _ _, lo6.rf, fun _ => ⟨h6, fun k hk => absurd hk (Nat.not_lt_zero _)⟩⟩
  | succ m ih =>
    intro c p F w h hF hc hp hs hv h5 h6
    obtain ⟨F, rfl, hF'⟩ := fuel_s hF
    rw [X5_goesOn_L1, gd_in ht (by omega), nI_clamp (by omega), hs, h5, rd]
    by_cases a : n ≤ p
    · rw [iT (nI_le a (by omega)), if_pos a]
      exact ⟨w, rfl, ag.rf _ _, lo6.rf, fun _ => ⟨h6, fun k hk => absurd hk (Nat.not_lt_zero _)⟩⟩
    rw [iF (nI_ge (by omega) (by omega)), if_neg a, e_here ht hn (by omega) hs hv h5, if_pos (show p < n by omega)]
    simp only [bs, l0, l1, l2, l3, l4, l5, l6, l7, l8, l9, l10, l12, l15, l30, l31, l32, l40, l42, l48, l57, l60, l64, l98, l99, l100, l109, l110, l112, l115, l265, l1000, l518400, ngd]
    by_cases b : v p = nI 32
    · rw [iT b, if_pos b, h5, nI_add]
      obtain ⟨w', e, a1, a2, a3⟩ := ih c (p + 1) F (sI w 515 0 (nI (p + 1))) (by omega) (by omega) hc (by omega) (by rw [gA_sI]; exact hs) (fun i hi => by rw [gA_sI]; exact hv i hi) rfl (by rw [gI_sI, if_neg (by decide)]; exact h6)
      exact ⟨w', e, ((ag.rf _ w).sI (by simp)).tr a1, a2, a3⟩
    rw [iF b, if_neg b]
    obtain ⟨w1, e1, b1, b2, b3, b4⟩ := e_rm (N := N) ht hn (show p < n by omega) hc hs hv h5 h6
    rw [e1]
    simp only [bs, l0, l1, l2, l3, l4, l5, l6, l7, l8, l9, l10, l12, l15, l30, l31, l32, l40, l42, l48, l57, l60, l64, l98, l99, l100, l109, l110, l112, l115, l265, l1000, l518400, ngd]
    cases d : bad v n c p with
    | some q =>
      rw [d] at b3
      rw [iT (by rfl), b3 q rfl]
      exact ⟨w1, rfl, b1, b2, fun z => by cases z⟩
    | none =>
      rw [d] at b4
      obtain ⟨c1, c2, c3, c4, c5⟩ := b4 rfl
      obtain ⟨d1, d2, d3, d4⟩ := bad_none d
      rw [iF (by decide)]
      obtain ⟨w', e, a1, a2, a3⟩ := ih (c + 1) (p + 3) F w1 (by omega) (by omega) (by omega) (by have := (of_decide_eq_true d4).1; omega) (by rw [agA b1 34 0]; exact hs) (fun i hi => by rw [agA b1 35 0]; exact hv i hi) c1 c2
      refine ⟨w', e, b1.tr a1, b2.tr a2 (by omega), fun z => ?_⟩
      obtain ⟨x1, x2⟩ := a3 z
      have hl : (p :: (rd v n m (c + 1) (p + 3)).2).length = (rd v n m (c + 1) (p + 3)).2.length + 1 := rfl
      dsimp only
      rw [hl]
      refine ⟨by rw [x1]; congr 1; omega, fun k hk => ?_⟩
      cases k with
      | zero =>
        obtain ⟨q1, q2, q3⟩ := a2 (6 + c) (by omega)
        rw [Nat.add_zero, q1, q2, q3]
        exact ⟨c3, c4, c5⟩
      | succ k =>
        have := x2 k (by omega)
        rw [show 6 + (c + 1) + k = 6 + c + (k + 1) by omega] at this
        exact this
theorem e_goesOn {N t n : Nat} {v : Nat → Int32} {w : Wd} (hN : 1000 ≤ N) (ht : t < 4) (hn : n ≤ 60) (hs : gA w 34 0 t = nI n) (hv : ∀ i, i < n → gA w 35 0 (60 * t + i) = v i) : ∃ w', f_X5_goesOn N (nI t) w = some ((match (rd v n 60 0 0).1 with | some q => nI q | none => ng 9), w') ∧ ag SX w w' ∧ lo6 6 w w' ∧ ((rd v n 60 0 0).1 = none → gI w' 516 0 = nI (rd v n 60 0 0).2.length ∧ ∀ k, k < (rd v n 60 0 0).2.length → gA w' 36 0 (6 + k) = kc (v (dg (rd v n 60 0 0).2 k)) ∧ gA w' 37 0 (6 + k) = v (dg (rd v n 60 0 0).2 k + 1) - nI 48 ∧ gA w' 38 0 (6 + k) = v (dg (rd v n 60 0 0).2 k + 2) - nI 48) := by
  unfold f_X5_goesOn
  simp only [bs, l0, l1, l2, l3, l4, l5, l6, l7, l8, l9, l10, l12, l15, l30, l31, l32, l40, l42, l48, l57, l60, l64, l98, l99, l100, l109, l110, l112, l115, l265, l1000, l518400, ngd]
  obtain ⟨w', e, a1, a2, a3⟩ := e_goesOn_L (N := N) (v := v) ht hn 60 0 0 N (sI (sI w 515 0 (nI 0)) 516 0 (nI 0)) (by omega) (by omega) (by omega) (by omega) (by rw [gA_sI, gA_sI]; exact hs) (fun i hi => by rw [gA_sI, gA_sI]; exact hv i hi) rfl rfl
  rw [e]
  rw [Nat.zero_add] at a3
  refine ⟨w', ?_, (((ag.rf _ w).sI (by simp)).sI (by simp)).tr a1, a2, a3⟩
  cases (rd v n 60 0 0).1 <;> rfl
/-! fault -/
theorem RM_lo6 {S : List Nat} {o : Of} {w w' : Wd} (hf : Wf o) (h : RM o w) (g : ag S w w') (l : lo6 6 w w') (hs : ∀ k ∈ [510, 518, 511, 39], k ∉ S := by decide) : RM o w' := by
  have hn := hf.1
  obtain ⟨h1, h2, h3, h4, h5⟩ := h
  refine ⟨?_, ?_, ?_, fun x hx => ?_, fun k hk x hx => ?_⟩
  · rw [g.1 510 0 (hs 510 (by decide)) (by decide)]; exact h1
  · rw [g.1 518 0 (hs 518 (by decide)) (by decide)]; exact h2
  · rw [g.1 511 0 (hs 511 (by decide)) (by decide)]; exact h3
  · obtain ⟨a, b, c⟩ := l x (by omega)
    rw [a, b, c]; exact h4 x hx
  · rw [g.2.2 39 0 (hs 39 (by decide)) (by decide)]; exact h5 k hk x hx
theorem IW_lo6 {o : Of} {H : List Nat} {w w' : Wd} (h : IW o H w) (g : ag SX w w') (l : lo6 6 w w') : IW o H w' := by
  obtain ⟨h1, h2, h3, h4, h5, h6, h7, h8, h9⟩ := h
  exact ⟨h1, h2, RO_ag h3 g, RM_lo6 h1 h4 g l, Iro_ag h5 g, Itx_ag h6 g, Iht_ag h7 g, Ikp_ag h8 g, Ist_ag h9 g⟩
theorem ok_fault {N : Nat} (hN : 1000 ≤ N) : Ok_fault N Inv := fun a1 w hI => by
  obtain ⟨o, H, hW, hT⟩ := hI
  rcases cix a1 (n := 4) (by omega) with h | ⟨t, ht, rfl⟩
  · refine ⟨ng 1, w, w, ?_, ?_, o, H, hW, hT⟩
    · unfold f_X4_fault; rw [e_isText_f h]; simp only [bs, l0, l1, l2, l3, l4, l5, l6, l7, l8, l9, l10, l12, l15, l30, l31, l32, l40, l42, l48, l57, l60, l64, l98, l99, l100, l109, l110, l112, l115, l265, l1000, l518400, ngd, if_true, if_false, bn0, reduceCtorEq, n10, z1, z3, z0]
    · unfold f_X5_fault; rw [e_askedText_f h]; simp only [bs, l0, l1, l2, l3, l4, l5, l6, l7, l8, l9, l10, l12, l15, l30, l31, l32, l40, l42, l48, l57, l60, l64, l98, l99, l100, l109, l110, l112, l115, l265, l1000, l518400, ngd, if_true, if_false, bn0, reduceCtorEq, n10, z1, z3, z0]
  · obtain ⟨hs, hc⟩ := hW.2.2.2.2.2.1 t ht
    rcases hs with ⟨s1, s2⟩ | ⟨n, hn, s1, s2⟩
    · refine ⟨ng 3, cref 1 w, mref 1 (cref 1 w), ?_, ?_, Inv_ref0 hW hT⟩
      · unfold f_X4_fault; rw [e_isText_t ht]; simp only [bs, l0, l1, l2, l3, l4, l5, l6, l7, l8, l9, l10, l12, l15, l30, l31, l32, l40, l42, l48, l57, l60, l64, l98, l99, l100, l109, l110, l112, l115, l265, l1000, l518400, ngd, if_true, if_false, bn0, reduceCtorEq, n10, z1, z3, z0]; rw [e_tisMissing ht]; simp only [bs, l0, l1, l2, l3, l4, l5, l6, l7, l8, l9, l10, l12, l15, l30, l31, l32, l40, l42, l48, l57, l60, l64, l98, l99, l100, l109, l110, l112, l115, l265, l1000, l518400, ngd, if_true, if_false, bn0, reduceCtorEq, n10, z1, z3, z0]; rw [iF (by simp [s1]), e_refuse (by omega)]; simp only [bs, l0, l1, l2, l3, l4, l5, l6, l7, l8, l9, l10, l12, l15, l30, l31, l32, l40, l42, l48, l57, l60, l64, l98, l99, l100, l109, l110, l112, l115, l265, l1000, l518400, ngd, if_true, if_false, bn0, reduceCtorEq, n10, z1, z3, z0]
      · unfold f_X5_fault; rw [e_askedText_m ht (by rw [agA (cref_ag 1 w) 34 0]; exact s2)]; simp only [bs, l0, l1, l2, l3, l4, l5, l6, l7, l8, l9, l10, l12, l15, l30, l31, l32, l40, l42, l48, l57, l60, l64, l98, l99, l100, l109, l110, l112, l115, l265, l1000, l518400, ngd, if_true, if_false, bn0, reduceCtorEq, n10, z1, z3, z0]
    · have hne : ¬ gA w 15 0 t = ng 1 := by rw [s1, nI_ng (by omega) (by omega) (by omega)]; simp
      obtain ⟨v, hv⟩ : ∃ v, v = gA w 14 t := ⟨_, rfl⟩
      have v1 : ∀ i, i < n → gA w 14 t i = v i := fun i hi => by rw [hv]
      have v2 : ∀ i, i < n → gA w 35 0 (60 * t + i) = v i := fun i hi => by rw [← hc i (by omega), hv]
      obtain ⟨w', e, b1, b2, b3⟩ := e_goesOn (N := N) (w := w) hN ht hn s2 v2
      refine ⟨(match (rd v n 60 0 0).1 with | some q => nI q | none => ng 9), w, w', ?_, ?_, o, H, IW_lo6 hW b1 b2, Itl_ag hT b1⟩
      · unfold f_X4_fault; rw [e_isText_t ht]; simp only [bs, l0, l1, l2, l3, l4, l5, l6, l7, l8, l9, l10, l12, l15, l30, l31, l32, l40, l42, l48, l57, l60, l64, l98, l99, l100, l109, l110, l112, l115, l265, l1000, l518400, ngd, if_true, if_false, bn0, reduceCtorEq, n10, z1, z3, z0]; rw [e_tisMissing ht]; simp only [bs, l0, l1, l2, l3, l4, l5, l6, l7, l8, l9, l10, l12, l15, l30, l31, l32, l40, l42, l48, l57, l60, l64, l98, l99, l100, l109, l110, l112, l115, l265, l1000, l518400, ngd, if_true, if_false, bn0, reduceCtorEq, n10, z1, z3, z0]; rw [iT (by simp [hne]), e_ff hN ht hn s1 v1]; simp only [bs, l0, l1, l2, l3, l4, l5, l6, l7, l8, l9, l10, l12, l15, l30, l31, l32, l40, l42, l48, l57, l60, l64, l98, l99, l100, l109, l110, l112, l115, l265, l1000, l518400, ngd, if_true, if_false, bn0, reduceCtorEq, n10, z1, z3, z0]
      · unfold f_X5_fault; rw [e_askedText_t ht (by omega) s2]; simp only [bs, l0, l1, l2, l3, l4, l5, l6, l7, l8, l9, l10, l12, l15, l30, l31, l32, l40, l42, l48, l57, l60, l64, l98, l99, l100, l109, l110, l112, l115, l265, l1000, l518400, ngd, if_true, if_false, bn0, reduceCtorEq, n10, z1, z3, z0]; rw [e]; simp only [bs, l0, l1, l2, l3, l4, l5, l6, l7, l8, l9, l10, l12, l15, l30, l31, l32, l40, l42, l48, l57, l60, l64, l98, l99, l100, l109, l110, l112, l115, l265, l1000, l518400, ngd, if_true, if_false, bn0, reduceCtorEq, n10, z1, z3, z0]
/-! office -/
theorem e_moff_L {N : Nat} : ∀ (m k F : Nat) (w : Wd), k + m = 6 → m < F → ∃ w', X5_office_L1 N F (nI k) w = some w' ∧ ag [36, 37, 38] w w' ∧ ∀ j, j < 6 → gA w' 36 0 j = (if k ≤ j then gA w 36 0 (6 + j) else gA w 36 0 j) ∧ gA w' 37 0 j = (if k ≤ j then gA w 37 0 (6 + j) else gA w 37 0 j) ∧ gA w' 38 0 j = (if k ≤ j then gA w 38 0 (6 + j) else gA w 38 0 j) := by
  intro m
  induction m with
  | zero =>
    intro k F w hk hF
    obtain ⟨F, rfl, _⟩ := fuel_s hF
    rw [X5_office_L1]
    simp only [bs, l0, l1, l2, l3, l4, l5, l6, l7, l8, l9, l10, l12, l15, l30, l31, l32, l40, l42, l48, l57, l60, l64, l98, l99, l100, l109, l110, l112, l115, l265, l1000, l518400, ngd]
    rw [iT (nI_le (by omega) (by omega))]
    refine ⟨w, rfl, ag.rf _ _, fun j hj => ?_⟩
    rw [if_neg (by omega), if_neg (by omega), if_neg (by omega)]; exact ⟨rfl, rfl, rfl⟩
  | succ m ih =>
    intro k F w hk hF
    obtain ⟨F, rfl, hF'⟩ := fuel_s hF
    rw [X5_office_L1]
    simp only [bs, l0, l1, l2, l3, l4, l5, l6, l7, l8, l9, l10, l12, l15, l30, l31, l32, l40, l42, l48, l57, l60, l64, l98, l99, l100, l109, l110, l112, l115, l265, l1000, l518400, ngd]
    rw [iF (nI_ge (by omega) (by omega)), nI_add, gd_in (by omega) (by omega), gd_in (by omega) (by omega), gd_in (by omega) (by omega), gd_in (by omega) (by omega), gd_in (by omega) (by omega), gd_in (by omega) (by omega), nI_clamp (by omega), nI_clamp (by omega), nI_add]
    obtain ⟨w1, hw1⟩ : ∃ w1, w1 = sA w 36 0 (upd (gA w 36 0) k (gA w 36 0 (6 + k))) := ⟨_, rfl⟩
    obtain ⟨w2, hw2⟩ : ∃ w2, w2 = sA w1 37 0 (upd (gA w1 37 0) k (gA w1 37 0 (6 + k))) := ⟨_, rfl⟩
    obtain ⟨w3, hw3⟩ : ∃ w3, w3 = sA w2 38 0 (upd (gA w2 38 0) k (gA w2 38 0 (6 + k))) := ⟨_, rfl⟩
    rw [← hw1, ← hw2, ← hw3]
    have g3 : ag [36, 37, 38] w w3 := by rw [hw3, hw2, hw1]; exact (((ag.rf _ w).sA (by simp)).sA (by simp)).sA (by simp)
    have f1 : gA w3 36 0 = upd (gA w 36 0) k (gA w 36 0 (6 + k)) := by rw [hw3, gA_sA, if_neg (by simp), hw2, gA_sA, if_neg (by simp), hw1, gA_sA, if_pos ⟨rfl, rfl⟩]
    have f2 : gA w3 37 0 = upd (gA w 37 0) k (gA w 37 0 (6 + k)) := by rw [hw3, gA_sA, if_neg (by simp), hw2, gA_sA, if_pos ⟨rfl, rfl⟩, hw1, gA_sA, if_neg (by simp)]
    have f3 : gA w3 38 0 = upd (gA w 38 0) k (gA w 38 0 (6 + k)) := by rw [hw3, gA_sA, if_pos ⟨rfl, rfl⟩, hw2, gA_sA, if_neg (by simp), hw1, gA_sA, if_neg (by simp)]
    obtain ⟨w', e, a1, a2⟩ := ih (k + 1) F w3 (by omega) (by omega)
    refine ⟨w', e, g3.tr a1, fun j hj => ?_⟩
    obtain ⟨b1, b2, b3⟩ := a2 j hj
    rw [b1, b2, b3, f1, f2, f3]
    by_cases c : k + 1 ≤ j
    · rw [if_pos c, if_pos c, if_pos c, if_pos (by omega), if_pos (by omega), if_pos (by omega), pk_un (by omega), pk_un (by omega), pk_un (by omega)]; exact ⟨rfl, rfl, rfl⟩
    · rw [if_neg c, if_neg c, if_neg c]
      by_cases c2 : j = k
      · subst c2; rw [if_pos (Nat.le_refl _), if_pos (Nat.le_refl _), if_pos (Nat.le_refl _), pk_us, pk_us, pk_us]; exact ⟨rfl, rfl, rfl⟩
      · rw [if_neg (by omega), if_neg (by omega), if_neg (by omega), pk_un c2, pk_un c2, pk_un c2]; exact ⟨rfl, rfl, rfl⟩
theorem e_moff2_L {N : Nat} : ∀ (m k F : Nat) (w : Wd), k + m = 3 → m < F → (∀ j, j < k → gA w 44 0 (8 * j) = ng 9) → ∃ w', X5_office_L2 N F (nI k) w = some w' ∧ ag [44] w w' ∧ ∀ j, j < 3 → gA w' 44 0 (8 * j) = ng 9 := by
  intro m
  induction m with
  | zero =>
    intro k F w hk hF h
    obtain ⟨F, rfl, _⟩ := fuel_s hF
    rw [X5_office_L2]
    simp only [bs, l0, l1, l2, l3, l4, l5, l6, l7, l8, l9, l10, l12, l15, l30, l31, l32, l40, l42, l48, l57, l60, l64, l98, l99, l100, l109, l110, l112, l115, l265, l1000, l518400, ngd]
    rw [iT (nI_le (by omega) (by omega))]
    exact ⟨w, rfl, ag.rf _ _, fun j hj => h j (by omega)⟩
  | succ m ih =>
    intro k F w hk hF h
    obtain ⟨F, rfl, hF'⟩ := fuel_s hF
    rw [X5_office_L2]
    rw [show (3 : Int32) = nI 3 from rfl, iF (nI_ge (by omega) (by omega)), show (8 : Int32) = nI 8 from rfl, pk_mul, gd_in (by omega) (by omega), nI_clamp (by omega), l1, nI_add, show -9 = ng 9 from rfl]
    obtain ⟨w', e, a1, a2⟩ := ih (k + 1) F (sA w 44 0 (upd (gA w 44 0) (8 * k) (ng 9))) (by omega) (by omega) (fun j hj => by
      rw [gA_sA, if_pos ⟨rfl, rfl⟩]
      by_cases q : j = k
      · rw [q, pk_us]
      · rw [pk_un (by omega)]; exact h j (by omega))
    exact ⟨w', e, ((ag.rf _ w).sA (by simp)).tr a1, a2⟩
def nof (o : Of) (v : Nat → Int32) (L : List Nat) : Of := ((L.length, oR o), ((fun x => (kc (v (dg L x))).toNatClampNeg), (fun x => (v (dg L x + 1) - nI 48).toNatClampNeg), (fun x => (v (dg L x + 2) - nI 48).toNatClampNeg)), [])
theorem nof_at {o : Of} {v : Nat → Int32} {n m c p x : Nat} (hx : x < (rd v n m c p).2.length) : (oK (nof o v (rd v n m c p).2) x ≤ 5 ∧ oT (nof o v (rd v n m c p).2) x ≤ 9 ∧ oW (nof o v (rd v n m c p).2) x ≤ 9) ∧ kc (v (dg (rd v n m c p).2 x)) = nI (oK (nof o v (rd v n m c p).2) x) ∧ v (dg (rd v n m c p).2 x + 1) - nI 48 = nI (oT (nof o v (rd v n m c p).2) x) ∧ v (dg (rd v n m c p).2 x + 2) - nI 48 = nI (oW (nof o v (rd v n m c p).2) x) := by
  obtain ⟨h1, h2, h3⟩ := rd_mem m c p _ (dg_mem hx)
  obtain ⟨a, ha, ea⟩ : ∃ a, a < 6 ∧ kc (v (dg (rd v n m c p).2 x)) = nI a := (kc_cases _).resolve_left h1
  obtain ⟨b, hb, eb⟩ := fig_d h2
  obtain ⟨d, hd, ed⟩ := fig_d h3
  have k1 : oK (nof o v (rd v n m c p).2) x = a := by
    show (kc (v (dg (rd v n m c p).2 x))).toNatClampNeg = a
    rw [ea, nI_clamp (by omega)]
  have k2 : oT (nof o v (rd v n m c p).2) x = b := by
    show (v (dg (rd v n m c p).2 x + 1) - nI 48).toNatClampNeg = b
    rw [eb, nI_clamp (by omega)]
  have k3 : oW (nof o v (rd v n m c p).2) x = d := by
    show (v (dg (rd v n m c p).2 x + 2) - nI 48).toNatClampNeg = d
    rw [ed, nI_clamp (by omega)]
  rw [k1, k2, k3]
  exact ⟨⟨by omega, hb, hd⟩, ea, eb, ed⟩
theorem ok_office {N : Nat} (hN : 1000 ≤ N) : Ok_office N Inv := fun a1 w hI => by
  obtain ⟨o, H, hW, hT⟩ := hI
  rcases cix a1 (n := 4) (by omega) with h | ⟨t, ht, rfl⟩
  · refine ⟨ng 1, w, w, ?_, ?_, o, H, hW, hT⟩
    · unfold f_X4_office; rw [e_isText_f h]; simp only [bs, l0, l1, l2, l3, l4, l5, l6, l7, l8, l9, l10, l12, l15, l30, l31, l32, l40, l42, l48, l57, l60, l64, l98, l99, l100, l109, l110, l112, l115, l265, l1000, l518400, ngd, if_true, if_false, bn0, reduceCtorEq, n10, z1, z3, z0]
    · unfold f_X5_office; rw [e_askedText_f h]; simp only [bs, l0, l1, l2, l3, l4, l5, l6, l7, l8, l9, l10, l12, l15, l30, l31, l32, l40, l42, l48, l57, l60, l64, l98, l99, l100, l109, l110, l112, l115, l265, l1000, l518400, ngd, if_true, if_false, bn0, reduceCtorEq, n10, z1, z3, z0]
  · obtain ⟨hs, hc⟩ := hW.2.2.2.2.2.1 t ht
    rcases hs with ⟨s1, s2⟩ | ⟨n, hn, s1, s2⟩
    · refine ⟨ng 3, cref 1 w, mref 1 (cref 1 w), ?_, ?_, Inv_ref0 hW hT⟩
      · unfold f_X4_office; rw [e_isText_t ht]; simp only [bs, l0, l1, l2, l3, l4, l5, l6, l7, l8, l9, l10, l12, l15, l30, l31, l32, l40, l42, l48, l57, l60, l64, l98, l99, l100, l109, l110, l112, l115, l265, l1000, l518400, ngd, if_true, if_false, bn0, reduceCtorEq, n10, z1, z3, z0]; rw [e_tisMissing ht]; simp only [bs, l0, l1, l2, l3, l4, l5, l6, l7, l8, l9, l10, l12, l15, l30, l31, l32, l40, l42, l48, l57, l60, l64, l98, l99, l100, l109, l110, l112, l115, l265, l1000, l518400, ngd, if_true, if_false, bn0, reduceCtorEq, n10, z1, z3, z0]; rw [iF (by simp [s1]), e_refuse (by omega)]; simp only [bs, l0, l1, l2, l3, l4, l5, l6, l7, l8, l9, l10, l12, l15, l30, l31, l32, l40, l42, l48, l57, l60, l64, l98, l99, l100, l109, l110, l112, l115, l265, l1000, l518400, ngd, if_true, if_false, bn0, reduceCtorEq, n10, z1, z3, z0]
      · unfold f_X5_office; rw [e_askedText_m ht (by rw [agA (cref_ag 1 w) 34 0]; exact s2)]; simp only [bs, l0, l1, l2, l3, l4, l5, l6, l7, l8, l9, l10, l12, l15, l30, l31, l32, l40, l42, l48, l57, l60, l64, l98, l99, l100, l109, l110, l112, l115, l265, l1000, l518400, ngd, if_true, if_false, bn0, reduceCtorEq, n10, z1, z3, z0]
    · have hne : ¬ gA w 15 0 t = ng 1 := by rw [s1, nI_ng (by omega) (by omega) (by omega)]; simp
      obtain ⟨v, hv⟩ : ∃ v, v = gA w 14 t := ⟨_, rfl⟩
      have v1 : ∀ i, i < n → gA w 14 t i = v i := fun i hi => by rw [hv]
      have v2 : ∀ i, i < n → gA w 35 0 (60 * t + i) = v i := fun i hi => by rw [← hc i (by omega), hv]
      cases hr : (rd v n 60 0 0).1 with
      | some q =>
        obtain ⟨w', e, b1, b2, b3⟩ := e_goesOn (N := N) (w := w) hN ht hn s2 v2
        rw [hr] at e
        have hq := rd_lt 60 0 0 hr
        have eff := e_ff (N := N) (w := w) hN ht hn s1 v1
        rw [hr] at eff
        have hq9 : ¬ nI q = ng 9 := by rw [nI_ng (by omega) (by omega) (by omega)]; simp
        refine ⟨ng 4, w, w', ?_, ?_, o, H, IW_lo6 hW b1 b2, Itl_ag hT b1⟩
        · unfold f_X4_office; rw [e_isText_t ht]; simp only [bs, l0, l1, l2, l3, l4, l5, l6, l7, l8, l9, l10, l12, l15, l30, l31, l32, l40, l42, l48, l57, l60, l64, l98, l99, l100, l109, l110, l112, l115, l265, l1000, l518400, ngd, if_true, if_false, bn0, reduceCtorEq, n10, z1, z3, z0]; rw [e_tisMissing ht]; simp only [bs, l0, l1, l2, l3, l4, l5, l6, l7, l8, l9, l10, l12, l15, l30, l31, l32, l40, l42, l48, l57, l60, l64, l98, l99, l100, l109, l110, l112, l115, l265, l1000, l518400, ngd, if_true, if_false, bn0, reduceCtorEq, n10, z1, z3, z0]; rw [iT (by simp [hne]), eff]; simp only [bs, l0, l1, l2, l3, l4, l5, l6, l7, l8, l9, l10, l12, l15, l30, l31, l32, l40, l42, l48, l57, l60, l64, l98, l99, l100, l109, l110, l112, l115, l265, l1000, l518400, ngd, if_true, if_false, bn0, reduceCtorEq, n10, z1, z3, z0]; rw [iF hq9]
        · unfold f_X5_office; rw [e_askedText_t ht (by omega) s2]; simp only [bs, l0, l1, l2, l3, l4, l5, l6, l7, l8, l9, l10, l12, l15, l30, l31, l32, l40, l42, l48, l57, l60, l64, l98, l99, l100, l109, l110, l112, l115, l265, l1000, l518400, ngd, if_true, if_false, bn0, reduceCtorEq, n10, z1, z3, z0]; rw [e]; simp only [bs, l0, l1, l2, l3, l4, l5, l6, l7, l8, l9, l10, l12, l15, l30, l31, l32, l40, l42, l48, l57, l60, l64, l98, l99, l100, l109, l110, l112, l115, l265, l1000, l518400, ngd, if_true, if_false, bn0, reduceCtorEq, n10, z1, z3, z0]; rw [iF hq9]
      | none =>
        have eff := e_ff (N := N) (w := w) hN ht hn s1 v1
        rw [hr] at eff
        obtain ⟨w1, e1, a1, a2, a3, a4, a5⟩ := e_settle_L (N := N) (t := t) (v := v) hN hn 60 0 0 N (sI (sI w 4 0 (nI 0)) 5 0 (nI 0)) (by omega) (by omega) (by omega) (by omega) rfl (fun i hi => by rw [gA_sI, gA_sI]; exact v1 i hi) hr
        rw [Nat.zero_add] at a2 a3
        have g1 : ag [4, 16, 17, 18, 5] w w1 := (((ag.rf _ w).sI (by simp)).sI (by simp)).tr (a1.mono (by decide))
        obtain ⟨w2, e2, b1, b2⟩ := e_fill (N := N) (g := 23) (i := 0) (n := 3) (v := ng 1) (w := sI (sI w1 406 0 (nI 0)) 407 0 (nI 0)) hN (by omega) rfl
        obtain ⟨w3, hw3⟩ : ∃ w3, w3 = sI w2 411 0 (nI 1) := ⟨_, rfl⟩
        have g3 : ag [406, 407, 23, 411] w1 w3 := by rw [hw3]; exact ((((ag.rf _ w1).sI (by simp)).sI (by simp)).tr (b1.mono (by decide))).sI (by simp)
        have g13 : ag [4, 16, 17, 18, 5, 406, 407, 23, 411] w w3 := (g1.mono (by decide)).tr (g3.mono (by decide))
        obtain ⟨w4, e4, c1, c2, c3⟩ := e_goesOn (N := N) (v := v) (w := w3) hN ht hn (by rw [agA g13 34 0]; exact s2) (fun i hi => by rw [agA g13 35 0]; exact v2 i hi)
        rw [hr] at e4
        obtain ⟨c4, c5⟩ := c3 hr
        obtain ⟨w5, e5, d1, d2⟩ := e_moff_L (N := N) 6 0 N (sI w4 510 0 (nI (rd v n 60 0 0).2.length)) (by omega) (by omega)
        obtain ⟨w6, e6, f1, f2⟩ := e_moff2_L (N := N) 3 0 N (sI (sI w5 524 0 (nI 0)) 518 0 (nI 0)) (by omega) (by omega) (fun j hj => by omega)
        have g4 : ag [515, 516, 36, 37, 38, 510, 524, 518, 44] w3 w6 := (((c1.mono (by decide)).sI (by simp)).tr ((d1.mono (by decide)))).tr ((((ag.rf _ w5).sI (by simp)).sI (by simp)).tr (f1.mono (by decide)))
        have g16 : ag [4, 16, 17, 18, 5, 406, 407, 23, 411, 515, 516, 36, 37, 38, 510, 524, 518, 44] w w6 := (g13.mono (by decide)).tr (g4.mono (by decide))
        have g26 : ag [406, 407, 23, 411, 515, 516, 36, 37, 38, 510, 524, 518, 44] w1 w6 := (g3.mono (by decide)).tr (g4.mono (by decide))
        have g46 : ag [518, 524, 44] w5 w6 := (((ag.rf _ w5).sI (by simp)).sI (by simp)).tr (f1.mono (by decide))
        have i4 : gI w3 4 0 = nI (rd v n 60 0 0).2.length := by rw [agI g3 4 0]; exact a3
        have i510 : gI w6 510 0 = nI (rd v n 60 0 0).2.length := by rw [agI g46 510 0, agI d1 510 0]; rfl
        refine ⟨nI (rd v n 60 0 0).2.length, w3, w6, ?_, ?_, nof o v (rd v n 60 0 0).2, [], ?_, Itl_ag hT g16⟩
        · unfold f_X4_office; rw [e_isText_t ht]; simp only [bs, l0, l1, l2, l3, l4, l5, l6, l7, l8, l9, l10, l12, l15, l30, l31, l32, l40, l42, l48, l57, l60, l64, l98, l99, l100, l109, l110, l112, l115, l265, l1000, l518400, ngd, if_true, if_false, bn0, reduceCtorEq, n10, z1, z3, z0]; rw [e_tisMissing ht]; simp only [bs, l0, l1, l2, l3, l4, l5, l6, l7, l8, l9, l10, l12, l15, l30, l31, l32, l40, l42, l48, l57, l60, l64, l98, l99, l100, l109, l110, l112, l115, l265, l1000, l518400, ngd, if_true, if_false, bn0, reduceCtorEq, n10, z1, z3, z0]; rw [iT (by simp [hne]), eff]; simp only [bs, l0, l1, l2, l3, l4, l5, l6, l7, l8, l9, l10, l12, l15, l30, l31, l32, l40, l42, l48, l57, l60, l64, l98, l99, l100, l109, l110, l112, l115, l265, l1000, l518400, ngd, if_true, if_false, bn0, reduceCtorEq, n10, z1, z3, z0]; rw [gd_in ht (by omega), gd_in ht (by omega), nI_clamp (by omega), s1]
          unfold f_X0_settle
          simp only [bs, l0, l1, l2, l3, l4, l5, l6, l7, l8, l9, l10, l12, l15, l30, l31, l32, l40, l42, l48, l57, l60, l64, l98, l99, l100, l109, l110, l112, l115, l265, l1000, l518400, ngd, if_true, if_false, bn0, reduceCtorEq, n10, z1, z3, z0]
          rw [e1]
          simp only [bs, l0, l1, l2, l3, l4, l5, l6, l7, l8, l9, l10, l12, l15, l30, l31, l32, l40, l42, l48, l57, l60, l64, l98, l99, l100, l109, l110, l112, l115, l265, l1000, l518400, ngd, if_true, if_false, bn0, reduceCtorEq, n10, z1, z3, z0]
          rw [e2]
          simp only [bs, l0, l1, l2, l3, l4, l5, l6, l7, l8, l9, l10, l12, l15, l30, l31, l32, l40, l42, l48, l57, l60, l64, l98, l99, l100, l109, l110, l112, l115, l265, l1000, l518400, ngd, if_true, if_false, bn0, reduceCtorEq, n10, z1, z3, z0]
          rw [← hw3, i4]
        · unfold f_X5_office; rw [e_askedText_t (n := n) ht (by omega) (by rw [agA g13 34 0]; exact s2)]; simp only [bs, l0, l1, l2, l3, l4, l5, l6, l7, l8, l9, l10, l12, l15, l30, l31, l32, l40, l42, l48, l57, l60, l64, l98, l99, l100, l109, l110, l112, l115, l265, l1000, l518400, ngd, if_true, if_false, bn0, reduceCtorEq, n10, z1, z3, z0]; rw [e4]; simp only [bs, l0, l1, l2, l3, l4, l5, l6, l7, l8, l9, l10, l12, l15, l30, l31, l32, l40, l42, l48, l57, l60, l64, l98, l99, l100, l109, l110, l112, l115, l265, l1000, l518400, ngd, if_true, if_false, bn0, reduceCtorEq, n10, z1, z3, z0]; rw [c4, e5]; simp only [bs, l0, l1, l2, l3, l4, l5, l6, l7, l8, l9, l10, l12, l15, l30, l31, l32, l40, l42, l48, l57, l60, l64, l98, l99, l100, l109, l110, l112, l115, l265, l1000, l518400, ngd, if_true, if_false, bn0, reduceCtorEq, n10, z1, z3, z0]; rw [e6]; simp only [bs, l0, l1, l2, l3, l4, l5, l6, l7, l8, l9, l10, l12, l15, l30, l31, l32, l40, l42, l48, l57, l60, l64, l98, l99, l100, l109, l110, l112, l115, l265, l1000, l518400, ngd, if_true, if_false, bn0, reduceCtorEq, n10, z1, z3, z0]; rw [i510]
        · obtain ⟨h1, h2, h3, h4, h5, h6, h7, h8, h9⟩ := hW
          have hat : ∀ x, x < (rd v n 60 0 0).2.length → _ := fun x hx => nof_at (o := o) hx
          refine ⟨⟨a2, h1.2.1, fun x hx => (hat x hx).1, Nat.zero_le _, fun d hd => by cases hd⟩, Nat.zero_le _, ⟨?_, ?_, ?_, fun x hx => ?_, fun k hk => absurd hk (Nat.not_lt_zero _)⟩, ⟨i510, ?_, ?_, fun x hx => ?_, fun k hk => absurd hk (Nat.not_lt_zero _)⟩, Iro_ag h5 g16, Itx_ag h6 g16, ⟨Nat.zero_le _, fun y hy => (by cases hy), ?_, ?_, ?_, fun x hx => absurd hx (Nat.not_lt_zero _)⟩, fun k hk => Or.inl ⟨?_, f2 k hk⟩, Or.inl ?_⟩
          · rw [agI g4 4 0]; exact i4
          · rw [agI g26 5 0, agI a1 5 0]; rfl
          · rw [agI g16 6 0]; exact h3.2.2.1
          · obtain ⟨q1, q2, q3, q4⟩ := hat x hx
            obtain ⟨y1, y2, y3⟩ := a4 x hx
            rw [Nat.zero_add] at y1 y2 y3
            rw [agA g26 16 0, agA g26 17 0, agA g26 18 0, y1, y2, y3]
            exact ⟨q2, q3, q4⟩
          · rw [agI f1 518 0]; rfl
          · rw [agI g16 511 0]; exact h4.2.2.1
          · obtain ⟨q1, q2, q3, q4⟩ := hat x hx
            have hx' : x < (rd v n 60 0 0).2.length := hx
            obtain ⟨y1, y2, y3⟩ := c5 x hx
            obtain ⟨z1, z2, z3⟩ := d2 x (by omega)
            rw [if_pos (Nat.zero_le _), gA_sI] at z1 z2 z3
            rw [agA g46 36 0, agA g46 37 0, agA g46 38 0, z1, z2, z3, y1, y2, y3]
            exact ⟨q2, q3, q4⟩
          · rw [agI g4 407 0, hw3]; rw [gI_sI, if_neg (by decide), agI b1 407 0]; rfl
          · rw [agI g4 406 0, hw3]; rw [gI_sI, if_neg (by decide), agI b1 406 0]; rfl
          · rw [agI f1 524 0]; rfl
          · rw [agA g4 23 0, hw3, gA_sI]; exact b2 k hk
          · rw [agI g4 411 0, hw3]; rfl
