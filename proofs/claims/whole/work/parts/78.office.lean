/-! an office's text: fault, office -/
def kc (c : Int32) : Int32 := if c = nI 109 then nI 0 else if c = nI 98 then nI 1 else if c = nI 110 then nI 2 else if c = nI 115 then nI 3 else if c = nI 99 then nI 4 else if c = nI 112 then nI 5 else ng 9
theorem kc_cases (c : Int32) : kc c = ng 9 ∨ ∃ k, k < 6 ∧ kc c = nI k := by
  unfold kc
  by_cases h1 : c = nI 109
  · rw [if_pos h1]; exact Or.inr ⟨0, by omega, rfl⟩
  rw [if_neg h1]
  by_cases h2 : c = nI 98
  · rw [if_pos h2]; exact Or.inr ⟨1, by omega, rfl⟩
  rw [if_neg h2]
  by_cases h3 : c = nI 110
  · rw [if_pos h3]; exact Or.inr ⟨2, by omega, rfl⟩
  rw [if_neg h3]
  by_cases h4 : c = nI 115
  · rw [if_pos h4]; exact Or.inr ⟨3, by omega, rfl⟩
  rw [if_neg h4]
  by_cases h5 : c = nI 99
  · rw [if_pos h5]; exact Or.inr ⟨4, by omega, rfl⟩
  rw [if_neg h5]
  by_cases h6 : c = nI 112
  · rw [if_pos h6]; exact Or.inr ⟨5, by omega, rfl⟩
  rw [if_neg h6]; exact Or.inl rfl
theorem e_mkind {N : Nat} {c : Int32} {w : Wd} : f_X5_kindOf N c w = some (kc c, w) := by
  unfold f_X5_kindOf kc
  simp only [bs, l0, l1, l2, l3, l4, l5, l6, l7, l8, l9, l10, l12, l15, l30, l31, l32, l40, l42, l48, l57, l60, l64, l98, l99, l100, l109, l110, l112, l115, l265, l1000, l518400, ngd]
  by_cases h1 : c = nI 109
  · rw [iT h1, iT h1]
  rw [iF h1, iF h1]
  by_cases h2 : c = nI 98
  · rw [iT h2, iT h2]
  rw [iF h2, iF h2]
  by_cases h3 : c = nI 110
  · rw [iT h3, iT h3]
  rw [iF h3, iF h3]
  by_cases h4 : c = nI 115
  · rw [iT h4, iT h4]
  rw [iF h4, iF h4]
  by_cases h5 : c = nI 99
  · rw [iT h5, iT h5]
  rw [iF h5, iF h5]
  by_cases h6 : c = nI 112
  · rw [iT h6, iT h6]
  rw [iF h6, iF h6]
theorem e_ckind_s {N n k v : Nat} {c : Int32} {w : Wd} (hk : k < 6) (hv : letN k = nI v) : X4_kindOf_L1 N c (n + 1) (nI k) w = if c = nI v then some (.inl (nI k, w)) else X4_kindOf_L1 N c n (nI (k + 1)) w := by
  rw [X4_kindOf_L1]
  simp only [bs, l0, l1, l2, l3, l4, l5, l6, l7, l8, l9, l10, l12, l15, l30, l31, l32, l40, l42, l48, l57, l60, l64, l98, l99, l100, l109, l110, l112, l115, l265, l1000, l518400, ngd]
  rw [iF (nI_ge (by omega) (by omega)), gd_in (by omega) (by omega), nI_clamp (by omega), hv, nI_add]
  by_cases h : c = nI v
  · rw [iT h.symm, if_pos h]
  · rw [iF (fun q => h q.symm), if_neg h]
theorem e_ckind {N : Nat} {c : Int32} {w : Wd} (hN : 1000 ≤ N) : f_X4_kindOf N c w = some (kc c, w) := by
  obtain ⟨n, hn⟩ : ∃ n, N = n + 7 := ⟨N - 7, by omega⟩
  have e : X4_kindOf_L1 N c N (nI 0) w = X4_kindOf_L1 N c (n + 7) (nI 0) w := by rw [← hn]
  unfold f_X4_kindOf kc
  simp only [bs, l0, l1, l2, l3, l4, l5, l6, l7, l8, l9, l10, l12, l15, l30, l31, l32, l40, l42, l48, l57, l60, l64, l98, l99, l100, l109, l110, l112, l115, l265, l1000, l518400, ngd]
  rw [e, e_ckind_s (v := 109) (by omega) (by decide)]
  by_cases h1 : c = nI 109
  · rw [if_pos h1, if_pos h1]; rfl
  rw [if_neg h1, if_neg h1, e_ckind_s (v := 98) (by omega) (by decide)]
  by_cases h2 : c = nI 98
  · rw [if_pos h2, if_pos h2]; rfl
  rw [if_neg h2, if_neg h2, e_ckind_s (v := 110) (by omega) (by decide)]
  by_cases h3 : c = nI 110
  · rw [if_pos h3, if_pos h3]; rfl
  rw [if_neg h3, if_neg h3, e_ckind_s (v := 115) (by omega) (by decide)]
  by_cases h4 : c = nI 115
  · rw [if_pos h4, if_pos h4]; rfl
  rw [if_neg h4, if_neg h4, e_ckind_s (v := 99) (by omega) (by decide)]
  by_cases h5 : c = nI 99
  · rw [if_pos h5, if_pos h5]; rfl
  rw [if_neg h5, if_neg h5, e_ckind_s (v := 112) (by omega) (by decide)]
  by_cases h6 : c = nI 112
  · rw [if_pos h6, if_pos h6]; rfl
  rw [if_neg h6, if_neg h6, X4_kindOf_L1, iT (by decide)]; rfl
def fig (v : Nat → Int32) (n p : Nat) : Bool := decide (p < n ∧ 48 ≤ (v p).toInt ∧ (v p).toInt ≤ 57)
theorem fig_d {v : Nat → Int32} {n p : Nat} (h : fig v n p = true) : ∃ d, d ≤ 9 ∧ v p - nI 48 = nI d := by
  obtain ⟨h1, h2, h3⟩ := of_decide_eq_true h
  obtain ⟨d, hd⟩ : ∃ d : Nat, (v p).toInt = 48 + d := ⟨((v p).toInt - 48).toNat, by omega⟩
  refine ⟨d, by omega, ?_⟩
  have e : v p = nI (d + 48) := by rw [← Int32.toInt_inj, nI_toInt (by omega), hd]; omega
  rw [e, pk_sub (by omega), Nat.add_sub_cancel]
theorem e_isFigure {N t n p : Nat} {v : Nat → Int32} {w : Wd} (ht : t < 4) (hn : n ≤ 60) (hp : p ≤ 65) (hs : gA w 15 0 t = nI n) (hv : ∀ i, i < n → gA w 14 t i = v i) : f_X3_isFigure N (nI t) (nI p) w = some (nI (bn (fig v n p)), w) := by
  unfold f_X3_isFigure fig
  simp only [bs, l0, l1, l2, l3, l4, l5, l6, l7, l8, l9, l10, l12, l15, l30, l31, l32, l40, l42, l48, l57, l60, l64, l98, l99, l100, l109, l110, l112, l115, l265, l1000, l518400, ngd]
  rw [gd_in ht (by omega), nI_clamp (by omega), hs]
  by_cases h : n ≤ p
  · rw [iT (nI_le h (by omega)), decide_eq_false (by omega)]; rfl
  rw [iF (nI_ge (by omega) (by omega)), gd_in ht (by omega), gd_in (by omega) (by omega), nI_clamp (by omega), hv p (by omega)]
  have k1 : v p < nI 48 ↔ (v p).toInt < 48 := clt (n := 48) (by omega)
  have k2 : nI 57 < v p ↔ 57 < (v p).toInt := cgt (n := 57) (by omega)
  by_cases h1 : (v p).toInt < 48
  · rw [iT (k1.mpr h1), decide_eq_false (by omega)]; rfl
  rw [iF (fun q => h1 (k1.mp q)), gd_in ht (by omega), gd_in (by omega) (by omega)]
  by_cases h2 : 57 < (v p).toInt
  · rw [iT (k2.mpr h2), decide_eq_false (by omega)]; rfl
  rw [iF (fun q => h2 (k2.mp q)), decide_eq_true (by omega)]; rfl
def bad (v : Nat → Int32) (n c p : Nat) : Option Nat := if c = 6 then some p else if kc (v p) = ng 9 then some p else if fig v n (p + 1) = false then some (p + 1) else if fig v n (p + 2) = false then some (p + 2) else none
theorem bad_none {v : Nat → Int32} {n c p : Nat} (h : bad v n c p = none) : c ≠ 6 ∧ kc (v p) ≠ ng 9 ∧ fig v n (p + 1) = true ∧ fig v n (p + 2) = true := by
  unfold bad at h
  by_cases h1 : c = 6
  · rw [if_pos h1] at h; cases h
  rw [if_neg h1] at h
  by_cases h2 : kc (v p) = ng 9
  · rw [if_pos h2] at h; cases h
  rw [if_neg h2] at h
  cases h3 : fig v n (p + 1) with
  | false => rw [if_pos h3] at h; cases h
  | true =>
    rw [if_neg (by simp [h3])] at h
    cases h4 : fig v n (p + 2) with
    | false => rw [if_pos h4] at h; cases h
    | true => exact ⟨h1, h2, rfl, rfl⟩
def rd (v : Nat → Int32) (n : Nat) : Nat → Nat → Nat → Option Nat × List Nat
  | 0, _, _ => (none, [])
  | m + 1, c, p => if n ≤ p then (none, []) else if v p = nI 32 then rd v n m c (p + 1) else
    match bad v n c p with
    | some q => (some q, [])
    | none => ((rd v n m (c + 1) (p + 3)).1, p :: (rd v n m (c + 1) (p + 3)).2)
theorem rd_end {v : Nat → Int32} {n : Nat} : ∀ (m c p : Nat), (n ≤ p + 2 ∨ c = 6) → (rd v n m c p).1 = none → (rd v n m c p).2 = [] := by
  intro m
  induction m with
  | zero => intro c p _ _; rfl
  | succ m ih =>
    intro c p h h1
    rw [rd] at h1 ⊢
    by_cases a : n ≤ p
    · rw [if_pos a]
    rw [if_neg a] at h1 ⊢
    by_cases b : v p = nI 32
    · rw [if_pos b] at h1 ⊢; exact ih c (p + 1) (by omega) h1
    rw [if_neg b] at h1 ⊢
    cases d : bad v n c p with
    | some q => rfl
    | none =>
      obtain ⟨d1, d2, d3, d4⟩ := bad_none d
      have := (of_decide_eq_true d4).1
      omega
theorem rd_mem {v : Nat → Int32} {n : Nat} : ∀ (m c p : Nat), ∀ x ∈ (rd v n m c p).2, kc (v x) ≠ ng 9 ∧ fig v n (x + 1) = true ∧ fig v n (x + 2) = true := by
  intro m
  induction m with
  | zero => intro c p x hx; cases hx
  | succ m ih =>
    intro c p x hx
    rw [rd] at hx
    by_cases a : n ≤ p
    · rw [if_pos a] at hx; cases hx
    rw [if_neg a] at hx
    by_cases b : v p = nI 32
    · rw [if_pos b] at hx; exact ih c (p + 1) x hx
    rw [if_neg b] at hx
    cases d : bad v n c p with
    | some q => rw [d] at hx; cases hx
    | none =>
      rw [d] at hx
      rcases List.mem_cons.mp hx with q | q
      · rw [q]; exact (bad_none d).2
      · exact ih _ _ x q
theorem e_ff_L {N t n : Nat} {v : Nat → Int32} {w : Wd} (hN : 1000 ≤ N) (ht : t < 4) (hn : n ≤ 60) (hs : gA w 15 0 t = nI n) (hv : ∀ i, i < n → gA w 14 t i = v i) : ∀ (m c p F : Nat), n ≤ p + m → m < F → c ≤ 6 → p ≤ 63 → X3_firstFault_L1 N (nI t) F (nI c) (nI p) w = some (match (rd v n m c p).1 with | some q => .inl (nI q, w) | none => .inr w) := by
  intro m
  induction m with
  | zero =>
    intro c p F h hF hc hp
    obtain ⟨F, rfl, _⟩ := fuel_s hF
    rw [X3_firstFault_L1, gd_in ht (by omega), nI_clamp (by omega), hs, iT (nI_le (by omega) (by omega))]; rfl
  | succ m ih =>
    intro c p F h hF hc hp
    obtain ⟨F, rfl, hF'⟩ := fuel_s hF
    rw [X3_firstFault_L1, gd_in ht (by omega), nI_clamp (by omega), hs, rd]
    by_cases a : n ≤ p
    · rw [iT (nI_le a (by omega)), if_pos a]
    rw [iF (nI_ge (by omega) (by omega)), if_neg a, gd_in ht (by omega), gd_in (by omega) (by omega), nI_clamp (by omega), hv p (by omega)]
    simp only [bs, l0, l1, l2, l3, l4, l5, l6, l7, l8, l9, l10, l12, l15, l30, l31, l32, l40, l42, l48, l57, l60, l64, l98, l99, l100, l109, l110, l112, l115, l265, l1000, l518400, ngd]
    by_cases b : v p = nI 32
    · rw [iT b, if_pos b, nI_add, ih c (p + 1) F (by omega) (by omega) hc (by omega)]
    rw [iF b, if_neg b]
    by_cases d1 : c = 6
    · rw [iT (by rw [d1])]; unfold bad; rw [if_pos d1]
    rw [iF (fun q => d1 ((nI_eq (by omega) (by omega)).mp q)), gd_in ht (by omega), gd_in (by omega) (by omega), e_ckind hN]
    simp only [bs, l0, l1, l2, l3, l4, l5, l6, l7, l8, l9, l10, l12, l15, l30, l31, l32, l40, l42, l48, l57, l60, l64, l98, l99, l100, l109, l110, l112, l115, l265, l1000, l518400, ngd]
    by_cases d2 : kc (v p) = ng 9
    · rw [iT d2]; unfold bad; rw [if_neg d1, if_pos d2]
    rw [iF d2, nI_add, nI_add, nI_add, e_isFigure ht hn (by omega) hs hv]
    simp only [bs, l0, l1, l2, l3, l4, l5, l6, l7, l8, l9, l10, l12, l15, l30, l31, l32, l40, l42, l48, l57, l60, l64, l98, l99, l100, l109, l110, l112, l115, l265, l1000, l518400, ngd]
    cases d3 : fig v n (p + 1) with
    | false => rw [iT bnFc]; unfold bad; rw [if_neg d1, if_neg d2, if_pos d3]
    | true =>
      rw [iF (by decide), e_isFigure ht hn (by omega) hs hv]
      simp only [bs, l0, l1, l2, l3, l4, l5, l6, l7, l8, l9, l10, l12, l15, l30, l31, l32, l40, l42, l48, l57, l60, l64, l98, l99, l100, l109, l110, l112, l115, l265, l1000, l518400, ngd]
      cases d4 : fig v n (p + 2) with
      | false => rw [iT bnFc]; unfold bad; rw [if_neg d1, if_neg d2, if_neg (by simp [d3]), if_pos d4]
      | true =>
        rw [iF (by decide), nI_add, ih (c + 1) (p + 3) F (by omega) (by omega) (by omega) (by have := (of_decide_eq_true d4).1; omega)]; unfold bad; rw [if_neg d1, if_neg d2, if_neg (by simp [d3]), if_neg (by simp [d4])]
theorem e_ff {N t n : Nat} {v : Nat → Int32} {w : Wd} (hN : 1000 ≤ N) (ht : t < 4) (hn : n ≤ 60) (hs : gA w 15 0 t = nI n) (hv : ∀ i, i < n → gA w 14 t i = v i) : f_X3_firstFault N (nI t) w = some ((match (rd v n 60 0 0).1 with | some q => nI q | none => ng 9), w) := by
  unfold f_X3_firstFault
  simp only [bs, l0, l1, l2, l3, l4, l5, l6, l7, l8, l9, l10, l12, l15, l30, l31, l32, l40, l42, l48, l57, l60, l64, l98, l99, l100, l109, l110, l112, l115, l265, l1000, l518400, ngd]
  rw [e_ff_L hN ht hn hs hv 60 0 0 N (by omega) (by omega) (by omega) (by omega)]
  cases (rd v n 60 0 0).1 <;> rfl
/-! settling -/
theorem e_settle_L {N t n : Nat} {v : Nat → Int32} (hN : 1000 ≤ N) (hn : n ≤ 60) : ∀ (m c p F : Nat) (w : Wd), n ≤ p + m → m < F → c ≤ 6 → p ≤ 63 → gI w 4 0 = nI c → (∀ i, i < n → gA w 14 t i = v i) → (rd v n m c p).1 = none → ∃ w', X0_settle_L1 N 0 t (nI n) F (nI p) w = some w' ∧ ag [4, 16, 17, 18] w w' ∧ c + (rd v n m c p).2.length ≤ 6 ∧ gI w' 4 0 = nI (c + (rd v n m c p).2.length) ∧ (∀ k, k < (rd v n m c p).2.length → gA w' 16 0 (c + k) = kc (v (dg (rd v n m c p).2 k)) ∧ gA w' 17 0 (c + k) = v (dg (rd v n m c p).2 k + 1) - nI 48 ∧ gA w' 18 0 (c + k) = v (dg (rd v n m c p).2 k + 2) - nI 48) ∧ ∀ j, j < c → gA w' 16 0 j = gA w 16 0 j ∧ gA w' 17 0 j = gA w 17 0 j ∧ gA w' 18 0 j = gA w 18 0 j := by
  intro m
  induction m with
  | zero =>
    intro c p F w h hF hc hp h4 hv hr
    obtain ⟨F, rfl, _⟩ := fuel_s hF
    rw [X0_settle_L1]
    simp only [bs, l0, l1, l2, l3, l4, l5, l6, l7, l8, l9, l10, l12, l15, l30, l31, l32, l40, l42, l48, l57, l60, l64, l98, l99, l100, l109, l110, l112, l115, l265, l1000, l518400, ngd]
    rw [nI_add, iT (nI_le (by omega) (by omega))]
    exact ⟨w, rfl, ag.rf _ _, hc, h4, fun k hk => absurd hk (Nat.not_lt_zero _), fun _ _ => ⟨rfl, rfl, rfl⟩⟩
  | succ m ih =>
    intro c p F w h hF hc hp h4 hv hr
    obtain ⟨F, rfl, hF'⟩ := fuel_s hF
    rw [X0_settle_L1]
    simp only [bs, l0, l1, l2, l3, l4, l5, l6, l7, l8, l9, l10, l12, l15, l30, l31, l32, l40, l42, l48, l57, l60, l64, l98, l99, l100, l109, l110, l112, l115, l265, l1000, l518400, ngd]
    rw [nI_add, h4]
    by_cases a : n ≤ p + 2
    · rw [iT (nI_le a (by omega)), rd_end (m + 1) c p (Or.inl a) hr]
      exact ⟨w, rfl, ag.rf _ _, hc, h4, fun k hk => absurd hk (Nat.not_lt_zero _), fun _ _ => ⟨rfl, rfl, rfl⟩⟩
    rw [iF (nI_ge (by omega) (by omega))]
    by_cases a2 : c = 6
    · rw [iT (nI_le (by omega) (by omega)), rd_end (m + 1) c p (Or.inr a2) hr]
      exact ⟨w, rfl, ag.rf _ _, hc, h4, fun k hk => absurd hk (Nat.not_lt_zero _), fun _ _ => ⟨rfl, rfl, rfl⟩⟩
    rw [iF (nI_ge (by omega) (by omega)), gd_in (by omega) (by omega), nI_clamp (by omega), hv p (by omega)]
    rw [rd, if_neg (show ¬ n ≤ p by omega)] at hr ⊢
    by_cases b : v p = nI 32
    · rw [if_pos b] at hr ⊢
      rw [iT b, nI_add]
      exact ih c (p + 1) F w (by omega) (by omega) hc (by omega) h4 hv hr
    rw [if_neg b] at hr ⊢
    rw [iF b, gd_in (by omega) (by omega), e_ckind hN]
    simp only [bs, l0, l1, l2, l3, l4, l5, l6, l7, l8, l9, l10, l12, l15, l30, l31, l32, l40, l42, l48, l57, l60, l64, l98, l99, l100, l109, l110, l112, l115, l265, l1000, l518400, ngd]
    cases d : bad v n c p with
    | some q => rw [d] at hr; cases hr
    | none =>
      rw [d] at hr
      obtain ⟨w1, hw1⟩ : ∃ w1, w1 = sA w 16 0 (upd (gA w 16 0) c (kc (v p))) := ⟨_, rfl⟩
      obtain ⟨w2, hw2⟩ : ∃ w2, w2 = sA w1 17 0 (upd (gA w1 17 0) c (v (p + 1) - nI 48)) := ⟨_, rfl⟩
      obtain ⟨w3, hw3⟩ : ∃ w3, w3 = sA w2 18 0 (upd (gA w2 18 0) c (v (p + 2) - nI 48)) := ⟨_, rfl⟩
      have g1 : ag [4, 16, 17, 18] w w1 := by rw [hw1]; exact (ag.rf _ w).sA (by simp)
      have g2 : ag [4, 16, 17, 18] w w2 := g1.tr (by rw [hw2]; exact (ag.rf _ w1).sA (by simp))
      have g3 : ag [4, 16, 17, 18] w w3 := g2.tr (by rw [hw3]; exact (ag.rf _ w2).sA (by simp))
      have i1 : gI w1 4 0 = nI c := by rw [hw1]; exact h4
      have i2 : gI w2 4 0 = nI c := by rw [hw2]; exact i1
      have i3 : gI w3 4 0 = nI c := by rw [hw3]; exact i2
      have v1 : ∀ i, i < n → gA w1 14 t i = v i := fun i hi => by rw [hw1, gA_sA, if_neg (by simp)]; exact hv i hi
      have v2 : ∀ i, i < n → gA w2 14 t i = v i := fun i hi => by rw [hw2, gA_sA, if_neg (by simp)]; exact v1 i hi
      have v3 : ∀ i, i < n → gA w3 14 t i = v i := fun i hi => by rw [hw3, gA_sA, if_neg (by simp)]; exact v2 i hi
      rw [nI_clamp (by omega), ← hw1, i1, nI_add, nI_add, nI_clamp (show p + 1 < 2 ^ 31 by omega), nI_clamp (show p + 2 < 2 ^ 31 by omega), nI_clamp (by omega), v1 (p + 1) (by omega), ← hw2, i2, nI_clamp (by omega), v2 (p + 2) (by omega), ← hw3, i3, nI_add]
      rw [gd_in (by omega) (by omega), gd_in (by omega) (by omega), gd_in (by omega) (by omega), gd_in (by omega) (by omega), gd_in (by omega) (by omega)]
      obtain ⟨w', e, a1, a2', a3, a4, a5⟩ := ih (c + 1) (p + 3) F (sI w3 4 0 (nI (c + 1))) (by omega) (by omega) (by omega) (by omega) rfl (fun i hi => by rw [gA_sI]; exact v3 i hi) hr
      have hl : (p :: (rd v n m (c + 1) (p + 3)).2).length = (rd v n m (c + 1) (p + 3)).2.length + 1 := rfl
      dsimp only
      rw [hl]
      refine ⟨w', e, (g3.sI (by simp)).tr a1, by omega, by rw [a3]; congr 1; omega, fun k hk => ?_, fun j hj => ?_⟩
      · cases k with
        | zero =>
          obtain ⟨q1, q2, q3⟩ := a5 c (by omega)
          rw [Nat.add_zero, q1, q2, q3, gA_sI, gA_sI, gA_sI]
          refine ⟨?_, ?_, ?_⟩
          · rw [hw3, gA_sA, if_neg (by simp), hw2, gA_sA, if_neg (by simp), hw1, gA_sA, if_pos ⟨rfl, rfl⟩, pk_us]; rfl
          · rw [hw3, gA_sA, if_neg (by simp), hw2, gA_sA, if_pos ⟨rfl, rfl⟩, pk_us]; rfl
          · rw [hw3, gA_sA, if_pos ⟨rfl, rfl⟩, pk_us]; rfl
        | succ k =>
          have := a4 k (by omega)
          rw [show c + 1 + k = c + (k + 1) by omega] at this
          exact this
      · obtain ⟨q1, q2, q3⟩ := a5 j (by omega)
        rw [q1, q2, q3, gA_sI, gA_sI, gA_sI]
        refine ⟨?_, ?_, ?_⟩
        · rw [hw3, gA_sA, if_neg (by simp), hw2, gA_sA, if_neg (by simp), hw1, gA_sA, if_pos ⟨rfl, rfl⟩, pk_un (by omega)]
        · rw [hw3, gA_sA, if_neg (by simp), hw2, gA_sA, if_pos ⟨rfl, rfl⟩, pk_un (by omega), hw1, gA_sA, if_neg (by simp)]
        · rw [hw3, gA_sA, if_pos ⟨rfl, rfl⟩, pk_un (by omega), hw2, gA_sA, if_neg (by simp), hw1, gA_sA, if_neg (by simp)]
