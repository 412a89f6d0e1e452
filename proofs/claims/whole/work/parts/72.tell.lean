/-! the list is in order, none twice -/
def Lx (a b : List Nat) : Prop := ∃ k, a.take k = b.take k ∧ dg a k < dg b k
theorem gl_pw {F : Nat → List (List Nat)} (h1 : ∀ y, (F y).Pairwise Lx) (h2 : ∀ y z, y < z → ∀ a ∈ F y, ∀ b ∈ F z, Lx a b) : ∀ (m k : Nat), (gl F m k).Pairwise Lx := by
  intro m
  induction m with
  | zero => intro k; exact List.Pairwise.nil
  | succ m ih =>
    intro k
    rw [gl, List.pairwise_append]
    refine ⟨h1 k, ih (k + 1), fun a ha b hb => ?_⟩
    obtain ⟨z, z1, z2, hz⟩ := gl_mem _ _ hb
    exact h2 k z (by omega) a ha b hz
theorem take_pre {p q : List Nat} {y : Nat} : (p ++ [y] ++ q).take p.length = p ∧ dg (p ++ [y] ++ q) p.length = y := by
  constructor
  · rw [List.append_assoc]; simp
  · unfold dg; simp [List.getD_eq_getElem?_getD]
theorem gen_pw {o : Of} : ∀ (m : Nat) (p : List Nat), p.length + m = oN o → (∀ y ∈ p, y < oN o) → p.Nodup → (gen o m p).Pairwise Lx := by
  intro m
  induction m with
  | zero =>
    intro p hl h1 h2
    unfold gen
    split
    · exact List.pairwise_singleton _ _
    · exact List.Pairwise.nil
  | succ m ih =>
    intro p hl h1 h2
    unfold gen
    have hF : ∀ y, ∀ a ∈ (if y ∈ p ∨ ¬ bar o p.length y = 0 then [] else gen o m (p ++ [y])), y < oN o → ∃ q, a = p ++ [y] ++ q := fun y a ha hy => by
      by_cases c : y ∈ p ∨ ¬ bar o p.length y = 0
      · rw [if_pos c] at ha; cases ha
      · rw [if_neg c] at ha
        have c3 : y ∉ p := fun q => c (Or.inl q)
        exact (gen_Pm m (p ++ [y]) (by rw [List.length_append, List.length_singleton]; omega) (mem_snoc h1 hy) (by
          rw [List.nodup_append]
          refine ⟨h2, by simp, fun a ha b hb e => ?_⟩
          rw [List.mem_singleton.mp hb] at e
          rw [e] at ha
          exact c3 ha) a ha).2.2
    -- beyond the mates nothing is drawn: cut the function there
    have cut : ∀ (j k : Nat), k + j = oN o → gl (fun y => if y ∈ p ∨ ¬ bar o p.length y = 0 then [] else gen o m (p ++ [y])) j k = gl (fun y => if y < oN o then (if y ∈ p ∨ ¬ bar o p.length y = 0 then [] else gen o m (p ++ [y])) else []) j k := by
      intro j
      induction j with
      | zero => intro k _; rfl
      | succ j jh => intro k hk; rw [gl, gl, if_pos (show k < oN o by omega), jh (k + 1) (by omega)]
    rw [cut _ _ (by omega)]
    refine gl_pw (fun y => ?_) (fun y z hyz a ha b hb => ?_) _ _
    · by_cases hy : y < oN o
      · rw [if_pos hy]
        by_cases c : y ∈ p ∨ ¬ bar o p.length y = 0
        · rw [if_pos c]; exact List.Pairwise.nil
        · rw [if_neg c]
          have c3 : y ∉ p := fun q => c (Or.inl q)
          refine ih (p ++ [y]) (by rw [List.length_append, List.length_singleton]; omega) (mem_snoc h1 hy) ?_
          rw [List.nodup_append]
          refine ⟨h2, by simp, fun a ha b hb e => ?_⟩
          rw [List.mem_singleton.mp hb] at e
          rw [e] at ha
          exact c3 ha
      · rw [if_neg hy]; exact List.Pairwise.nil
    · by_cases hy : y < oN o
      · by_cases hz : z < oN o
        · rw [if_pos hy] at ha
          rw [if_pos hz] at hb
          obtain ⟨q, rfl⟩ := hF y a ha hy
          obtain ⟨q', rfl⟩ := hF z b hb hz
          obtain ⟨e1, e2⟩ := take_pre (p := p) (q := q) (y := y)
          obtain ⟨e3, e4⟩ := take_pre (p := p) (q := q') (y := z)
          exact ⟨p.length, by rw [e1, e3], by rw [e2, e4]; exact hyz⟩
        · rw [if_neg hz] at hb; cases hb
      · rw [if_neg hy] at ha; cases ha
theorem rights_pw (o : Of) : (rights o).Pairwise Lx := gen_pw (oN o) [] (by simp) (by simp) (by simp)
theorem rights_nd (o : Of) : (rights o).Nodup := (rights_pw o).imp (fun {a b} h e => by
  obtain ⟨k, _, h2⟩ := h
  rw [e] at h2; omega)
theorem dr_inj {L : List (List Nat)} (h : L.Nodup) {i j : Nat} (hi : i < L.length) (hj : j < L.length) (e : dr L i = dr L j) : i = j := by
  unfold dr at e
  rw [List.getD_eq_getElem?_getD, List.getElem?_eq_getElem hi, List.getD_eq_getElem?_getD, List.getElem?_eq_getElem hj] at e
  exact (List.getElem_inj (h₀ := hi) (h₁ := hj) h).mp e
theorem mem_dr {L : List (List Nat)} {d : List Nat} (h : d ∈ L) : ∃ j, j < L.length ∧ dr L j = d := by
  obtain ⟨i, hi, e⟩ := List.getElem_of_mem h
  refine ⟨i, hi, ?_⟩
  unfold dr; rw [List.getD_eq_getElem?_getD, List.getElem?_eq_getElem hi]; exact e
theorem cnt_one {f : Nat → Bool} {j : Nat} : ∀ (m k c : Nat), k ≤ j → j < k + m → (∀ i, k ≤ i → i < k + m → f i = decide (i = j)) → cnt f m k c = c + 1 := by
  intro m
  induction m with
  | zero => intro k c h1 h2; omega
  | succ m ih =>
    intro k c h1 h2 h
    have hk := h k (by omega) (by omega)
    by_cases e : k = j
    · rw [cnt_t (by rw [hk]; simp [e]), cnt_none m _ _ (fun i a b => by rw [h i (by omega) (by omega)]; simp; omega)]
    · rw [cnt_f (by rw [hk]; simp [e])]
      exact ih (k + 1) c (by omega) (by omega) (fun i a b => h i (by omega) (by omega))
/-! who tells -/
def als (s : Nat) (a b : List Nat) : Nat → Nat → Bool
  | 0, _ => true
  | m + 1, k => (!s.testBit k || decide (dg a k = dg b k)) && als s a b m (k + 1)
theorem als_iff {s : Nat} {a b : List Nat} : ∀ (m k : Nat), als s a b m k = true ↔ ∀ x, k ≤ x → x < k + m → s.testBit x = true → dg a x = dg b x := by
  intro m
  induction m with
  | zero => intro k; exact ⟨fun _ x h1 h2 => by omega, fun _ => rfl⟩
  | succ m ih =>
    intro k
    rw [als, Bool.and_eq_true, ih]
    constructor
    · rintro ⟨h1, h2⟩ x a1 b1 hs
      rcases Nat.eq_or_lt_of_le a1 with q | q
      · subst q
        rw [hs] at h1; simpa using h1
      · exact h2 x (by omega) (by omega) hs
    · intro h
      refine ⟨?_, fun x a1 b1 => h x (by omega) (by omega)⟩
      cases e : s.testBit k with
      | false => rfl
      | true => simpa using h k (by omega) (by omega) e
def ppo (s : Nat) : Nat → Nat → Nat → Nat
  | 0, _, M => M
  | m + 1, k, M => ppo s m (k + 1) (if s.testBit k = true then M ||| 7 <<< (3 * k) else M)
theorem and7 (z s : Nat) : z &&& (7 <<< s) = 0 ↔ (z >>> s) % 8 = 0 := by
  have h8 : (z >>> s) % 8 = (z >>> s) &&& 7 := by
    rw [show (7 : Nat) = 2 ^ 3 - 1 from rfl, Nat.and_two_pow_sub_one_eq_mod]
  rw [h8]
  constructor
  · intro h
    have := congrArg (fun q => q >>> s) h
    simpa [Nat.shiftRight_and_distrib, Nat.shiftLeft_shiftRight] using this
  · intro h
    apply Nat.eq_of_testBit_eq
    intro i
    rw [Nat.testBit_and, Nat.testBit_shiftLeft, Nat.zero_testBit]
    by_cases c : s ≤ i
    · have := congrArg (fun q => q.testBit (i - s)) h
      simp only [Nat.testBit_and, Nat.testBit_shiftRight, Nat.zero_testBit, show s + (i - s) = i by omega] at this
      simp only [ge_iff_le, c, decide_true, Bool.true_and]
      exact this
    · simp [c]
theorem ppo_and {s z : Nat} : ∀ (m k M : Nat), z &&& ppo s m k M = 0 ↔ (z &&& M = 0 ∧ ∀ x, k ≤ x → x < k + m → s.testBit x = true → pp z x = 0) := by
  intro m
  induction m with
  | zero => intro k M; exact ⟨fun h => ⟨h, fun x a b => by omega⟩, fun h => h.1⟩
  | succ m ih =>
    intro k M
    rw [ppo, ih]
    cases e : s.testBit k with
    | false =>
      simp only [Bool.false_eq_true, if_false]
      constructor
      · rintro ⟨h1, h2⟩
        refine ⟨h1, fun x a b hs => ?_⟩
        rcases Nat.eq_or_lt_of_le a with q | q
        · subst q; rw [e] at hs; cases hs
        · exact h2 x (by omega) (by omega) hs
      · rintro ⟨h1, h2⟩; exact ⟨h1, fun x a b => h2 x (by omega) (by omega)⟩
    | true =>
      simp only [if_true]
      rw [Nat.and_or_distrib_left, Nat.or_eq_zero_iff, and7]
      constructor
      · rintro ⟨⟨h1, h3⟩, h2⟩
        refine ⟨h1, fun x a b hs => ?_⟩
        rcases Nat.eq_or_lt_of_le a with q | q
        · subst q; exact h3
        · exact h2 x (by omega) (by omega) hs
      · rintro ⟨h1, h2⟩; exact ⟨⟨h1, h2 k (by omega) (by omega) e⟩, fun x a b => h2 x (by omega) (by omega)⟩
theorem pp_xor (a b x : Nat) : pp (a ^^^ b) x = 0 ↔ pp a x = pp b x := by
  unfold pp
  rw [Nat.shiftRight_xor_distrib, show (8 : Nat) = 2 ^ 3 from rfl, Nat.xor_mod_two_pow, xor_0]
theorem ftf_pap {n k s : Nat} {L : List (List Nat)} {d : List Nat} (hL : LOk n L) (hk : k < L.length) (hd : Pm n d) : ftf L (cd d) (ppo s n 0 0) k = als s (dr L k) d n 0 := by
  have hn := hL.1
  have hp := LOk_at hL hk
  unfold ftf
  rw [Bool.eq_iff_iff, decide_eq_true_eq, ppo_and, als_iff]
  constructor
  · rintro ⟨_, h⟩ x a b hs
    have := (pp_xor _ _ x).mp (h x a b hs)
    rwa [Pm_pp hp hn, Pm_pp hd hn] at this
  · intro h
    refine ⟨by simp, fun x a b hs => (pp_xor _ _ x).mpr ?_⟩
    rw [Pm_pp hp hn, Pm_pp hd hn]; exact h x a b hs
theorem e_papersOf_L {N n s : Nat} {w : Wd} (hn : n ≤ 6) (hm : gI w 4 0 = nI n) (hs : s < 64) : ∀ (m k M F : Nat), k + m = n → m < F → X4_papersOf_L1 N (nI s) F (nI M) (nI k) w = some (nI (ppo s m k M), w) := by
  intro m
  induction m with
  | zero =>
    intro k M F hk hF
    obtain ⟨F, rfl, _⟩ := fuel_s hF
    rw [X4_papersOf_L1, hm, iT (nI_le (by omega) (by omega)), ppo]
  | succ m ih =>
    intro k M F hk hF
    obtain ⟨F, rfl, hF'⟩ := fuel_s hF
    rw [X4_papersOf_L1, hm, iF (nI_ge (by omega) (by omega)), ppo]
    simp only [bs, l0, l1, l2, l3, l4, l5, l6, l7, l8, l9, l10, l12, l15, l30, l31, l32, l40, l42, l48, l57, l60, l64, l98, l99, l100, l109, l110, l112, l115, l265, l1000, l518400, ngd]
    cases e : s.testBit k with
    | false => rw [iT (by rw [bit0c (by omega) (by omega), e]), nI_add, ih (k + 1) _ F (by omega) (by omega)]; simp
    | true =>
      have hsh : nI 7 <<< (nI (3 * k) &&& nI 31) = nI (7 <<< (3 * k)) := nx_shl (by omega) (by
        have h1 : (2 : Nat) ^ (3 * k) ≤ 2 ^ 15 := Nat.pow_le_pow_right (by omega) (by omega)
        have h2 : 7 * 2 ^ (3 * k) ≤ 7 * 2 ^ 15 := Nat.mul_le_mul (by omega) h1
        omega)
      rw [iF (by rw [bit0c (by omega) (by omega), e]; simp), pk_mul, hsh, nx_or, nI_add, ih (k + 1) _ F (by omega) (by omega)]; simp
theorem e_papersOf {N n s : Nat} {w : Wd} (hN : 1000 ≤ N) (hn : n ≤ 6) (hm : gI w 4 0 = nI n) (hs : s < 64) : f_X4_papersOf N (nI s) w = some (nI (ppo s n 0 0), w) := by
  unfold f_X4_papersOf
  simp only [bs, l0, l1, l2, l3, l4, l5, l6, l7, l8, l9, l10, l12, l15, l30, l31, l32, l40, l42, l48, l57, l60, l64, l98, l99, l100, l109, l110, l112, l115, l265, l1000, l518400, ngd]
  rw [e_papersOf_L hn hm hs n 0 0 N (by omega) (by omega)]; simp only [bs, l0, l1, l2, l3, l4, l5, l6, l7, l8, l9, l10, l12, l15, l30, l31, l32, l40, l42, l48, l57, l60, l64, l98, l99, l100, l109, l110, l112, l115, l265, l1000, l518400, ngd]
def fitc (n s : Nat) (L : List (List Nat)) (d : List Nat) : Nat := cnt (fun i => als s (dr L i) d n 0) L.length 0 0
theorem fitc_le (n s : Nat) (L : List (List Nat)) (d : List Nat) : fitc n s L d ≤ L.length := by
  have := cnt_le (fun i => als s (dr L i) d n 0) L.length 0 0
  unfold fitc; omega
theorem e_fitS {N n s : Nat} {L : List (List Nat)} {d : List Nat} {w : Wd} (hN : 1000 ≤ N) (hL : LOk n L) (h : RTC 0 L w) (hd : Pm n d) : f_X2_fitting N 0 (nI (cd d)) (nI (ppo s n 0 0)) w = some (nI (fitc n s L d), w) := by
  rw [e_fitting hN hL h (Pm_cd hd hL.1), cnt_congr L.length 0 0 (fun j _ hj => ftf_pap hL (by omega) hd)]; rfl
/-! the model's known -/
def alm (n : Nat) (L : List (List Nat)) (d : List Nat) (i : Nat) : Nat := opl (fun x => decide (dg (dr L i) x = dg d x)) n 0 0
def kn (n s : Nat) (L : List (List Nat)) (d : List Nat) : Nat → Nat → Nat → Nat
  | 0, _, a => a
  | m + 1, k, a => kn n s L d m (k + 1) (if als s (dr L k) d n 0 = true then a &&& alm n L d k else a)
theorem e_known_L2 {N n r s k : Nat} {x3 : Int32} {L : List (List Nat)} {d : List Nat} {w : Wd} (hL : LOk n L) (hT : RTS n L w) (hk : k < L.length) (hr : r < 6) (hm : gI w 510 0 = nI n) (hd : Pm n d) (hc : ∀ x, x < n → gA w 32 0 (40 * r + x) = nI (dg d x)) (hs : s < 64) : ∀ (m x A F : Nat) (b : Bool), x + m = n → m < F → X5_knownOf_L2 N (nI r) (nI s) x3 (nI k) F (nI (bn b)) (nI A) (nI x) w = some (nI (bn (b && als s (dr L k) d m x)), nI (opl (fun x => decide (dg (dr L k) x = dg d x)) m x A), w) := by
  have hn := hL.1
  intro m
  induction m with
  | zero =>
    intro x A F b hx hF
    obtain ⟨F, rfl, _⟩ := fuel_s hF
    rw [X5_knownOf_L2, hm, iT (nI_le (by omega) (by omega)), als, opl, Bool.and_true]
  | succ m ih =>
    intro x A F b hx hF
    obtain ⟨F, rfl, hF'⟩ := fuel_s hF
    have h1 := Pm_dg (LOk_at hL hk) (x := x) (by omega)
    have h2 := Pm_dg hd (x := x) (by omega)
    have i0 : ∀ A, X5_knownOf_L2 N (nI r) (nI s) x3 (nI k) F (nI 0) (nI A) (nI (x + 1)) w = some (nI (bn false), nI (opl (fun x => decide (dg (dr L k) x = dg d x)) m (x + 1) A), w) := fun A => by
      have := ih (x + 1) A F false (by omega) (by omega)
      rwa [Bool.false_and] at this
    have i1 : ∀ A, X5_knownOf_L2 N (nI r) (nI s) x3 (nI k) F (nI 1) (nI A) (nI (x + 1)) w = some (nI (bn (als s (dr L k) d m (x + 1))), nI (opl (fun x => decide (dg (dr L k) x = dg d x)) m (x + 1) A), w) := fun A => by
      have := ih (x + 1) A F true (by omega) (by omega)
      rwa [Bool.true_and] at this
    rw [X5_knownOf_L2, hm, iF (nI_ge (by omega) (by omega)), e_right hL hT hk (by omega)]
    unfold X5_knownOf_J67 X5_knownOf_J92 X5_knownOf_J88 X5_knownOf_J93
    simp only [bs, l0, l1, l2, l3, l4, l5, l6, l7, l8, l9, l10, l12, l15, l30, l31, l32, l40, l42, l48, l57, l60, l64, l98, l99, l100, l109, l110, l112, l115, l265, l1000, l518400, ngd]
    rw [e_rowAt hr (by omega), hc x (by omega), als, opl]
    simp only [bs, l0, l1, l2, l3, l4, l5, l6, l7, l8, l9, l10, l12, l15, l30, l31, l32, l40, l42, l48, l57, l60, l64, l98, l99, l100, l109, l110, l112, l115, l265, l1000, l518400, ngd, if_true, if_false, bn0, reduceCtorEq, n10, z1, z3, z0]
    rw [e_has (by omega) (by omega), shl1c (by omega), nx_or, nx_or, nI_add, Nat.or_zero]
    simp only [bs, l0, l1, l2, l3, l4, l5, l6, l7, l8, l9, l10, l12, l15, l30, l31, l32, l40, l42, l48, l57, l60, l64, l98, l99, l100, l109, l110, l112, l115, l265, l1000, l518400, ngd, if_true, if_false, bn0, reduceCtorEq, n10, z1, z3, z0]
    by_cases c : dg (dr L k) x = dg d x
    · rw [iT (by rw [c])]
      cases b with
      | false => rw [iT rfl, i0]; simp [c]
      | true =>
        rw [iF (by simp), i1]; simp [c]
    · rw [iF (fun q => c ((nI_eq (by omega) (by omega)).mp q))]
      cases b with
      | false => rw [iT rfl, i0]; simp [c]
      | true =>
        rw [iF (by simp)]
        cases e : s.testBit x with
        | false => rw [iT rfl, i1]; simp [c]
        | true => rw [iF (by simp), i0]; simp [c]
theorem e_known_L1 {N n r s : Nat} {L : List (List Nat)} {d : List Nat} (hN : 1000 ≤ N) (hL : LOk n L) (hr : r < 6) (hd : Pm n d) (hs : s < 64) : ∀ (m k A c F : Nat) (w : Wd), RTS n L w → gI w 510 0 = nI n → (∀ x, x < n → gA w 32 0 (40 * r + x) = nI (dg d x)) → gI w 530 0 = nI c → k + m = L.length → m < F → ∃ w', X5_knownOf_L1 N (nI r) (nI s) F (nI A) (nI k) w = some (nI (kn n s L d m k A), w') ∧ ag [530] w w' ∧ gI w' 530 0 = nI (cnt (fun i => als s (dr L i) d n 0) m k c) := by
  have hn := hL.1
  have hll := hL.2.1
  intro m
  induction m with
  | zero =>
    intro k A c F w hT hm hc h5 hk hF
    obtain ⟨F, rfl, _⟩ := fuel_s hF
    rw [X5_knownOf_L1, hT.1, iT (nI_le (by omega) (by omega))]
    exact ⟨w, rfl, ag.rf _ _, h5⟩
  | succ m ih =>
    intro k A c F w hT hm hc h5 hk hF
    obtain ⟨F, rfl, hF'⟩ := fuel_s hF
    rw [X5_knownOf_L1, hT.1, iF (nI_ge (by omega) (by omega)), show (1 : Int32) = nI (bn true) from rfl, show (0 : Int32) = nI 0 from rfl, e_known_L2 hL hT (by omega) hr hm hd hc hs n 0 0 N true (by omega) (by omega), Bool.true_and]
    unfold X5_knownOf_J134
    simp only [bs, l0, l1, l2, l3, l4, l5, l6, l7, l8, l9, l10, l12, l15, l30, l31, l32, l40, l42, l48, l57, l60, l64, l98, l99, l100, l109, l110, l112, l115, l265, l1000, l518400, ngd]
    rw [h5, show nI (bn true) = nI 1 from rfl, nI_add, nI_add, nI_add, nx_and, nx_and, Nat.and_self, kn]
    cases e : als s (dr L k) d n 0 with
    | false =>
      have g : ag [530] w (sI w 530 0 (nI c)) := (ag.rf _ w).sI (by simp)
      obtain ⟨w', e1, a1, a2⟩ := ih (k + 1) A c F _ (RTS_ag hT g) hm hc (by rw [gI_sI, if_pos ⟨rfl, rfl⟩]) (by omega) (by omega)
      rw [iT bnFc, iT bnFc, show nI (c + 0) = nI c from rfl, e1]
      exact ⟨w', by simp, g.tr a1, by rw [a2, cnt_f (f := fun i => als s (dr L i) d n 0) e]⟩
    | true =>
      have g : ag [530] w (sI w 530 0 (nI (c + 1))) := (ag.rf _ w).sI (by simp)
      obtain ⟨w', e1, a1, a2⟩ := ih (k + 1) (A &&& alm n L d k) (c + 1) F _ (RTS_ag hT g) hm hc (by rw [gI_sI, if_pos ⟨rfl, rfl⟩]) (by omega) (by omega)
      have e1' : X5_knownOf_L1 N (nI r) (nI s) F (nI (A &&& opl (fun x => decide (dg (dr L k) x = dg d x)) n 0 0)) (nI (k + 1)) (sI w 530 0 (nI (c + 1))) = _ := e1
      rw [iF bnTc, iF bnTc, e1']
      exact ⟨w', by simp, g.tr a1, by rw [a2, cnt_t (f := fun i => als s (dr L i) d n 0) e]⟩
def knf (n s : Nat) (L : List (List Nat)) (d : List Nat) : Nat := kn n s L d L.length 0 (2 ^ n - 1)
theorem e_knownOf {N n r s : Nat} {L : List (List Nat)} {d : List Nat} {w : Wd} (hN : 1000 ≤ N) (hL : LOk n L) (hr : r < 6) (hd : Pm n d) (hs : s < 64) (hT : RTS n L w) (hm : gI w 510 0 = nI n) (hc : ∀ x, x < n → gA w 32 0 (40 * r + x) = nI (dg d x)) : ∃ w', f_X5_knownOf N (nI r) (nI s) w = some (nI (knf n s L d), w') ∧ ag [530] w w' ∧ gI w' 530 0 = nI (fitc n s L d) := by
  have hn := hL.1
  have hll := hL.2.1
  have g : ag [530] w (sI w 530 0 (nI 0)) := (ag.rf _ w).sI (by simp)
  obtain ⟨w', e1, a1, a2⟩ := e_known_L1 (N := N) hN hL hr hd hs L.length 0 (2 ^ n - 1) 0 N _ (RTS_ag hT g) hm hc (by rw [gI_sI, if_pos ⟨rfl, rfl⟩]) (by omega) (by omega)
  unfold f_X5_knownOf
  simp only [bs, l0, l1, l2, l3, l4, l5, l6, l7, l8, l9, l10, l12, l15, l30, l31, l32, l40, l42, l48, l57, l60, l64, l98, l99, l100, l109, l110, l112, l115, l265, l1000, l518400, ngd]
  rw [show gI (sI w 530 0 (nI 0)) 510 0 = nI n from hm, shl1c (by omega), Nat.one_shiftLeft, pk_sub Nat.one_le_two_pow, e1]
  exact ⟨w', rfl, g.tr a1, a2⟩
