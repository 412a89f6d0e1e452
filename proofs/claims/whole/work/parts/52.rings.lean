/-! rings of a drawing, as both sides count them -/
def rgO (d : List Nat) : Nat → Nat → Nat → Nat
  | 0, s, _ => s
  | k + 1, s, y => rgO d k (s ||| 1 <<< y) (dg d y)
def rgC (d : List Nat) : Nat → Nat → Nat → Nat → Nat
  | 0, _, _, c => c
  | m + 1, x, s, c => if s.testBit x = true then rgC d m (x + 1) s c else rgC d m (x + 1) (s ||| rgO d 6 0 x) (c + 1)
def rgW (d : List Nat) : Nat → Nat → Nat → Option Nat
  | 0, _, _ => none
  | k + 1, s, a => if s.testBit a = true then some s else rgW d k (s ||| 1 <<< a) (dg d a)
def rgM (d : List Nat) : Nat → Nat → Nat → Nat → Option Nat
  | 0, _, _, c => some c
  | m + 1, x, s, c => (rgW d 8 s x).bind (fun s' => rgM d m (x + 1) s' (if s.testBit x = true then c else c + 1))
def rgL (d : List Nat) : Nat → Nat → Nat → Option Nat
  | 0, _, _ => none
  | k + 1, n, a => if a = 0 then some n else rgL d k (n + 1) (dg d a)
def pc (s : Nat) : Nat := s % 2 + s / 2 % 2 + s / 4 % 2 + s / 8 % 2 + s / 16 % 2 + s / 32 % 2
def rc (d : List Nat) : Nat := rgC d d.length 0 0 0
def rl (d : List Nat) : Nat := pc (rgO d 6 0 0)
/-- all drawings of n -/
def exl (n : Nat) : Nat → List Nat → List (List Nat)
  | 0, p => [p]
  | m + 1, p => (List.range n).flatMap (fun y => if y ∈ p then [] else exl n m (p ++ [y]))
theorem exl_mem {n : Nat} : ∀ (m : Nat) (p r : List Nat), r.length = m → (∀ y ∈ r, y < n) → (p ++ r).Nodup → p ++ r ∈ exl n m p := by
  intro m
  induction m with
  | zero => intro p r hl _ _; rw [List.length_eq_zero_iff.mp hl]; simp [exl]
  | succ m ih =>
    intro p r hl hr hn
    cases r with
    | nil => simp at hl
    | cons y t =>
      unfold exl
      rw [List.mem_flatMap]
      refine ⟨y, List.mem_range.mpr (hr y List.mem_cons_self), ?_⟩
      have hy : y ∉ p := by
        intro h
        rw [List.nodup_append] at hn
        exact hn.2.2 y h y List.mem_cons_self rfl
      rw [if_neg hy]
      have e : p ++ y :: t = (p ++ [y]) ++ t := by simp
      rw [e] at hn ⊢
      exact ih (p ++ [y]) t (by simpa using hl) (fun z hz => hr z (List.mem_cons_of_mem _ hz)) hn
theorem Pm_exl {n : Nat} {d : List Nat} (h : Pm n d) : d ∈ exl n n [] := by
  have := exl_mem n [] d h.1 h.2.1 (by simpa using h.2.2)
  simpa using this
set_option maxRecDepth 100000 in
theorem rg_all : ∀ n, n < 7 → ∀ d ∈ exl n n [], rgM d n 0 0 0 = some (rgC d n 0 0 0) ∧ (n ≠ 0 → rgL d 7 1 (dg d 0) = some (pc (rgO d 6 0 0))) := by decide +kernel
set_option maxRecDepth 100000 in
theorem rg_F_all : ∀ n, n < 7 → ∀ d ∈ exl n n [], decide (1 < rgC d n 0 0 0) = decide (0 < n ∧ pc (rgO d 6 0 0) < n) := by decide +kernel
/-- more rings than one: mate 0's ring is not all -/
theorem rg_F {n : Nat} {d : List Nat} (hn : n ≤ 6) (h : Pm n d) : 1 < rc d ↔ (0 < n ∧ rl d < n) := by
  have := rg_F_all n (by omega) d (Pm_exl h)
  unfold rc rl; rw [h.1]; exact decide_eq_decide.mp this
theorem rg_M {n : Nat} {d : List Nat} (hn : n ≤ 6) (h : Pm n d) : rgM d n 0 0 0 = some (rc d) := by
  have := (rg_all n (by omega) d (Pm_exl h)).1
  unfold rc; rw [h.1]; exact this
theorem rg_L {n : Nat} {d : List Nat} (hn : n ≤ 6) (h : Pm n d) (h0 : n ≠ 0) : rgL d 7 1 (dg d 0) = some (rl d) := (rg_all n (by omega) d (Pm_exl h)).2 h0
theorem or_lt64 {a b : Nat} (ha : a < 64) (hb : b < 64) : a ||| b < 64 := Nat.or_lt_two_pow (n := 6) ha hb
theorem shl_lt64 {y : Nat} (hy : y < 6) : 1 <<< y < 64 := by
  rw [Nat.one_shiftLeft]
  have h1 : (2 : Nat) ^ y ≤ 2 ^ 5 := Nat.pow_le_pow_right (by omega) (by omega)
  have h2 : (2 : Nat) ^ 5 = 32 := by decide
  omega
theorem rgO_lt {n : Nat} {d : List Nat} (hn : n ≤ 6) (h : Pm n d) : ∀ (k s y : Nat), s < 64 → y < n → rgO d k s y < 64 := by
  intro k
  induction k with
  | zero => intro s y hs _; exact hs
  | succ k ih => intro s y hs hy; exact ih _ _ (or_lt64 hs (shl_lt64 (by omega))) (Pm_dg h hy)
/-! the class counts -/
theorem e_ringOf_L {N n : Nat} {d : List Nat} {w : Wd} (hn : n ≤ 6) (h : Pm n d) : ∀ (m : Nat) (k s y : Nat) (F : Nat), k + m = 6 → m < F → s < 64 → y < n → ∃ z, X4_ringOf_L1 N (nI (cd d)) F (nI s) (nI y) (nI k) w = some (nI (rgO d m s y), z) ∧ z = w := by
  have hc := Pm_cd h hn
  intro m
  induction m with
  | zero =>
    intro k s y F hk hF hs hy
    obtain ⟨F, rfl, _⟩ := fuel_s hF
    rw [X4_ringOf_L1]
    simp (disch := omega) only [l0, l1, l2, l3, l4, l5, l6, l7, l8, l9, l10, l12, l15, l30, l31, l32, l40, l42, l48, l57, l60, l64, l98, l99, l100, l109, l110, l112, l115, l265, l1000, l518400, nI_leI, if_pos, rgO]
    exact ⟨w, rfl, rfl⟩
  | succ m ih =>
    intro k s y F hk hF hs hy
    obtain ⟨F, rfl, hF'⟩ := fuel_s hF
    rw [X4_ringOf_L1]
    have e := nx_1shl (s := y) (by omega)
    simp (disch := omega) only [l0, l1, l2, l3, l4, l5, l6, l7, l8, l9, l10, l12, l15, l30, l31, l32, l40, l42, l48, l57, l60, l64, l98, l99, l100, l109, l110, l112, l115, l265, l1000, l518400, nI_leI, if_neg] at e ⊢
    simp (disch := omega) only [e, e_paper, bs, nx_or, nI_add, rgO, Pm_pp h hn]
    exact ih (k + 1) _ _ F (by omega) (by omega) (or_lt64 hs (shl_lt64 (by omega))) (Pm_dg h hy)
theorem e_ringOf {N n x : Nat} {d : List Nat} {w : Wd} (hN : 1000 ≤ N) (hn : n ≤ 6) (h : Pm n d) (hx : x < n) : f_X4_ringOf N (nI (cd d)) (nI x) w = some (nI (rgO d 6 0 x), w) := by
  unfold f_X4_ringOf
  obtain ⟨z, e, rfl⟩ := e_ringOf_L (N := N) (w := w) hn h 6 0 0 x N (by omega) (by omega) (by omega) hx
  rw [l0, e]; rfl
theorem bit0 {s k : Nat} (hs : s < 2 ^ 31) (hk : k < 32) : ((nI s >>> (nI k &&& (31 : Int32))) &&& (1 : Int32) = 0) ↔ s.testBit k = false := by
  rw [nx_shr hs hk, l0, l1, nx_and, Nat.testBit_eq_decide_div_mod_eq, Nat.and_one_is_mod, Nat.shiftRight_eq_div_pow, nI_eq (by omega) (by omega)]
  simp
theorem bit0t {s k : Nat} (hs : s < 2 ^ 31) (hk : k < 32) (h : s.testBit k = true) : ¬ ((nI s >>> (nI k &&& (31 : Int32))) &&& (1 : Int32) = 0) := fun e => by
  rw [(bit0 hs hk).mp e] at h; cases h
theorem e_ringCount_L {N n : Nat} {d : List Nat} {w : Wd} (hN : 1000 ≤ N) (hn : n ≤ 6) (h : Pm n d) : ∀ (m : Nat) (x s c : Nat) (F : Nat), x + m = n → m < F → s < 64 → X4_ringCount_L1 N (nI (cd d)) (nI n) F (nI s) (nI c) (nI x) w = some (nI (rgC d m x s c), w) := by
  have hc := Pm_cd h hn
  intro m
  induction m with
  | zero =>
    intro x s c F hk hF hs
    obtain ⟨F, rfl, _⟩ := fuel_s hF
    rw [X4_ringCount_L1]
    simp (disch := omega) only [nI_leI, if_pos, rgC]
  | succ m ih =>
    intro x s c F hk hF hs
    obtain ⟨F, rfl, hF'⟩ := fuel_s hF
    rw [X4_ringCount_L1, if_neg (nI_ge (by omega) (by omega)), rgC]
    cases e : s.testBit x with
    | false =>
      rw [if_pos ((bit0 (by omega) (by omega)).mpr e), if_neg (by simp), e_ringOf hN hn h (by omega), bs, nx_or, nI_add1, nI_add1]
      exact ih (x + 1) _ (c + 1) F (by omega) (by omega) (or_lt64 hs (rgO_lt hn h 6 0 x (by omega) (by omega)))
    | true =>
      rw [if_neg (bit0t (by omega) (by omega) e), if_pos rfl, nI_add1]
      exact ih (x + 1) s c F (by omega) (by omega) hs
theorem e_ringCount {N n : Nat} {d : List Nat} {w : Wd} (hN : 1000 ≤ N) (hn : n ≤ 6) (h : Pm n d) : f_X4_ringCount N (nI (cd d)) (nI n) w = some (nI (rc d), w) := by
  unfold f_X4_ringCount
  rw [l0, e_ringCount_L hN hn h n 0 0 0 N (by omega) (by omega) (by omega), bs]
  unfold rc; rw [h.1]
theorem bnT : ¬ nI (bn true) = (0 : Int32) := by decide
theorem bnF : nI (bn false) = (0 : Int32) := rfl
/-! the model counts -/
def One (n : Nat) (d : List Nat) (w : Wd) : Prop := ∀ x, x < n → gA w 40 0 x = nI (dg d x)
theorem e_ringsOf_W {N n : Nat} {d : List Nat} {w : Wd} {c x : Int32} (hn : n ≤ 6) (h : Pm n d) (ho : One n d w) : ∀ (k s a s' : Nat) (F : Nat), rgW d k s a = some s' → k < F → s < 64 → a < n → X5_ringsOf_L2 N c x F (nI s) (nI a) w = some (nI s', w) ∧ s' < 64 := by
  intro k
  induction k with
  | zero => intro s a s' F e; cases e
  | succ k ih =>
    intro s a s' F e hF hs ha
    obtain ⟨F, rfl, hF'⟩ := fuel_s hF
    rw [X5_ringsOf_L2, e_has (by omega) (by omega), bs]
    rw [rgW] at e
    cases c1 : s.testBit a with
    | true =>
      rw [c1, if_pos rfl] at e
      obtain rfl := Option.some.inj e
      exact ⟨by rw [if_neg bnT], hs⟩
    | false =>
      rw [c1, if_neg (by simp)] at e
      have hb := Pm_dg h ha
      rw [if_pos bnF, gd_in (by omega) (by omega), nx_1shl (by omega), nx_or, nI_clamp (by omega), ho a ha]
      exact ih _ _ s' F e (by omega) (or_lt64 hs (shl_lt64 (by omega))) hb
theorem e_ringsOf_L {N n : Nat} {d : List Nat} {w : Wd} (hN : 1000 ≤ N) (hn : n ≤ 6) (h : Pm n d) (ho : One n d w) (hm : gI w 510 0 = nI n) : ∀ (m : Nat) (x s c r : Nat) (F : Nat), rgM d m x s c = some r → x + m = n → m < F → s < 64 → X5_ringsOf_L1 N F (nI s) (nI c) (nI x) w = some (nI r, w) := by
  intro m
  induction m with
  | zero =>
    intro x s c r F e hk hF hs
    obtain ⟨F, rfl, _⟩ := fuel_s hF
    obtain rfl := Option.some.inj e
    rw [X5_ringsOf_L1, hm, if_pos (nI_le (by omega) (by omega))]
  | succ m ih =>
    intro x s c r F e hk hF hs
    obtain ⟨F, rfl, hF'⟩ := fuel_s hF
    rw [rgM] at e
    obtain ⟨s', e1, e2⟩ := bd_some e
    rw [X5_ringsOf_L1, hm, if_neg (nI_ge (by omega) (by omega)), e_has (by omega) (by omega), bs]
    unfold X5_ringsOf_J28
    cases c1 : s.testBit x with
    | true =>
      rw [c1, if_pos rfl] at e2
      obtain ⟨z1, z2⟩ := e_ringsOf_W (N := N) (c := nI c + 0) (x := nI x) hn h ho 8 s x s' N e1 (by omega) hs (by omega)
      rw [if_neg bnT, z1, bs, l0, l1, nI_add, nI_add]
      exact ih (x + 1) s' c r F e2 (by omega) (by omega) z2
    | false =>
      rw [c1, if_neg (by simp)] at e2
      obtain ⟨z1, z2⟩ := e_ringsOf_W (N := N) (c := nI c + 1) (x := nI x) hn h ho 8 s x s' N e1 (by omega) hs (by omega)
      rw [if_pos bnF, z1, bs, l1, nI_add, nI_add]
      exact ih (x + 1) s' (c + 1) r F e2 (by omega) (by omega) z2
theorem e_ringsOf {N n : Nat} {d : List Nat} {w : Wd} (hN : 1000 ≤ N) (hn : n ≤ 6) (h : Pm n d) (ho : One n d w) (hm : gI w 510 0 = nI n) : f_X5_ringsOf N w = some (nI (rc d), w) := by
  unfold f_X5_ringsOf
  rw [l0, e_ringsOf_L hN hn h ho hm n 0 0 0 (rc d) N (rg_M hn h) (by omega) (by omega) (by omega), bs]
theorem e_mringOf_L {N n : Nat} {d : List Nat} {w : Wd} (hn : n ≤ 6) (h : Pm n d) (ho : One n d w) : ∀ (k c a r : Nat) (F : Nat), rgL d k c a = some r → k < F → a < n → X5_ringOf_L1 N (nI 0) F (nI c) (nI a) w = some (nI r, w) := by
  intro k
  induction k with
  | zero => intro c a r F e; cases e
  | succ k ih =>
    intro c a r F e hF ha
    obtain ⟨F, rfl, hF'⟩ := fuel_s hF
    rw [X5_ringOf_L1]
    rw [rgL] at e
    by_cases c1 : a = 0
    · subst c1
      rw [if_pos rfl] at e
      obtain rfl := Option.some.inj e
      rw [if_pos rfl]
    · rw [if_neg c1] at e
      rw [if_neg (fun q => c1 ((nI_eq (by omega) (by omega)).mp q)), gd_in (by omega) (by omega), nI_clamp (by omega), ho a ha, nI_add1]
      exact ih (c + 1) _ r F e (by omega) (Pm_dg h ha)
theorem e_mringOf {N n : Nat} {d : List Nat} {w : Wd} (hN : 1000 ≤ N) (hn : n ≤ 6) (h : Pm n d) (h0 : n ≠ 0) (ho : One n d w) : f_X5_ringOf N (nI 0) w = some (nI (rl d), w) := by
  unfold f_X5_ringOf
  rw [gd_in (by omega) (by omega), nI_clamp (by omega), ho 0 (by omega), l1, e_mringOf_L hn h ho 7 1 _ (rl d) N (rg_L hn h h0) (by omega) (Pm_dg h (by omega)), bs]
/-! bits counted -/
theorem bc_all : ∀ s, s < 64 → ∀ (w : Wd), f_J6_bitCount_0f7a4 0 (nI s) w = some (nI (pc s), w) := by
  intro s hs w
  unfold f_J6_bitCount_0f7a4
  refine congrArg some (Prod.ext ?_ rfl)
  revert s
  dsimp only
  decide +kernel
theorem e_bitCount {N s : Nat} {w : Wd} (hs : s < 64) : f_J6_bitCount_0f7a4 N (nI s) w = some (nI (pc s), w) := bc_all s hs w
theorem bitv {s k : Nat} (hs : s < 2 ^ 31) (hk : k < 32) : ((nI s >>> (nI k &&& (31 : Int32))) &&& (1 : Int32)) = nI (s / 2 ^ k % 2) := by
  rw [nx_shr hs hk, l1, nx_and, Nat.and_one_is_mod, Nat.shiftRight_eq_div_pow]
theorem e_sizeOf_L {N s : Nat} {w : Wd} (hs : s < 64) : ∀ (m k c : Nat) (F : Nat), k + m = 10 → m < F → X5_sizeOf_L1 N (nI s) F (nI c) (nI k) w = some (nI (c + ((List.range' k m).map (fun j => s / 2 ^ j % 2)).sum), w) := by
  intro m
  induction m with
  | zero =>
    intro k c F hk hF
    obtain ⟨F, rfl, _⟩ := fuel_s hF
    rw [X5_sizeOf_L1, l10, if_pos (nI_le (by omega) (by omega))]
    simp
  | succ m ih =>
    intro k c F hk hF
    obtain ⟨F, rfl, hF'⟩ := fuel_s hF
    rw [X5_sizeOf_L1, l10, if_neg (nI_ge (by omega) (by omega)), bitv (by omega) (by omega), nI_add, nI_add1, ih (k + 1) _ F (by omega) (by omega)]
    rw [List.range'_succ]
    simp [Nat.add_assoc]
theorem pc_sum : ∀ s, s < 64 → ((List.range' 0 10).map (fun j => s / 2 ^ j % 2)).sum = pc s := by decide +kernel
theorem e_sizeOf {N s : Nat} {w : Wd} (hN : 1000 ≤ N) (hs : s < 64) : f_X5_sizeOf N (nI s) w = some (nI (pc s), w) := by
  unfold f_X5_sizeOf
  rw [l0, e_sizeOf_L hs 10 0 0 N (by omega) (by omega), pc_sum s hs, Nat.zero_add, bs]
theorem rgC_le (d : List Nat) : ∀ (m x s c : Nat), rgC d m x s c ≤ c + m := by
  intro m
  induction m with
  | zero => intro x s c; exact Nat.le_refl _
  | succ m ih =>
    intro x s c
    unfold rgC
    split
    · have := ih (x + 1) s c; omega
    · have := ih (x + 1) (s ||| rgO d 6 0 x) (c + 1); omega
theorem rc_le {n : Nat} {d : List Nat} (hn : n ≤ 6) (h : Pm n d) : rc d ≤ 6 := by
  have := rgC_le d d.length 0 0 0
  unfold rc; rw [h.1] at *; omega
/-! in the forms that stand when all constants are nI -/
theorem bnTc : ¬ nI (bn true) = nI 0 := bnT
theorem bnFc : nI (bn false) = nI 0 := rfl
theorem bit0c {s k : Nat} (hs : s < 2 ^ 31) (hk : k < 32) : ((nI s >>> (nI k &&& nI 31)) &&& nI 1 = nI 0) = (s.testBit k = false) := propext (bit0 hs hk)
theorem shl1c {s : Nat} (hs : s < 31) : nI 1 <<< (nI s &&& nI 31) = nI (1 <<< s) := nx_1shl hs
theorem tb_lt {s n : Nat} (h : ∀ k, n ≤ k → s.testBit k = false) : s < 2 ^ n := Nat.lt_pow_two_of_testBit s h
