/-! what stands in the list -/
theorem gl_mem {F : Nat → List (List Nat)} {d : List Nat} : ∀ (m k : Nat), d ∈ gl F m k → ∃ y, k ≤ y ∧ y < k + m ∧ d ∈ F y := by
  intro m
  induction m with
  | zero => intro k h; cases h
  | succ m ih =>
    intro k h
    rw [gl] at h
    rcases List.mem_append.mp h with q | q
    · exact ⟨k, by omega, by omega, q⟩
    · obtain ⟨y, a, b, c⟩ := ih (k + 1) q
      exact ⟨y, by omega, by omega, c⟩
theorem gen_Pm {o : Of} : ∀ (m : Nat) (p : List Nat), p.length + m = oN o → (∀ y ∈ p, y < oN o) → p.Nodup → ∀ d ∈ gen o m p, Pm (oN o) d ∧ rt o d = true ∧ ∃ q, d = p ++ q := by
  intro m
  induction m with
  | zero =>
    intro p hl h1 h2 d hd
    unfold gen at hd
    by_cases c : rt o p = true
    · rw [if_pos c, List.mem_singleton] at hd
      subst hd
      exact ⟨⟨by omega, h1, h2⟩, c, [], by simp⟩
    · rw [if_neg c] at hd; cases hd
  | succ m ih =>
    intro p hl h1 h2 d hd
    unfold gen at hd
    obtain ⟨y, a, b, hd⟩ := gl_mem _ _ hd
    by_cases c : y ∈ p ∨ ¬ bar o p.length y = 0
    · rw [if_pos c] at hd; cases hd
    · rw [if_neg c] at hd
      have c3 : y ∉ p := fun q => c (Or.inl q)
      obtain ⟨q1, q2, q, q3⟩ := ih (p ++ [y]) (by rw [List.length_append, List.length_singleton]; omega) (mem_snoc h1 (by omega)) (by
        rw [List.nodup_append]
        refine ⟨h2, by simp, fun a ha b hb e => ?_⟩
        rw [List.mem_singleton.mp hb] at e
        rw [e] at ha
        exact c3 ha) d hd
      exact ⟨q1, q2, y :: q, by rw [q3]; simp⟩
theorem rights_Pm {o : Of} {d : List Nat} (h : d ∈ rights o) : Pm (oN o) d := (gen_Pm (oN o) [] (by simp) (by simp) (by simp) d h).1
theorem rights_at {o : Of} {k : Nat} (h : k < (rights o).length) : Pm (oN o) (dr (rights o) k) := rights_Pm (dr_mem h)
/-! codes that fit -/
def ftf (L : List (List Nat)) (e M i : Nat) : Bool := decide ((cd (dr L i) ^^^ e) &&& M = 0)
def fst (f : Nat → Bool) : Nat → Nat → Option Nat
  | 0, _ => none
  | m + 1, k => if f k = true then some k else fst f m (k + 1)
theorem fst_congr {f g : Nat → Bool} : ∀ (m k : Nat), (∀ j, k ≤ j → j < k + m → f j = g j) → fst f m k = fst g m k := by
  intro m
  induction m with
  | zero => intro k _; rfl
  | succ m ih => intro k h; rw [fst, fst, h k (by omega) (by omega), ih (k + 1) (fun j a b => h j (by omega) (by omega))]
theorem fst_some {f : Nat → Bool} : ∀ (m k j : Nat), fst f m k = some j → k ≤ j ∧ j < k + m ∧ f j = true ∧ ∀ i, k ≤ i → i < j → f i = false := by
  intro m
  induction m with
  | zero => intro k j e; cases e
  | succ m ih =>
    intro k j e
    rw [fst] at e
    by_cases c : f k = true
    · rw [if_pos c] at e
      obtain rfl := Option.some.inj e
      exact ⟨by omega, by omega, c, fun i a b => by omega⟩
    · rw [if_neg c] at e
      obtain ⟨a1, a2, a3, a4⟩ := ih (k + 1) j e
      refine ⟨by omega, by omega, a3, fun i b1 b2 => ?_⟩
      rcases Nat.eq_or_lt_of_le b1 with q | q
      · rw [← q]; cases e : f k with
        | false => rfl
        | true => exact absurd e c
      · exact a4 i (by omega) b2
theorem fst_none {f : Nat → Bool} : ∀ (m k : Nat), fst f m k = none → ∀ i, k ≤ i → i < k + m → f i = false := by
  intro m
  induction m with
  | zero => intro k _ i a b; omega
  | succ m ih =>
    intro k e i a b
    rw [fst] at e
    by_cases c : f k = true
    · rw [if_pos c] at e; cases e
    · rw [if_neg c] at e
      rcases Nat.eq_or_lt_of_le a with q | q
      · rw [← q]; cases e : f k with
        | false => rfl
        | true => exact absurd e c
      · exact ih (k + 1) e i (by omega) (by omega)
theorem xor_lt {a b : Nat} (ha : a < 262144) (hb : b < 262144) : a ^^^ b < 262144 := Nat.xor_lt_two_pow (n := 18) ha hb
/-- a list of at most 265 drawings of n -/
def LOk (n : Nat) (L : List (List Nat)) : Prop := n ≤ 6 ∧ L.length ≤ 265 ∧ ∀ d ∈ L, Pm n d
theorem LOk_at {n k : Nat} {L : List (List Nat)} (h : LOk n L) (hk : k < L.length) : Pm n (dr L k) := h.2.2 _ (dr_mem hk)
theorem LOk_r {o : Of} (hf : Wf o) : LOk (oN o) (rights o) := ⟨hf.1, rights_len hf, fun _ h => rights_Pm h⟩
theorem e_fitsAt {N i n e M k : Nat} {L : List (List Nat)} {w : Wd} (hL : LOk n L) (h : RTC i L w) (hk : k < L.length) (he : e < 262144) : f_X2_fitsAt N i (nI k) (nI e) (nI M) w = some (nI (bn (ftf L e M k)), w) := by
  have hn := hL.1
  have hl := hL.2.1
  have hcd := Pm_cd (LOk_at hL hk) hn
  have hx := xor_lt hcd he
  have hand : (cd (dr L k) ^^^ e) &&& M < 2 ^ 31 := Nat.lt_of_le_of_lt Nat.and_le_left (by omega)
  unfold f_X2_fitsAt ftf
  simp only [bs, l0, l1, l2, l3, l4, l5, l6, l7, l8, l9, l10, l12, l15, l30, l31, l32, l40, l42, l48, l57, l60, l64, l98, l99, l100, l109, l110, l112, l115, l265, l1000, l518400, ngd]
  rw [gd_in (by omega) (by omega), nI_clamp (by omega), h.2 k hk, nx_xor, nx_and]
  by_cases c : (cd (dr L k) ^^^ e) &&& M = 0
  · rw [iT (by rw [c])]; simp [c, bn]
  · rw [iF (fun q => c ((nI_eq hand (by omega)).mp q))]; simp [c, bn]
theorem e_fitting_L {N i n e M : Nat} {L : List (List Nat)} {w : Wd} (hL : LOk n L) (h : RTC i L w) (he : e < 262144) : ∀ (m k c F : Nat), k + m = L.length → m < F → X2_fitting_L1 N i (nI e) (nI M) F (nI c) (nI k) w = some (nI (cnt (ftf L e M) m k c), w) := by
  have hl := hL.2.1
  intro m
  induction m with
  | zero =>
    intro k c F hk hF
    obtain ⟨F, rfl, _⟩ := fuel_s hF
    rw [X2_fitting_L1, h.1, iT (nI_le (by omega) (by omega)), cnt]
  | succ m ih =>
    intro k c F hk hF
    obtain ⟨F, rfl, hF'⟩ := fuel_s hF
    rw [X2_fitting_L1, h.1, iF (nI_ge (by omega) (by omega)), e_fitsAt hL h (by omega) he]
    simp only [bs, l0, l1, l2, l3, l4, l5, l6, l7, l8, l9, l10, l12, l15, l30, l31, l32, l40, l42, l48, l57, l60, l64, l98, l99, l100, l109, l110, l112, l115, l265, l1000, l518400, ngd]
    cases q : ftf L e M k with
    | false => rw [iT bnFc, nI_add, ih (k + 1) _ F (by omega) (by omega), cnt_f q]
    | true => rw [iF bnTc, nI_add, nI_add, ih (k + 1) _ F (by omega) (by omega), cnt_t q]
theorem e_fitting {N i n e M : Nat} {L : List (List Nat)} {w : Wd} (hN : 1000 ≤ N) (hL : LOk n L) (h : RTC i L w) (he : e < 262144) : f_X2_fitting N i (nI e) (nI M) w = some (nI (cnt (ftf L e M) L.length 0 0), w) := by
  have hl := hL.2.1
  unfold f_X2_fitting
  simp only [bs, l0, l1, l2, l3, l4, l5, l6, l7, l8, l9, l10, l12, l15, l30, l31, l32, l40, l42, l48, l57, l60, l64, l98, l99, l100, l109, l110, l112, l115, l265, l1000, l518400, ngd]
  rw [e_fitting_L hL h he L.length 0 0 N (by omega) (by omega)]; simp only [bs, l0, l1, l2, l3, l4, l5, l6, l7, l8, l9, l10, l12, l15, l30, l31, l32, l40, l42, l48, l57, l60, l64, l98, l99, l100, l109, l110, l112, l115, l265, l1000, l518400, ngd]
def oi (x : Option Nat) : Int32 := match x with | some k => nI k | none => ng 9
theorem e_placeOf_L {N i n e M : Nat} {L : List (List Nat)} {w : Wd} (hL : LOk n L) (h : RTC i L w) (he : e < 262144) : ∀ (m k F : Nat), k + m = L.length → m < F → X2_placeOf_L1 N i (nI e) (nI M) F (nI k) w = some (match fst (ftf L e M) m k with | some j => .inl (nI j, w) | none => .inr w) := by
  have hl := hL.2.1
  intro m
  induction m with
  | zero =>
    intro k F hk hF
    obtain ⟨F, rfl, _⟩ := fuel_s hF
    rw [X2_placeOf_L1, h.1, iT (nI_le (by omega) (by omega)), fst]
  | succ m ih =>
    intro k F hk hF
    obtain ⟨F, rfl, hF'⟩ := fuel_s hF
    rw [X2_placeOf_L1, h.1, iF (nI_ge (by omega) (by omega)), e_fitsAt hL h (by omega) he, fst]
    simp only [bs, l0, l1, l2, l3, l4, l5, l6, l7, l8, l9, l10, l12, l15, l30, l31, l32, l40, l42, l48, l57, l60, l64, l98, l99, l100, l109, l110, l112, l115, l265, l1000, l518400, ngd]
    cases q : ftf L e M k with
    | false => rw [iT bnFc, nI_add, ih (k + 1) F (by omega) (by omega), if_neg (by simp)]
    | true => rw [iF bnTc, if_pos rfl]
theorem e_placeOf {N i n e M : Nat} {L : List (List Nat)} {w : Wd} (hN : 1000 ≤ N) (hL : LOk n L) (h : RTC i L w) (he : e < 262144) : f_X2_placeOf N i (nI e) (nI M) w = some (oi (fst (ftf L e M) L.length 0), w) := by
  have hl := hL.2.1
  unfold f_X2_placeOf
  simp only [bs, l0, l1, l2, l3, l4, l5, l6, l7, l8, l9, l10, l12, l15, l30, l31, l32, l40, l42, l48, l57, l60, l64, l98, l99, l100, l109, l110, l112, l115, l265, l1000, l518400, ngd]
  rw [e_placeOf_L hL h he L.length 0 N (by omega) (by omega)]
  cases fst (ftf L e M) L.length 0 <;> rfl
theorem and_all {a : Nat} (h : a < 262144) : a &&& 4294967295 = a := by
  rw [show (4294967295 : Nat) = 2 ^ 32 - 1 from rfl, Nat.and_two_pow_sub_one_eq_mod]
  exact Nat.mod_eq_of_lt (by omega)
theorem xor_0 {a b : Nat} : a ^^^ b = 0 ↔ a = b := by
  constructor
  · intro h
    apply Nat.eq_of_testBit_eq
    intro i
    have := congrArg (fun z => z.testBit i) h
    simp only [Nat.testBit_xor, Nat.zero_testBit] at this
    cases e1 : a.testBit i <;> cases e2 : b.testBit i <;> simp [e1, e2] at this ⊢
  · intro h; rw [h]; exact Nat.xor_self _
theorem ng1n : ng 1 = nI 4294967295 := by decide
/-- the whole drawing -/
theorem ftf_all {n k : Nat} {L : List (List Nat)} {d : List Nat} (hL : LOk n L) (hk : k < L.length) (hd : Pm n d) : ftf L (cd d) 4294967295 k = decide (dr L k = d) := by
  have hn := hL.1
  have hp := LOk_at hL hk
  unfold ftf
  rw [and_all (xor_lt (Pm_cd hp hn) (Pm_cd hd hn))]
  refine decide_eq_decide.mpr ⟨fun h => ?_, fun h => by rw [h]; exact Nat.xor_self _⟩
  exact cd_inj _ _ (hp.1.trans hd.1.symm) (Pm8 hp hn) (Pm8 hd hn) (xor_0.mp h)
/-- its beginning -/
theorem ftf_take {n k : Nat} {L : List (List Nat)} {H : List Nat} (hL : LOk n L) (hk : k < L.length) (hH : ∀ y ∈ H, y < n) (hl : H.length ≤ n) : ftf L (cd H) (8 ^ H.length - 1) k = decide ((dr L k).take H.length = H) := by
  have hn := hL.1
  have hp := LOk_at hL hk
  have h8 : ∀ y ∈ H, y < 8 := fun y hy => by have := hH y hy; omega
  have hpw : (8 : Nat) ^ H.length = 2 ^ (3 * H.length) := by rw [show (8 : Nat) = 2 ^ 3 from rfl, ← Nat.pow_mul]
  unfold ftf
  rw [hpw, Nat.and_two_pow_sub_one_eq_mod]
  have e1 : (cd (dr L k) ^^^ cd H) % 2 ^ (3 * H.length) = cd ((dr L k).take H.length) ^^^ cd H := by
    rw [Nat.xor_mod_two_pow, ← hpw, cd_take _ _ (Pm8 hp hn), cd_take _ _ h8, List.take_length]
  rw [e1]
  refine decide_eq_decide.mpr ⟨fun h => ?_, fun h => by rw [h]; exact Nat.xor_self _⟩
  refine cd_inj _ _ ?_ (fun y hy => Pm8 hp hn y (List.mem_of_mem_take hy)) h8 (xor_0.mp h)
  rw [List.length_take, hp.1]; omega
/-! the model's list read -/
theorem e_right {N n k x : Nat} {L : List (List Nat)} {w : Wd} (hL : LOk n L) (h : RTS n L w) (hk : k < L.length) (hx : x < n) : f_X5_right N (nI k) (nI x) w = some (nI (dg (dr L k) x), w) := by
  have hn := hL.1
  have hl := hL.2.1
  unfold f_X5_right
  simp only [bs, l0, l1, l2, l3, l4, l5, l6, l7, l8, l9, l10, l12, l15, l30, l31, l32, l40, l42, l48, l57, l60, l64, l98, l99, l100, l109, l110, l112, l115, l265, l1000, l518400, ngd]
  rw [pk_mul, nI_add, gd_in (by omega) (by omega), nI_clamp (by omega), h.2 k hk x hx]
/-- alike from k on, m places -/
def alk (a b : List Nat) : Nat → Nat → Bool
  | 0, _ => true
  | m + 1, k => decide (dg a k = dg b k) && alk a b m (k + 1)
theorem alk_iff {a b : List Nat} : ∀ (m k : Nat), alk a b m k = true ↔ ∀ x, k ≤ x → x < k + m → dg a x = dg b x := by
  intro m
  induction m with
  | zero => intro k; exact ⟨fun _ x h1 h2 => by omega, fun _ => rfl⟩
  | succ m ih =>
    intro k
    rw [alk, Bool.and_eq_true, ih, decide_eq_true_eq]
    constructor
    · rintro ⟨h1, h2⟩ x a b
      rcases Nat.eq_or_lt_of_le a with q | q
      · rw [← q]; exact h1
      · exact h2 x (by omega) (by omega)
    · intro h; exact ⟨h k (by omega) (by omega), fun x a b => h x (by omega) (by omega)⟩
theorem alk_eq {n : Nat} {a b : List Nat} (ha : a.length = n) (hb : b.length = n) : alk a b n 0 = decide (a = b) := by
  rw [Bool.eq_iff_iff, decide_eq_true_eq, alk_iff]
  exact ⟨fun h => dg_ext (ha.trans hb.symm) (fun x hx => h x (by omega) (by omega)), fun h x _ _ => by rw [h]⟩
theorem alk_take {n : Nat} {a b : List Nat} (ha : a.length = n) (hb : b.length ≤ n) : alk a b b.length 0 = decide (a.take b.length = b) := by
  rw [Bool.eq_iff_iff, decide_eq_true_eq, alk_iff]
  constructor
  · intro h
    refine dg_ext (by rw [List.length_take]; omega) (fun x hx => ?_)
    rw [List.length_take] at hx
    rw [dg_take (by omega)]; exact h x (by omega) (by omega)
  · intro h x _ hx
    rw [← dg_take (d := a) (n := b.length) (by omega), h]
theorem e_begins_L {N n k l : Nat} {L : List (List Nat)} {H : List Nat} {w : Wd} (hL : LOk n L) (h : RTS n L w) (hk : k < L.length) (hl : l ≤ n) (hH : ∀ x, x < l → gA w 42 0 x = nI (dg H x)) (hb : ∀ x, x < l → dg H x < n) : ∀ (m x F : Nat) (b : Bool), x + m = l → m < F → X5_begins_L1 N (nI k) (nI l) F (nI (bn b)) (nI x) w = some (nI (bn (b && alk (dr L k) H m x)), w) := by
  have hn := hL.1
  intro m
  induction m with
  | zero =>
    intro x F b hx hF
    obtain ⟨F, rfl, _⟩ := fuel_s hF
    rw [X5_begins_L1, iT (nI_le (by omega) (by omega)), alk, Bool.and_true]
  | succ m ih =>
    intro x F b hx hF
    obtain ⟨F, rfl, hF'⟩ := fuel_s hF
    have h1 := Pm_dg (LOk_at hL hk) (x := x) (by omega)
    have h2 := hb x (by omega)
    rw [X5_begins_L1, iF (nI_ge (by omega) (by omega)), e_right hL h hk (by omega), alk]
    simp only [bs, l0, l1, l2, l3, l4, l5, l6, l7, l8, l9, l10, l12, l15, l30, l31, l32, l40, l42, l48, l57, l60, l64, l98, l99, l100, l109, l110, l112, l115, l265, l1000, l518400, ngd]
    cases b with
    | false =>
      rw [iT bnFc, nI_add, show nI 0 = nI (bn false) from rfl, ih (x + 1) F false (by omega) (by omega)]; simp
    | true =>
      rw [iF bnTc, gd_in (by omega) (by omega), nI_clamp (by omega), hH x (by omega)]
      by_cases c : dg (dr L k) x = dg H x
      · rw [iT (by rw [c]), nI_add, show nI 1 = nI (bn true) from rfl, ih (x + 1) F true (by omega) (by omega)]; simp [c]
      · rw [iF (fun q => c ((nI_eq (by omega) (by omega)).mp q)), nI_add, show nI 0 = nI (bn false) from rfl, ih (x + 1) F false (by omega) (by omega)]; simp [c]
theorem e_begins {N n k l : Nat} {L : List (List Nat)} {H : List Nat} {w : Wd} (hN : 1000 ≤ N) (hL : LOk n L) (h : RTS n L w) (hk : k < L.length) (hl : l ≤ n) (hH : ∀ x, x < l → gA w 42 0 x = nI (dg H x)) (hb : ∀ x, x < l → dg H x < n) : f_X5_begins N (nI k) (nI l) w = some (nI (bn (alk (dr L k) H l 0)), w) := by
  have hn := hL.1
  unfold f_X5_begins
  simp only [bs, l0, l1, l2, l3, l4, l5, l6, l7, l8, l9, l10, l12, l15, l30, l31, l32, l40, l42, l48, l57, l60, l64, l98, l99, l100, l109, l110, l112, l115, l265, l1000, l518400, ngd]
  rw [show nI 1 = nI (bn true) from rfl, show nI 0 = nI (bn false) from rfl, show X5_begins_L1 N (nI k) (nI l) N (nI (bn true)) (nI (bn false)) w = some (nI (bn (true && alk (dr L k) H l 0)), w) from e_begins_L hL h hk hl hH hb l 0 N true (by omega) (by omega)]
  simp only [bs, Bool.true_and]
  exact gd_t (by cases alk (dr L k) H l 0 <;> decide)
theorem e_number_L2 {N n r k : Nat} {L : List (List Nat)} {d : List Nat} {w : Wd} (hL : LOk n L) (h : RTS n L w) (hk : k < L.length) (hr : r < 6) (hm : gI w 510 0 = nI n) (hd : Pm n d) (hc : ∀ x, x < n → gA w 32 0 (40 * r + x) = nI (dg d x)) : ∀ (m x F : Nat) (b : Bool), x + m = n → m < F → X5_numberOf_L2 N (nI r) (nI k) F (nI (bn b)) (nI x) w = some (nI (bn (b && alk (dr L k) d m x)), w) := by
  have hn := hL.1
  intro m
  induction m with
  | zero =>
    intro x F b hx hF
    obtain ⟨F, rfl, _⟩ := fuel_s hF
    rw [X5_numberOf_L2, hm, iT (nI_le (by omega) (by omega)), alk, Bool.and_true]
  | succ m ih =>
    intro x F b hx hF
    obtain ⟨F, rfl, hF'⟩ := fuel_s hF
    have h1 := Pm_dg (LOk_at hL hk) (x := x) (by omega)
    have h2 := Pm_dg hd (x := x) (by omega)
    rw [X5_numberOf_L2, hm, iF (nI_ge (by omega) (by omega)), e_right hL h hk (by omega), alk]
    simp only [bs, l0, l1, l2, l3, l4, l5, l6, l7, l8, l9, l10, l12, l15, l30, l31, l32, l40, l42, l48, l57, l60, l64, l98, l99, l100, l109, l110, l112, l115, l265, l1000, l518400, ngd]
    cases b with
    | false =>
      rw [iT bnFc, nI_add, show nI 0 = nI (bn false) from rfl, ih (x + 1) F false (by omega) (by omega)]; simp
    | true =>
      rw [iF bnTc, e_rowAt hr (by omega), hc x (by omega)]
      simp only [bs, l0, l1, l2, l3, l4, l5, l6, l7, l8, l9, l10, l12, l15, l30, l31, l32, l40, l42, l48, l57, l60, l64, l98, l99, l100, l109, l110, l112, l115, l265, l1000, l518400, ngd]
      by_cases c : dg (dr L k) x = dg d x
      · rw [iT (by rw [c]), nI_add, show nI 1 = nI (bn true) from rfl, ih (x + 1) F true (by omega) (by omega)]; simp [c]
      · rw [iF (fun q => c ((nI_eq (by omega) (by omega)).mp q)), nI_add, show nI 0 = nI (bn false) from rfl, ih (x + 1) F false (by omega) (by omega)]; simp [c]
theorem e_number_L1 {N n r : Nat} {L : List (List Nat)} {d : List Nat} {w : Wd} (hN : 1000 ≤ N) (hL : LOk n L) (h : RTS n L w) (hr : r < 6) (hm : gI w 510 0 = nI n) (hd : Pm n d) (hc : ∀ x, x < n → gA w 32 0 (40 * r + x) = nI (dg d x)) : ∀ (m k F : Nat), k + m = L.length → m < F → X5_numberOf_L1 N (nI r) F (nI k) w = some (match fst (fun k => decide (dr L k = d)) m k with | some j => .inl (nI j, w) | none => .inr w) := by
  have hn := hL.1
  have hl := hL.2.1
  intro m
  induction m with
  | zero =>
    intro k F hk hF
    obtain ⟨F, rfl, _⟩ := fuel_s hF
    rw [X5_numberOf_L1, h.1, iT (nI_le (by omega) (by omega)), fst]
  | succ m ih =>
    intro k F hk hF
    obtain ⟨F, rfl, hF'⟩ := fuel_s hF
    rw [X5_numberOf_L1, h.1, iF (nI_ge (by omega) (by omega)), show (1 : Int32) = nI (bn true) from rfl, show X5_numberOf_L2 N (nI r) (nI k) N (nI (bn true)) 0 w = some (nI (bn (true && alk (dr L k) d n 0)), w) from e_number_L2 hL h (by omega) hr hm hd hc n 0 N true (by omega) (by omega), fst, Bool.true_and, alk_eq (LOk_at hL (by omega)).1 hd.1]
    simp only [bs, l0, l1, l2, l3, l4, l5, l6, l7, l8, l9, l10, l12, l15, l30, l31, l32, l40, l42, l48, l57, l60, l64, l98, l99, l100, l109, l110, l112, l115, l265, l1000, l518400, ngd]
    by_cases c : dr L k = d
    · rw [iF (by simp [c]; decide), if_pos (by simp [c])]
    · rw [iT (by simp [c]; decide), show nI (bn true) = nI 1 from rfl, nI_add, ih (k + 1) F (by omega) (by omega), if_neg (by simp [c])]
theorem e_numberOf {N r : Nat} {o : Of} {d : List Nat} {w : Wd} (hN : 1000 ≤ N) (hf : Wf o) (hR : RM o w) (hr : r < 6) (hd : Pm (oN o) d) (hc : ∀ x, x < oN o → gA w 32 0 (40 * r + x) = nI (dg d x)) : ∃ w', f_X5_numberOf N (nI r) w = some (oi (fst (fun k => decide (dr (rights o) k = d)) (rights o).length 0), w') ∧ ag SR w w' ∧ RTS (oN o) (rights o) w' := by
  obtain ⟨w1, e1, a1, a2⟩ := e_setRights (N := N) hN hf hR
  have hL := LOk_r hf
  have hl := hL.2.1
  refine ⟨w1, ?_, a1, a2⟩
  unfold f_X5_numberOf
  rw [e1]
  simp only [bs, l0, l1, l2, l3, l4, l5, l6, l7, l8, l9, l10, l12, l15, l30, l31, l32, l40, l42, l48, l57, l60, l64, l98, l99, l100, l109, l110, l112, l115, l265, l1000, l518400, ngd]
  rw [e_number_L1 hN hL a2 hr (RM_ag hR a1).1 hd (fun x hx => by rw [agA a1 32 0]; exact hc x hx) (rights o).length 0 N (by omega) (by omega)]
  cases fst (fun k => decide (dr (rights o) k = d)) (rights o).length 0 <;> rfl
