/-! numbers: Int32 as Nat -/
theorem l0 : (0 : Int32) = nI 0 := (rfl)
theorem l1 : (1 : Int32) = nI 1 := (rfl)
theorem l2 : (2 : Int32) = nI 2 := (rfl)
theorem l3 : (3 : Int32) = nI 3 := (rfl)
theorem l4 : (4 : Int32) = nI 4 := (rfl)
theorem l5 : (5 : Int32) = nI 5 := (rfl)
theorem l6 : (6 : Int32) = nI 6 := (rfl)
theorem l7 : (7 : Int32) = nI 7 := (rfl)
theorem l8 : (8 : Int32) = nI 8 := (rfl)
theorem l9 : (9 : Int32) = nI 9 := (rfl)
theorem l10 : (10 : Int32) = nI 10 := (rfl)
theorem l12 : (12 : Int32) = nI 12 := (rfl)
theorem l15 : (15 : Int32) = nI 15 := (rfl)
theorem l30 : (30 : Int32) = nI 30 := (rfl)
theorem l31 : (31 : Int32) = nI 31 := (rfl)
theorem l32 : (32 : Int32) = nI 32 := (rfl)
theorem l40 : (40 : Int32) = nI 40 := (rfl)
theorem l42 : (42 : Int32) = nI 42 := (rfl)
theorem l48 : (48 : Int32) = nI 48 := (rfl)
theorem l57 : (57 : Int32) = nI 57 := (rfl)
theorem l60 : (60 : Int32) = nI 60 := (rfl)
theorem l64 : (64 : Int32) = nI 64 := (rfl)
theorem l98 : (98 : Int32) = nI 98 := (rfl)
theorem l99 : (99 : Int32) = nI 99 := (rfl)
theorem l100 : (100 : Int32) = nI 100 := (rfl)
theorem l109 : (109 : Int32) = nI 109 := (rfl)
theorem l110 : (110 : Int32) = nI 110 := (rfl)
theorem l112 : (112 : Int32) = nI 112 := (rfl)
theorem l115 : (115 : Int32) = nI 115 := (rfl)
theorem l265 : (265 : Int32) = nI 265 := (rfl)
theorem l1000 : (1000 : Int32) = nI 1000 := (rfl)
theorem l518400 : (518400 : Int32) = nI 518400 := (rfl)
theorem gd_t {α : Type} {P : Prop} {x : Option α} (h : P) : gd P x = x := by unfold gd; exact @if_pos P (Classical.propDecidable P) h _ _ _
theorem gd_in {α : Type} {x : Option α} {k M : Nat} (h : k < M) (hM : M < 2 ^ 31) : gd (vp_in (nI k) M) x = x := gd_t (vp_in_nI h hM)
theorem iT {α : Sort _} {c : Prop} {inst : Decidable c} {a b : α} (h : c) : @ite α c inst a b = a := if_pos h
theorem iF {α : Sort _} {c : Prop} {inst : Decidable c} {a b : α} (h : ¬ c) : @ite α c inst a b = b := if_neg h
theorem bs {α β : Type} (a : α) (f : α → Option β) : (some a).bind f = f a := rfl
theorem nx_and (a b : Nat) : nI a &&& nI b = nI (a &&& b) := by
  apply Int32.toBitVec_inj.1
  show BitVec.ofNat 32 a &&& BitVec.ofNat 32 b = BitVec.ofNat 32 (a &&& b)
  apply BitVec.eq_of_getLsbD_eq
  intro i hi
  simp [hi]
theorem nx_xor (a b : Nat) : nI a ^^^ nI b = nI (a ^^^ b) := by
  apply Int32.toBitVec_inj.1
  show BitVec.ofNat 32 a ^^^ BitVec.ofNat 32 b = BitVec.ofNat 32 (a ^^^ b)
  apply BitVec.eq_of_getLsbD_eq
  intro i hi
  simp [hi]
theorem nx_or (a b : Nat) : nI a ||| nI b = nI (a ||| b) := by
  apply Int32.toBitVec_inj.1
  show BitVec.ofNat 32 a ||| BitVec.ofNat 32 b = BitVec.ofNat 32 (a ||| b)
  apply BitVec.eq_of_getLsbD_eq
  intro i hi
  simp [hi]
theorem s_l : ∀ n, n < 32 → ((nI n &&& 31).toBitVec.smod 32).toNat = n := by decide +kernel
theorem nx_shr {c s : Nat} (hc : c < 2 ^ 31) (hs : s < 32) : nI c >>> (nI s &&& (31 : Int32)) = nI (c >>> s) := by
  rw [pk_shrN hc _ s (s_l s hs), Nat.shiftRight_eq_div_pow]
theorem nx_shl {c s : Nat} (hs : s < 32) (h : c * 2 ^ s < 2 ^ 32) : nI c <<< (nI s &&& (31 : Int32)) = nI (c <<< s) := by
  rw [pk_shlN _ s (s_l s hs) h, Nat.shiftLeft_eq]
theorem nx_1shl {s : Nat} (hs : s < 31) : (1 : Int32) <<< (nI s &&& (31 : Int32)) = nI (1 <<< s) := by
  have h : (2 : Nat) ^ s < 2 ^ 31 := Nat.pow_lt_pow_right (by omega) hs
  exact nx_shl (c := 1) (by omega) (by omega)
theorem nx_not {a : Nat} (m : Nat) (ha : a < 2 ^ 32) (hm : m < 2 ^ 31) : nI m &&& (nI a ^^^ (-1 : Int32)) = nI (m &&& (a ^^^ (2 ^ 32 - 1))) := by
  rw [show (-1 : Int32) = nI (2 ^ 32 - 1) from by decide, nx_xor, nx_and]
theorem nI_m9 {k : Nat} (h : k < 2 ^ 31) : ¬ nI k = (-9 : Int32) := fun e => by
  have := congrArg Int32.toInt e
  rw [nI_toInt h] at this
  have h2 : (-9 : Int32).toInt = -9 := by decide
  omega
theorem nI_m1 {k : Nat} (h : k < 2 ^ 31) : ¬ nI k = (-1 : Int32) := fun e => by
  have := congrArg Int32.toInt e
  rw [nI_toInt h] at this
  have h2 : (-1 : Int32).toInt = -1 := by decide
  omega
theorem nI_nn {k : Nat} (h : k < 2 ^ 31) : (0 : Int32) ≤ nI k := nI_pos' h
theorem nI_add1 (a : Nat) : nI a + (1 : Int32) = nI (a + 1) := nI_1 a
/-- a fuel loop's fuel -/
theorem fuel_s {n m : Nat} (h : m < n) : ∃ k, n = k + 1 ∧ m ≤ k := ⟨n - 1, by omega, by omega⟩
/-! frames -/
def ag (S : List Nat) (w w' : Wd) : Prop := (∀ f i, f + 1000 * i ∉ S → f < 1000 → gI w' f i = gI w f i) ∧ (∀ f i, f + 1000 * i ∉ S → f < 1000 → gL w' f i = gL w f i) ∧ (∀ f i, f + 1000 * i ∉ S → f < 1000 → gA w' f i = gA w f i)
theorem ag.rf (S : List Nat) (w : Wd) : ag S w w := ⟨fun _ _ _ _ => rfl, fun _ _ _ _ => rfl, fun _ _ _ _ => rfl⟩
theorem ag.mono {S T : List Nat} {w w' : Wd} (h : ag S w w') (hs : ∀ k ∈ S, k ∈ T) : ag T w w' := ⟨fun f i hn => h.1 f i (fun q => hn (hs _ q)), fun f i hn => h.2.1 f i (fun q => hn (hs _ q)), fun f i hn => h.2.2 f i (fun q => hn (hs _ q))⟩
theorem ag.tr {S : List Nat} {w w' w'' : Wd} (h : ag S w w') (g : ag S w' w'') : ag S w w'' := ⟨fun f i hn hl => (g.1 f i hn hl).trans (h.1 f i hn hl), fun f i hn hl => (g.2.1 f i hn hl).trans (h.2.1 f i hn hl), fun f i hn hl => (g.2.2 f i hn hl).trans (h.2.2 f i hn hl)⟩
theorem ag.tr2 {S T U : List Nat} {w w' w'' : Wd} (h : ag S w w') (g : ag T w' w'') (hs : ∀ k ∈ S, k ∈ U) (ht : ∀ k ∈ T, k ∈ U) : ag U w w'' := (h.mono hs).tr (g.mono ht)
theorem ag.sI {S : List Nat} {w w' : Wd} (h : ag S w w') {f i : Nat} {v : Int32} (hk : f + 1000 * i ∈ S) : ag S w (sI w' f i v) := by
  refine ⟨fun f' i' hn hl => ?_, fun f' i' hn hl => h.2.1 f' i' hn hl, fun f' i' hn hl => h.2.2 f' i' hn hl⟩
  rw [gI_sI, if_neg]
  · exact h.1 f' i' hn hl
  · rintro ⟨rfl, rfl⟩; exact hn hk
theorem ag.sL {S : List Nat} {w w' : Wd} (h : ag S w w') {f i : Nat} {v : Int64} (hk : f + 1000 * i ∈ S) : ag S w (sL w' f i v) := by
  refine ⟨fun f' i' hn hl => h.1 f' i' hn hl, fun f' i' hn hl => ?_, fun f' i' hn hl => h.2.2 f' i' hn hl⟩
  rw [gL_sL, if_neg]
  · exact h.2.1 f' i' hn hl
  · rintro ⟨rfl, rfl⟩; exact hn hk
theorem ag.sA {S : List Nat} {w w' : Wd} (h : ag S w w') {f i : Nat} {v : Nat → Int32} (hk : f + 1000 * i ∈ S) : ag S w (sA w' f i v) := by
  refine ⟨fun f' i' hn hl => h.1 f' i' hn hl, fun f' i' hn hl => h.2.1 f' i' hn hl, fun f' i' hn hl => ?_⟩
  rw [gA_sA, if_neg]
  · exact h.2.2 f' i' hn hl
  · rintro ⟨rfl, rfl⟩; exact hn hk
theorem agI {S : List Nat} {w w' : Wd} (h : ag S w w') (f i : Nat) (hn : f + 1000 * i ∉ S := by decide) (hl : f < 1000 := by decide) : gI w' f i = gI w f i := h.1 f i hn hl
theorem agL {S : List Nat} {w w' : Wd} (h : ag S w w') (f i : Nat) (hn : f + 1000 * i ∉ S := by decide) (hl : f < 1000 := by decide) : gL w' f i = gL w f i := h.2.1 f i hn hl
theorem agA {S : List Nat} {w w' : Wd} (h : ag S w w') (f i : Nat) (hn : f + 1000 * i ∉ S := by decide) (hl : f < 1000 := by decide) : gA w' f i = gA w f i := h.2.2 f i hn hl
/-! papers -/
def pp (c x : Nat) : Nat := c >>> (3 * x) % 8
def dg (d : List Nat) (x : Nat) : Nat := d.getD x 0
def cd : List Nat → Nat
  | [] => 0
  | y :: t => y + 8 * cd t
theorem pp_lt (c x : Nat) : pp c x < 8 := Nat.mod_lt _ (by omega)
theorem pp_cd : ∀ (d : List Nat) (x : Nat), (∀ y ∈ d, y < 8) → pp (cd d) x = dg d x := by
  intro d
  induction d with
  | nil => intro x _; unfold pp cd dg; simp
  | cons y t ih =>
    intro x h
    have hy : y < 8 := h y List.mem_cons_self
    cases x with
    | zero => unfold pp cd dg; simp; omega
    | succ x =>
      have e := ih x (fun z hz => h z (List.mem_cons_of_mem _ hz))
      unfold pp dg at e ⊢
      rw [show 3 * (x + 1) = 3 + 3 * x by omega, Nat.shiftRight_add, show (cd (y :: t)) >>> 3 = cd t from by
        simp only [cd, Nat.shiftRight_eq_div_pow]; omega]
      rw [e]; simp
theorem cd_lt : ∀ (d : List Nat), (∀ y ∈ d, y < 8) → cd d < 8 ^ d.length := by
  intro d
  induction d with
  | nil => intro _; simp [cd]
  | cons y t ih =>
    intro h
    have hy : y < 8 := h y List.mem_cons_self
    have := ih (fun z hz => h z (List.mem_cons_of_mem _ hz))
    simp only [cd, List.length_cons, Nat.pow_succ]; omega
theorem cd_app : ∀ (d : List Nat) (y : Nat), cd (d ++ [y]) = cd d + 8 ^ d.length * y := by
  intro d
  induction d with
  | nil => intro y; simp [cd]
  | cons z t ih =>
    intro y
    simp only [List.cons_append, cd, ih, List.length_cons, Nat.pow_succ, Nat.mul_add]
    rw [Nat.mul_comm (8 ^ t.length) 8, Nat.mul_assoc]; omega
theorem cd_or (d : List Nat) (y : Nat) (h : ∀ y ∈ d, y < 8) : cd d ||| y <<< (3 * d.length) = cd (d ++ [y]) := by
  have h1 := cd_lt d h
  rw [cd_app, show (8 : Nat) ^ d.length = 2 ^ (3 * d.length) from by rw [show (8 : Nat) = 2 ^ 3 from rfl, ← Nat.pow_mul]] at *
  rw [Nat.or_comm, Nat.add_comm, ← Nat.shiftLeft_add_eq_or_of_lt h1, Nat.shiftLeft_eq, Nat.mul_comm]
theorem cd_small {d : List Nat} (h : ∀ y ∈ d, y < 8) (hl : d.length ≤ 6) : cd d < 262144 := by
  have h1 := cd_lt d h
  have h2 : (8 : Nat) ^ d.length ≤ 8 ^ 6 := Nat.pow_le_pow_right (by omega) hl
  have h3 : (8 : Nat) ^ 6 = 262144 := by decide
  omega
theorem cd_take : ∀ (d : List Nat) (k : Nat), (∀ y ∈ d, y < 8) → cd d % 8 ^ k = cd (d.take k) := by
  intro d
  induction d with
  | nil => intro k _; simp [cd]
  | cons y t ih =>
    intro k h
    have hy : y < 8 := h y List.mem_cons_self
    cases k with
    | zero => simp [cd, Nat.mod_one]
    | succ k =>
      have e := ih k (fun z hz => h z (List.mem_cons_of_mem _ hz))
      simp only [List.take_succ_cons, cd]
      rw [← e, Nat.pow_succ, Nat.mul_comm (8 ^ k) 8, Nat.mod_mul]
      have e1 : (y + 8 * cd t) % 8 = y := by omega
      have e2 : (y + 8 * cd t) / 8 = cd t := by omega
      rw [e1, e2]
theorem cd_inj : ∀ (a b : List Nat), a.length = b.length → (∀ y ∈ a, y < 8) → (∀ y ∈ b, y < 8) → cd a = cd b → a = b := by
  intro a
  induction a with
  | nil => intro b hl _ _ _; cases b with | nil => rfl | cons y t => simp at hl
  | cons y t ih =>
    intro b hl ha hb e
    cases b with
    | nil => simp at hl
    | cons z u =>
      have hy : y < 8 := ha y List.mem_cons_self
      have hz : z < 8 := hb z List.mem_cons_self
      simp only [cd] at e
      have e1 : y = z := by omega
      have e2 : cd t = cd u := by omega
      rw [e1, ih u (by simpa using hl) (fun q hq => ha q (List.mem_cons_of_mem _ hq)) (fun q hq => hb q (List.mem_cons_of_mem _ hq)) e2]
theorem dg_app_l {d : List Nat} {y x : Nat} (h : x < d.length) : dg (d ++ [y]) x = dg d x := by
  unfold dg; simp [List.getD_eq_getElem?_getD, List.getElem?_append_left h]
theorem dg_app_r {d : List Nat} {y : Nat} : dg (d ++ [y]) d.length = y := by
  unfold dg; simp [List.getD_eq_getElem?_getD]
theorem dg_mem {d : List Nat} {x : Nat} (h : x < d.length) : dg d x ∈ d := by
  unfold dg; rw [List.getD_eq_getElem?_getD, List.getElem?_eq_getElem h]; exact List.getElem_mem h
theorem dg_ext {a b : List Nat} (hl : a.length = b.length) (h : ∀ x, x < a.length → dg a x = dg b x) : a = b := by
  apply List.ext_getElem hl
  intro i h1 h2
  have := h i h1
  unfold dg at this
  simpa [List.getD_eq_getElem?_getD, List.getElem?_eq_getElem h1, List.getElem?_eq_getElem h2] using this
theorem e_paper {N c x : Nat} {w : Wd} (hc : c < 2 ^ 31) (hx : x < 10) : f_X4_paper N (nI c) (nI x) w = some (nI (pp c x), w) := by
  unfold f_X4_paper
  rw [l3, pk_mul, nx_shr hc (by omega), show (7 : Int32) = nI 7 from rfl, nx_and, show (7 : Nat) = 2 ^ 3 - 1 from rfl, Nat.and_two_pow_sub_one_eq_mod]
  rfl
theorem e_ones {N k : Nat} {w : Wd} (hk : k < 10) : f_X4_firstOnes N (nI k) w = some (nI (8 ^ k - 1), w) := by
  unfold f_X4_firstOnes
  rw [l3, pk_mul, nx_1shl (by omega), l1, Nat.one_shiftLeft, show (8 : Nat) ^ k = 2 ^ (3 * k) from by rw [show (8 : Nat) = 2 ^ 3 from rfl, ← Nat.pow_mul], pk_sub (Nat.one_le_two_pow)]
