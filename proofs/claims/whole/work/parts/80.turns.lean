/-! turns: sums over mates -/
def smv (f : Nat → Nat) : Nat → Nat → Nat
  | 0, _ => 0
  | m + 1, v => f v + smv f m (v + 1)
theorem smv_congr {f g : Nat → Nat} : ∀ (m v : Nat), (∀ j, v ≤ j → j < v + m → f j = g j) → smv f m v = smv g m v := by
  intro m
  induction m with
  | zero => intro v _; rfl
  | succ m ih => intro v h; rw [smv, smv, h v (by omega) (by omega), ih (v + 1) (fun j a b => h j (by omega) (by omega))]
theorem smv_zero {f : Nat → Nat} : ∀ (m v : Nat), (∀ j, v ≤ j → j < v + m → f j = 0) → smv f m v = 0 := by
  intro m
  induction m with
  | zero => intro v _; rfl
  | succ m ih => intro v h; rw [smv, h v (by omega) (by omega), ih (v + 1) (fun j a b => h j (by omega) (by omega))]
theorem smv_app (f : Nat → Nat) : ∀ (a b v : Nat), smv f (a + b) v = smv f a v + smv f b (v + a) := by
  intro a
  induction a with
  | zero => intro b v; rw [Nat.zero_add, smv, Nat.zero_add, Nat.add_zero]
  | succ a ih => intro b v; rw [show a + 1 + b = (a + b) + 1 by omega, smv, smv, ih, show v + 1 + a = v + (a + 1) by omega]; omega
theorem smv_mul (f : Nat → Nat) (c : Nat) : ∀ (m v : Nat), smv f m v * c = smv (fun j => f j * c) m v := by
  intro m
  induction m with
  | zero => intro v; rw [smv, smv, Nat.zero_mul]
  | succ m ih => intro v; rw [smv, smv, Nat.add_mul, ih]
theorem smv_le {f g : Nat → Nat} (h : ∀ j, f j ≤ g j) : ∀ (m v : Nat), smv f m v ≤ smv g m v := by
  intro m
  induction m with
  | zero => intro v; exact Nat.le_refl _
  | succ m ih => intro v; rw [smv, smv]; exact Nat.add_le_add (h v) (ih (v + 1))
/-- from u on, the next one that counts is t -/
theorem smv_jump {f : Nat → Nat} {n u t : Nat} (h1 : u < t) (h2 : t < n) (h : ∀ j, u < j → j < t → f j = 0) : smv f (n - u) u = f u + smv f (n - t) t := by
  rw [show n - u = (1 + (t - u - 1)) + (n - t) by omega, smv_app, smv_app, smv_zero (t - u - 1) (u + 1) (fun j a b => h j (by omega) (by omega)), Nat.add_zero, show u + (1 + (t - u - 1)) = t by omega]
  rfl
theorem smv_end {f : Nat → Nat} {n u : Nat} (h1 : u < n) (h : ∀ j, u < j → j < n → f j = 0) : smv f (n - u) u = f u := by
  rw [show n - u = (n - u - 1) + 1 by omega, smv, smv_zero (n - u - 1) (u + 1) (fun j a b => h j (by omega) (by omega)), Nat.add_zero]
theorem smv_first {f : Nat → Nat} {n t : Nat} (h2 : t < n) (h : ∀ j, j < t → f j = 0) : smv f n 0 = smv f (n - t) t := by
  rw [show n = t + (n - t) by omega, smv_app, smv_zero t 0 (fun j _ b => h j (by omega)), Nat.zero_add, Nat.zero_add, Nat.add_sub_cancel_left]
theorem smv_pc6 : ∀ s, s < 64 → smv (fun v => bn (s.testBit v)) 6 0 = pc s := by decide +kernel
theorem smv_pc {s n : Nat} (hn : n ≤ 6) (hs : s < 64) (h : ∀ j, s.testBit j = true → j < n) : smv (fun v => bn (s.testBit v)) n 0 = pc s := by
  rw [← smv_pc6 s hs, show 6 = n + (6 - n) by omega, smv_app, smv_zero (6 - n) (0 + n) (fun j a b => by
    cases e : s.testBit j with
    | false => rfl
    | true => have := h j e; omega), Nat.add_zero]
theorem smv_const {s n K : Nat} (hn : n ≤ 6) (hs : s < 64) (h : ∀ j, s.testBit j = true → j < n) : smv (fun v => if s.testBit v = true then K else 0) n 0 = pc s * K := by
  rw [← smv_pc hn hs h, smv_mul]
  refine smv_congr _ _ (fun j _ _ => ?_)
  cases e : s.testBit j with
  | false => rw [if_neg (by simp), bnf, Nat.zero_mul]
  | true => rw [if_pos rfl, bnt, Nat.one_mul]
/-! children -/
theorem orf_keep {f : Nat → Bool} {g : Nat → Nat} {j : Nat} : ∀ (m k s : Nat), s.testBit j = true → (orf f g m k s).testBit j = true := by
  intro m
  induction m with
  | zero => intro k s h; exact h
  | succ m ih =>
    intro k s h
    rw [orf]
    refine ih _ _ ?_
    by_cases c : f k = true
    · rw [if_pos c, Nat.testBit_or, h, Bool.true_or]
    · rw [if_neg c]; exact h
theorem orf_in {f : Nat → Bool} {g : Nat → Nat} {j i : Nat} (hf : f i = true) (hg : g i = j) : ∀ (m k s : Nat), k ≤ i → i < k + m → (orf f g m k s).testBit j = true := by
  intro m
  induction m with
  | zero => intro k s a b; omega
  | succ m ih =>
    intro k s a b
    rw [orf]
    rcases Nat.eq_or_lt_of_le a with q | q
    · refine orf_keep _ _ _ ?_
      rw [q, if_pos hf, Nat.testBit_or, shl_bit, hg]; simp
    · exact ih _ _ (by omega) (by omega)
theorem cns_iff {n v : Nat} {L : List (List Nat)} {p : List Nat} (hp : p.length < n) : (cns n L p).testBit v = true ↔ ∃ i, i < L.length ∧ bgc L p i = true ∧ dg (dr L i) p.length = v := by
  unfold cns
  rw [if_pos hp]
  constructor
  · intro h
    rcases orf_bit _ _ _ h with q | ⟨i, a, b, c, d⟩
    · simp at q
    · exact ⟨i, by omega, c, d⟩
  · rintro ⟨i, a, b, c⟩
    exact orf_in (g := fun i => dg (dr L i) p.length) b c _ _ _ (Nat.zero_le _) (by omega)
theorem bgc_snoc {n v i : Nat} {L : List (List Nat)} {p : List Nat} (hL : LOk n L) (hp : p.length < n) (hi : i < L.length) : bgc L (p ++ [v]) i = true ↔ bgc L p i = true ∧ dg (dr L i) p.length = v := by
  have hd := (LOk_at hL hi).1
  have e : (dr L i).take (p ++ [v]).length = (dr L i).take p.length ++ [dg (dr L i) p.length] := by
    rw [List.length_append, List.length_singleton, List.take_succ]
    unfold dg
    rw [List.getD_eq_getElem?_getD, List.getElem?_eq_getElem (by omega)]; rfl
  unfold bgc
  rw [decide_eq_true_eq, decide_eq_true_eq, e]
  constructor
  · intro h
    have := List.append_inj' h rfl
    exact ⟨this.1, by simpa using this.2⟩
  · rintro ⟨a, b⟩; rw [a, b]
/-- a right drawing begins so -/
def Hs (L : List (List Nat)) (p : List Nat) : Prop := ∃ i, i < L.length ∧ bgc L p i = true
theorem Hs_p {n : Nat} {L : List (List Nat)} {p : List Nat} (hL : LOk n L) (h : Hs L p) : p.length ≤ n ∧ (∀ y ∈ p, y < n) ∧ p.Nodup := by
  obtain ⟨i, hi, hb⟩ := h
  have hd := LOk_at hL hi
  have e : (dr L i).take p.length = p := of_decide_eq_true hb
  refine ⟨?_, fun y hy => ?_, ?_⟩
  · have := congrArg List.length e
    rw [List.length_take, hd.1] at this; omega
  · rw [← e] at hy; exact hd.2.1 y (List.mem_of_mem_take hy)
  · rw [← e]; exact hd.2.2.sublist (List.take_sublist _ _)
theorem Hs_snoc {n v : Nat} {L : List (List Nat)} {p : List Nat} (hL : LOk n L) (hp : p.length < n) (h : (cns n L p).testBit v = true) : Hs L (p ++ [v]) := by
  obtain ⟨i, a, b, c⟩ := (cns_iff hp).mp h
  exact ⟨i, a, (bgc_snoc hL hp a).mpr ⟨b, c⟩⟩
theorem pc_pos {n : Nat} {L : List (List Nat)} {p : List Nat} (hL : LOk n L) (hp : p.length < n) (h : Hs L p) : 0 < pc (cns n L p) := by
  obtain ⟨i, hi, hb⟩ := h
  have h1 : (cns n L p).testBit (dg (dr L i) p.length) = true := (cns_iff hp).mpr ⟨i, hi, hb, rfl⟩
  have h2 : pc (cns n L p) ≠ 0 := fun e => by
    rw [(pc_0 _ (cns_lt hL)).mp e] at h1; simp at h1
  omega
theorem pc_add : ∀ s, s < 64 → ∀ y, y < 6 → s.testBit y = false → pc (s ||| 1 <<< y) = pc s + 1 ∧ (s ||| 1 <<< y) < 64 := by decide +kernel
theorem pc_mk0 : ∀ (p : List Nat) (s : Nat), s < 64 → p.Nodup → (∀ y ∈ p, y < 6 ∧ s.testBit y = false) → pc (p.foldl (fun s y => s ||| 1 <<< y) s) = pc s + p.length := by
  intro p
  induction p with
  | nil => intro s _ _ _; rfl
  | cons y t ih =>
    intro s hs hp h
    obtain ⟨h1, h2⟩ := h y List.mem_cons_self
    obtain ⟨a, b⟩ := pc_add s hs y h1 h2
    have hnd := List.nodup_cons.mp hp
    rw [List.foldl_cons, ih _ b hnd.2 (fun z hz => ?_), a, List.length_cons]
    · omega
    · obtain ⟨z1, z2⟩ := h z (List.mem_cons_of_mem _ hz)
      refine ⟨z1, ?_⟩
      rw [Nat.testBit_or, z2, shl_bit, Bool.false_or, decide_eq_false_iff_not]
      intro e; rw [e] at hnd; exact hnd.1 hz
theorem pc_or : ∀ a, a < 64 → ∀ b, b < 64 → a &&& b = 0 → pc a + pc b = pc (a ||| b) := by decide +kernel
theorem pc_n : ∀ n, n < 7 → ∀ u, u < 64 → u < 2 ^ n → pc u ≤ n := by decide +kernel
theorem pc_kids {n : Nat} {L : List (List Nat)} {p : List Nat} (hL : LOk n L) (hp : p.length < n) (h : Hs L p) : pc (cns n L p) + p.length ≤ n := by
  have hn := hL.1
  obtain ⟨p1, p2, p3⟩ := Hs_p hL h
  have hc := cns_lt (n := n) (L := L) (H := p) hL
  have hm : mk p < 64 := mk_lt (fun y hy => by have := p2 y hy; omega)
  have h0 : cns n L p &&& mk p = 0 := by
    refine Nat.eq_of_testBit_eq fun j => ?_
    rw [Nat.testBit_and, mk_bit, Nat.zero_testBit]
    cases e : (cns n L p).testBit j with
    | false => rfl
    | true =>
      rw [Bool.true_and, decide_eq_false_iff_not]
      intro hj
      obtain ⟨i, a, b, c⟩ := (cns_iff hp).mp e
      have hd := LOk_at hL a
      have et : (dr L i).take p.length = p := of_decide_eq_true b
      obtain ⟨k, hk, ek⟩ := List.getElem_of_mem hj
      have e1 : dg (dr L i) k = j := by
        rw [← dg_take (d := dr L i) hk, et]
        unfold dg; rw [List.getD_eq_getElem?_getD, List.getElem?_eq_getElem hk]; exact ek
      have := Pm_inj hd (show k < n by omega) hp (e1.trans c.symm)
      omega
  have hs := pc_or _ hc _ hm h0
  have hpm : pc (mk p) = p.length := by
    have := pc_mk0 p 0 (by omega) p3 (fun y hy => ⟨by have := p2 y hy; omega, by simp⟩)
    rw [show pc 0 = 0 from rfl, Nat.zero_add] at this
    exact this
  have hlt : cns n L p ||| mk p < 2 ^ n := by
    refine Nat.or_lt_two_pow (tb_lt (n := n) fun k hk => ?_) (tb_lt (n := n) fun k hk => ?_)
    · cases e : (cns n L p).testBit k with
      | false => rfl
      | true => have := (cns_bit hL e).2; omega
    · rw [mk_bit, decide_eq_false_iff_not]
      intro q; have := p2 k q; omega
  have h64 : cns n L p ||| mk p < 64 := Nat.or_lt_two_pow (n := 6) hc hm
  have := pc_n n (by omega) _ h64 hlt
  omega
/-! the model's sum, the class's sum -/
def Mv (n : Nat) (L : List (List Nat)) (x y : Nat) : Nat → List Nat → Nat → Nat
  | 0, p, wt => if dg p x = y then wt else 0
  | m + 1, p, wt => smv (fun v => if (cns n L p).testBit v = true then Mv n L x y m (p ++ [v]) (wt * (60 / pc (cns n L p))) else 0) n 0
def Cv (n : Nat) (L : List (List Nat)) (y : Nat) : Nat → List Nat → Nat → Nat
  | 0, p, wt => smv (fun v => if (cns n L p).testBit v = true then (if v = y then wt / pc (cns n L p) else 0) else 0) n 0
  | t + 1, p, wt => smv (fun v => if (cns n L p).testBit v = true then Cv n L y t (p ++ [v]) (wt / pc (cns n L p)) else 0) n 0
theorem pc60 : ∀ c, c < 7 → 0 < c → c * (60 / c) = 60 := by decide
theorem Mv_le {n x y : Nat} {L : List (List Nat)} (hL : LOk n L) : ∀ (m : Nat) (p : List Nat) (wt : Nat), Mv n L x y m p wt ≤ wt * 60 ^ m := by
  have hn := hL.1
  intro m
  induction m with
  | zero =>
    intro p wt
    rw [Mv, Nat.pow_zero, Nat.mul_one]
    split <;> omega
  | succ m ih =>
    intro p wt
    have hc := cns_lt (n := n) (L := L) (H := p) hL
    rw [Mv]
    refine Nat.le_trans (smv_le (g := fun v => if (cns n L p).testBit v = true then wt * (60 / pc (cns n L p)) * 60 ^ m else 0) (fun v => ?_) n 0) ?_
    · by_cases c : (cns n L p).testBit v = true
      · rw [if_pos c, if_pos c]; exact ih _ _
      · rw [if_neg c, if_neg c]; exact Nat.le_refl _
    · rw [smv_const hn hc (fun j hj => (cns_bit hL hj).2)]
      have h1 : pc (cns n L p) * (60 / pc (cns n L p)) ≤ 60 := Nat.mul_div_le _ _
      have e : pc (cns n L p) * (wt * (60 / pc (cns n L p)) * 60 ^ m) = pc (cns n L p) * (60 / pc (cns n L p)) * (wt * 60 ^ m) := by
        simp only [Nat.mul_assoc, Nat.mul_comm, Nat.mul_left_comm]
      rw [e, Nat.pow_succ]
      refine Nat.le_trans (Nat.mul_le_mul_right _ h1) (Nat.le_of_eq ?_)
      simp only [Nat.mul_assoc, Nat.mul_comm, Nat.mul_left_comm]
theorem Mv_deep {n x y : Nat} {L : List (List Nat)} (hL : LOk n L) : ∀ (m : Nat) (p : List Nat) (wt : Nat), p.length + m = n → x < p.length → Hs L p → Mv n L x y m p wt = (if dg p x = y then wt else 0) * 60 ^ m := by
  have hn := hL.1
  intro m
  induction m with
  | zero => intro p wt _ _ _; rw [Mv, Nat.pow_zero, Nat.mul_one]
  | succ m ih =>
    intro p wt hl hx h
    have hc := cns_lt (n := n) (L := L) (H := p) hL
    have hp : p.length < n := by omega
    have c0 := pc_pos hL hp h
    have c6 := pc_kids hL hp h
    have e60 := pc60 (pc (cns n L p)) (by omega) c0
    rw [Mv]
    rw [smv_congr (g := fun v => if (cns n L p).testBit v = true then (if dg p x = y then wt * (60 / pc (cns n L p)) else 0) * 60 ^ m else 0) n 0 (fun v _ _ => by
      by_cases c : (cns n L p).testBit v = true
      · rw [if_pos c, if_pos c, ih (p ++ [v]) _ (by rw [List.length_append, List.length_singleton]; omega) (by rw [List.length_append, List.length_singleton]; omega) (Hs_snoc hL hp c), dg_app_l hx]
      · rw [if_neg c, if_neg c]), smv_const hn hc (fun j hj => (cns_bit hL hj).2)]
    by_cases q : dg p x = y
    · rw [if_pos q, if_pos q, Nat.pow_succ]
      have e : pc (cns n L p) * (wt * (60 / pc (cns n L p)) * 60 ^ m) = pc (cns n L p) * (60 / pc (cns n L p)) * (wt * 60 ^ m) := by
        simp only [Nat.mul_assoc, Nat.mul_comm, Nat.mul_left_comm]
      rw [e, e60]
      simp only [Nat.mul_assoc, Nat.mul_comm, Nat.mul_left_comm]
    · rw [if_neg q, if_neg q]; simp
def Dv (k : Nat) : Nat := if k = 0 then 518400 else if k = 1 then 8640 else if k = 2 then 144 else if k = 3 then 12 else if k = 4 then 2 else 1
theorem Dv_all : ∀ k, k < 7 → Dv k ∣ 518400 := by decide
theorem Dv_step : ∀ k, k < 6 → ∀ c, c < 7 → 0 < c → c + k ≤ 6 → c * Dv (k + 1) ∣ Dv k := by decide
theorem Cv_Mv {n x y : Nat} {L : List (List Nat)} (hL : LOk n L) (hx : x < n) : ∀ (t m : Nat) (p : List Nat) (wa wb : Nat), p.length + t = x → p.length + m = n → Hs L p → Dv p.length ∣ wa → Mv n L x y m p wb * wa = Cv n L y t p wa * (wb * 60 ^ m) := by
  have hn := hL.1
  intro t
  induction t with
  | zero =>
    intro m p wa wb ht hm h hD
    obtain ⟨m, rfl⟩ : ∃ k, m = k + 1 := ⟨m - 1, by omega⟩
    have hp : p.length < n := by omega
    have c0 := pc_pos hL hp h
    have c6 := pc_kids hL hp h
    have e60 := pc60 (pc (cns n L p)) (by omega) c0
    have hd : pc (cns n L p) ∣ wa := Nat.dvd_trans (Nat.dvd_trans (Nat.dvd_mul_right _ _) (Dv_step p.length (by omega) _ (by omega) c0 (by omega))) hD
    have ewa := Nat.mul_div_cancel' hd
    rw [Mv, Cv, smv_mul, smv_mul]
    refine smv_congr _ _ (fun v _ _ => ?_)
    by_cases c : (cns n L p).testBit v = true
    · have hl : (p ++ [v]).length = p.length + 1 := by rw [List.length_append, List.length_singleton]
      rw [if_pos c, if_pos c, Mv_deep hL m (p ++ [v]) _ (by omega) (by omega) (Hs_snoc hL hp c)]
      have ex : dg (p ++ [v]) x = v := by rw [show x = p.length by omega]; exact dg_app_r
      rw [ex]
      by_cases q : v = y
      · rw [if_pos q, if_pos q, Nat.pow_succ]
        obtain ⟨Q, hQ⟩ : ∃ Q, Q = 60 / pc (cns n L p) := ⟨_, rfl⟩
        obtain ⟨R, hR⟩ : ∃ R, R = wa / pc (cns n L p) := ⟨_, rfl⟩
        have e2 : wa = pc (cns n L p) * R := by rw [hR]; exact ewa.symm
        have e3 : 60 ^ m * 60 = 60 ^ m * (pc (cns n L p) * Q) := by rw [hQ, e60]
        rw [← hQ, ← hR, e3]
        conv => lhs; rw [e2]
        simp only [Nat.mul_assoc, Nat.mul_comm, Nat.mul_left_comm]
      · rw [if_neg q, if_neg q]; simp
    · rw [if_neg c, if_neg c, Nat.zero_mul, Nat.zero_mul]
  | succ t ih =>
    intro m p wa wb ht hm h hD
    obtain ⟨m, rfl⟩ : ∃ k, m = k + 1 := ⟨m - 1, by omega⟩
    have hp : p.length < n := by omega
    have c0 := pc_pos hL hp h
    have c6 := pc_kids hL hp h
    have e60 := pc60 (pc (cns n L p)) (by omega) c0
    have hd2 := Nat.dvd_trans (Dv_step p.length (by omega) _ (by omega) c0 (by omega)) hD
    have hd : pc (cns n L p) ∣ wa := Nat.dvd_trans (Nat.dvd_mul_right _ _) hd2
    have hd3 : Dv (p.length + 1) ∣ wa / pc (cns n L p) := Nat.dvd_div_of_mul_dvd hd2
    have ewa := Nat.mul_div_cancel' hd
    rw [Mv, Cv, smv_mul, smv_mul]
    refine smv_congr _ _ (fun v _ _ => ?_)
    by_cases c : (cns n L p).testBit v = true
    · have hl : (p ++ [v]).length = p.length + 1 := by rw [List.length_append, List.length_singleton]
      rw [if_pos c, if_pos c]
      have e := ih m (p ++ [v]) (wa / pc (cns n L p)) (wb * (60 / pc (cns n L p))) (by omega) (by omega) (Hs_snoc hL hp c) (by rw [hl]; exact hd3)
      obtain ⟨A, hA⟩ : ∃ A, A = Mv n L x y m (p ++ [v]) (wb * (60 / pc (cns n L p))) := ⟨_, rfl⟩
      obtain ⟨B, hB⟩ : ∃ B, B = Cv n L y t (p ++ [v]) (wa / pc (cns n L p)) := ⟨_, rfl⟩
      rw [← hA, ← hB] at e ⊢
      have e2 : A * wa = pc (cns n L p) * (A * (wa / pc (cns n L p))) := by
        conv => lhs; rw [← ewa]
        simp only [Nat.mul_left_comm]
      have e3 : 60 ^ (m + 1) = pc (cns n L p) * (60 / pc (cns n L p)) * 60 ^ m := by rw [e60, Nat.pow_succ, Nat.mul_comm]
      rw [e2, e, e3]
      simp only [Nat.mul_assoc, Nat.mul_comm, Nat.mul_left_comm]
    · rw [if_neg c, if_neg c, Nat.zero_mul, Nat.zero_mul]
/-! blocks -/
def Blk (L : List (List Nat)) (p : List Nat) (s e : Nat) : Prop := s < e ∧ e ≤ L.length ∧ ∀ i, i < L.length → (bgc L p i = true ↔ s ≤ i ∧ i < e)
theorem Lx_at {L : List (List Nat)} (hp : L.Pairwise Lx) {i j : Nat} (h : i < j) (hj : j < L.length) : Lx (dr L i) (dr L j) := by
  have := List.pairwise_iff_getElem.mp hp i j (by omega) hj h
  unfold dr
  rw [List.getD_eq_getElem?_getD, List.getD_eq_getElem?_getD, List.getElem?_eq_getElem (by omega), List.getElem?_eq_getElem hj]
  exact this
theorem dg_tk {a b : List Nat} {k z : Nat} (h : a.take k = b.take k) (hz : z < k) : dg a z = dg b z := by rw [← dg_take hz, h, dg_take hz]
theorem tk_tk {a b : List Nat} {k z : Nat} (h : a.take k = b.take k) (hz : z ≤ k) : a.take z = b.take z := by
  have := congrArg (List.take z) h
  rwa [List.take_take, List.take_take, Nat.min_eq_left hz] at this
theorem blk_mono {L : List (List Nat)} {p : List Nat} (hP : L.Pairwise Lx) {i j : Nat} (h : i ≤ j) (hj : j < L.length) (bi : bgc L p i = true) (bj : bgc L p j = true) : dg (dr L i) p.length ≤ dg (dr L j) p.length := by
  rcases Nat.eq_or_lt_of_le h with q | q
  · rw [q]; exact Nat.le_refl _
  obtain ⟨k, h1, h2⟩ := Lx_at hP q hj
  have ti : (dr L i).take p.length = p := of_decide_eq_true bi
  have tj : (dr L j).take p.length = p := of_decide_eq_true bj
  rcases Nat.lt_trichotomy k p.length with c | c | c
  · have := dg_tk (ti.trans tj.symm) c; omega
  · rw [← c]; omega
  · exact Nat.le_of_eq (dg_tk h1 c)
theorem blk_conv {L : List (List Nat)} {p : List Nat} (hP : L.Pairwise Lx) {i j l : Nat} (h : i < j) (h2 : j < l) (hl : l < L.length) (bi : bgc L p i = true) (bl : bgc L p l = true) : bgc L p j = true := by
  obtain ⟨k, a1, a2⟩ := Lx_at hP h (by omega)
  obtain ⟨z, b1, b2⟩ := Lx_at hP h2 hl
  have ti : (dr L i).take p.length = p := of_decide_eq_true bi
  have tl : (dr L l).take p.length = p := of_decide_eq_true bl
  refine decide_eq_true ?_
  by_cases c1 : p.length ≤ k
  · rw [← tk_tk a1 c1]; exact ti
  by_cases c2 : p.length ≤ z
  · rw [tk_tk b1 c2]; exact tl
  have e := ti.trans tl.symm
  rcases Nat.lt_trichotomy z k with c | c | c
  · have q1 := dg_tk a1 c
    have q2 := dg_tk e (show z < p.length by omega)
    omega
  · subst c
    have q2 := dg_tk e (show z < p.length by omega)
    omega
  · have q1 := dg_tk b1 c
    have q2 := dg_tk e (show k < p.length by omega)
    omega
theorem cnt_conv {f : Nat → Bool} {M : Nat} (hc : ∀ i j l, i < j → j < l → l < M → f i = true → f l = true → f j = true) : ∀ (m s c : Nat), s + m + 1 = M → f s = true → ∃ e, s < e ∧ e ≤ M ∧ (∀ i, s ≤ i → i < M → (f i = true ↔ i < e)) ∧ cnt f (m + 1) s c = c + (e - s) := by
  intro m
  induction m with
  | zero =>
    intro s c hs h
    refine ⟨s + 1, by omega, by omega, fun i a b => ?_, ?_⟩
    · rw [show i = s by omega]; exact ⟨fun _ => by omega, fun _ => h⟩
    · rw [cnt_t h, cnt]; omega
  | succ m ih =>
    intro s c hs h
    cases q : f (s + 1) with
    | true =>
      obtain ⟨e, a1, a2, a3, a4⟩ := ih (s + 1) (c + 1) (by omega) q
      refine ⟨e, by omega, a2, fun i b1 b2 => ?_, ?_⟩
      · rcases Nat.eq_or_lt_of_le b1 with z | z
        · rw [← z]; exact ⟨fun _ => by omega, fun _ => h⟩
        · exact a3 i z b2
      · rw [cnt_t h, a4]; omega
    | false =>
      have no : ∀ i, s + 1 ≤ i → i < M → f i = false := fun i b1 b2 => by
        rcases Nat.eq_or_lt_of_le b1 with z | z
        · rw [← z]; exact q
        · cases w : f i with
          | false => rfl
          | true => rw [hc s (s + 1) i (by omega) z b2 h w] at q; cases q
      refine ⟨s + 1, by omega, by omega, fun i b1 b2 => ?_, ?_⟩
      · rcases Nat.eq_or_lt_of_le b1 with z | z
        · rw [← z]; exact ⟨fun _ => by omega, fun _ => h⟩
        · rw [no i z b2]; exact ⟨fun w => (by cases w), fun w => by omega⟩
      · rw [cnt_t h, cnt_none (m + 1) _ _ (fun j b1 b2 => no j (by omega) (by omega))]; omega
theorem cnt_skip {f : Nat → Bool} {s : Nat} : ∀ (m k c : Nat), (∀ i, k ≤ i → i < k + s → f i = false) → cnt f (s + m) k c = cnt f m (k + s) c := by
  intro m k c h
  rw [cnt_app, cnt_none s k c h]
/-- the block of what lies in the hat -/
theorem blk_hat {L : List (List Nat)} {p : List Nat} (hP : L.Pairwise Lx) {s : Nat} (h : fst (bgc L p) L.length 0 = some s) : Blk L p s (s + cnb L p) := by
  obtain ⟨_, h2, h3, h4⟩ := fst_some _ _ _ h
  obtain ⟨e, a1, a2, a3, a4⟩ := cnt_conv (f := bgc L p) (M := L.length) (fun i j l x1 x2 x3 x4 x5 => blk_conv hP x1 x2 x3 x4 x5) (L.length - s - 1) s 0 (by omega) h3
  have ec : cnb L p = e - s := by
    unfold cnb
    rw [show L.length = s + (L.length - s - 1 + 1) by omega, cnt_skip (f := bgc L p) _ 0 0 (fun i b1 b2 => h4 i b1 (by omega)), Nat.zero_add, a4, Nat.zero_add]
  rw [ec, show s + (e - s) = e by omega]
  refine ⟨a1, a2, fun i hi => ⟨fun q => ?_, fun q => (a3 i q.1 hi).mpr q.2⟩⟩
  have : s ≤ i := Decidable.byContradiction fun z => by rw [h4 i (Nat.zero_le _) (by omega)] at q; cases q
  exact ⟨this, (a3 i this hi).mp q⟩
theorem Blk_Hs {L : List (List Nat)} {p : List Nat} {s e : Nat} (h : Blk L p s e) : Hs L p := ⟨s, by have := h.2.1; have := h.1; omega, (h.2.2 s (by have := h.2.1; have := h.1; omega)).mpr ⟨Nat.le_refl _, h.1⟩⟩
/-- a run of one mate is the block of the child -/
theorem blk_run {n : Nat} {L : List (List Nat)} {p : List Nat} {s e a j : Nat} (hL : LOk n L) (hP : L.Pairwise Lx) (hp : p.length < n) (h : Blk L p s e) (h1 : s ≤ a) (h2 : a < j) (h3 : j ≤ e) (hr : ∀ i, a ≤ i → i < j → dg (dr L i) p.length = dg (dr L a) p.length) (hb : a = s ∨ dg (dr L (a - 1)) p.length < dg (dr L a) p.length) (he : j = e ∨ dg (dr L a) p.length < dg (dr L j) p.length) : Blk L (p ++ [dg (dr L a) p.length]) a j := by
  obtain ⟨k1, k2, k3⟩ := h
  refine ⟨h2, by omega, fun i hi => ?_⟩
  rw [bgc_snoc hL hp hi]
  constructor
  · rintro ⟨q1, q2⟩
    obtain ⟨s1, s2⟩ := (k3 i hi).mp q1
    constructor
    · refine Decidable.byContradiction fun z => ?_
      rcases hb with w | w
      · omega
      · have := blk_mono hP (show i ≤ a - 1 by omega) (by omega) q1 ((k3 (a - 1) (by omega)).mpr ⟨by omega, by omega⟩)
        omega
    · refine Decidable.byContradiction fun z => ?_
      rcases he with w | w
      · omega
      · have := blk_mono hP (show j ≤ i by omega) (by omega) ((k3 j (by omega)).mpr ⟨by omega, by omega⟩) q1
        omega
  · rintro ⟨q1, q2⟩
    exact ⟨(k3 i hi).mpr ⟨by omega, by omega⟩, hr i q1 q2⟩
/-- which mates can stand there -/
theorem kid_iff {n v : Nat} {L : List (List Nat)} {p : List Nat} {s e : Nat} (hp : p.length < n) (h : Blk L p s e) : (cns n L p).testBit v = true ↔ ∃ i, s ≤ i ∧ i < e ∧ dg (dr L i) p.length = v := by
  rw [cns_iff hp]
  constructor
  · rintro ⟨i, a, b, c⟩
    have := (h.2.2 i a).mp b
    exact ⟨i, this.1, this.2, c⟩
  · rintro ⟨i, a, b, c⟩
    have hi : i < L.length := by have := h.2.1; omega
    exact ⟨i, hi, (h.2.2 i hi).mpr ⟨a, b⟩, c⟩
theorem kid_none {n v : Nat} {L : List (List Nat)} {p : List Nat} {s e j : Nat} (hP : L.Pairwise Lx) (hp : p.length < n) (h : Blk L p s e) (h1 : s < j) (h2 : j ≤ e) (hv : dg (dr L (j - 1)) p.length < v) (hv2 : j = e ∨ v < dg (dr L j) p.length) : (cns n L p).testBit v = false := by
  cases c : (cns n L p).testBit v with
  | false => rfl
  | true =>
    obtain ⟨i, a, b, d⟩ := (kid_iff hp h).mp c
    have hle := h.2.1
    have bb : ∀ z, s ≤ z → z < e → bgc L p z = true := fun z z1 z2 => (h.2.2 z (by omega)).mpr ⟨z1, z2⟩
    by_cases q : i ≤ j - 1
    · have := blk_mono hP q (by omega) (bb i a b) (bb (j - 1) (by omega) (by omega)); omega
    · rcases hv2 with w | w
      · omega
      · have := blk_mono hP (show j ≤ i by omega) (by omega) (bb j (by omega) (by omega)) (bb i a b); omega
/-! the class's walk -/
theorem e_pap {N i n k : Nat} {L : List (List Nat)} {w : Wd} (hL : LOk n L) (h : RTC 0 L w) (hi : i < L.length) (hk : k < n) : f_X4_paper N (gA w 20 0 i) (nI k) w = some (nI (dg (dr L i) k), w) := by
  have hn := hL.1
  have hp := LOk_at hL hi
  rw [h.2 i hi, e_paper (by have := Pm_cd hp hn; omega) (by omega), Pm_pp hp hn]
def kd (n : Nat) (L : List (List Nat)) (p : List Nat) (v : Nat) : Nat := bn ((cns n L p).testBit v)
theorem e_parts_L {N n : Nat} {L : List (List Nat)} {p : List Nat} {s e : Nat} {w : Wd} (hL : LOk n L) (hP : L.Pairwise Lx) (h : RTC 0 L w) (hp : p.length < n) (hB : Blk L p s e) : ∀ (m j c F : Nat), j + m = e → s < j → m < F → X2_partsAt_L1 N 0 (nI s) (nI e) (nI p.length) F (nI c) (nI j) w = some (nI (c + smv (kd n L p) (n - dg (dr L (j - 1)) p.length - 1) (dg (dr L (j - 1)) p.length + 1)), w) := by
  have hn := hL.1
  have hll := hL.2.1
  have hle := hB.2.1
  have gl : ∀ i, i < e → dg (dr L i) p.length < n := fun i hi => Pm_dg (LOk_at hL (by omega)) hp
  intro m
  induction m with
  | zero =>
    intro j c F hj hs hF
    obtain ⟨F, rfl, _⟩ := fuel_s hF
    rw [X2_partsAt_L1, iT (nI_le (by omega) (by omega)), smv_zero _ _ (fun v a b => by unfold kd; rw [kid_none hP hp hB hs (by omega) (by omega) (Or.inl (by omega))]; rfl), Nat.add_zero]
  | succ m ih =>
    intro j c F hj hs hF
    obtain ⟨F, rfl, hF'⟩ := fuel_s hF
    have g1 := gl (j - 1) (by omega)
    have g2 := gl j (by omega)
    rw [X2_partsAt_L1, iF (nI_ge (by omega) (by omega)), iF (fun q => by have := (nI_eq (by omega) (by omega)).mp q; omega), gd_in (by omega) (by omega), nI_clamp (by omega), e_pap hL h (by omega) hp]
    simp only [bs, l0, l1, l2, l3, l4, l5, l6, l7, l8, l9, l10, l12, l15, l30, l31, l32, l40, l42, l48, l57, l60, l64, l98, l99, l100, l109, l110, l112, l115, l265, l1000, l518400, ngd]
    rw [pk_sub (by omega), gd_in (by omega) (by omega), nI_clamp (by omega), e_pap hL h (by omega) hp]
    simp only [bs, l0, l1, l2, l3, l4, l5, l6, l7, l8, l9, l10, l12, l15, l30, l31, l32, l40, l42, l48, l57, l60, l64, l98, l99, l100, l109, l110, l112, l115, l265, l1000, l518400, ngd]
    have hm := blk_mono hP (show j - 1 ≤ j by omega) (by omega) ((hB.2.2 (j - 1) (by omega)).mpr ⟨by omega, by omega⟩) ((hB.2.2 j (by omega)).mpr ⟨by omega, by omega⟩)
    by_cases q : dg (dr L j) p.length = dg (dr L (j - 1)) p.length
    · rw [iT (by rw [q]), nI_add, ih (j + 1) c F (by omega) (by omega) (by omega), Nat.add_sub_cancel, q]
    · rw [iF (fun z => q ((nI_eq (by omega) (by omega)).mp z)), nI_add, nI_add, ih (j + 1) (c + 1) F (by omega) (by omega) (by omega), Nat.add_sub_cancel]
      have hk1 : kd n L p (dg (dr L j) p.length) = 1 := by unfold kd; rw [(kid_iff hp hB).mpr ⟨j, by omega, by omega, rfl⟩]; rfl
      have e1 : smv (kd n L p) (n - dg (dr L (j - 1)) p.length - 1) (dg (dr L (j - 1)) p.length + 1) = 1 + smv (kd n L p) (n - dg (dr L j) p.length - 1) (dg (dr L j) p.length + 1) := by
        have e2 := smv_jump (f := kd n L p) (n := n) (u := dg (dr L (j - 1)) p.length) (t := dg (dr L j) p.length) (by omega) g2 (fun v a b => by unfold kd; rw [kid_none hP hp hB hs (by omega) a (Or.inr b)]; rfl)
        have e3 : smv (kd n L p) (n - dg (dr L (j - 1)) p.length) (dg (dr L (j - 1)) p.length) = kd n L p (dg (dr L (j - 1)) p.length) + smv (kd n L p) (n - dg (dr L (j - 1)) p.length - 1) (dg (dr L (j - 1)) p.length + 1) := by
          conv => lhs; rw [show n - dg (dr L (j - 1)) p.length = (n - dg (dr L (j - 1)) p.length - 1) + 1 by omega]
          rfl
        have e4 : smv (kd n L p) (n - dg (dr L j) p.length) (dg (dr L j) p.length) = kd n L p (dg (dr L j) p.length) + smv (kd n L p) (n - dg (dr L j) p.length - 1) (dg (dr L j) p.length + 1) := by
          conv => lhs; rw [show n - dg (dr L j) p.length = (n - dg (dr L j) p.length - 1) + 1 by omega]
          rfl
        omega
      rw [e1, Nat.add_assoc]
theorem e_parts {N n : Nat} {L : List (List Nat)} {p : List Nat} {s e : Nat} {w : Wd} (hN : 1000 ≤ N) (hL : LOk n L) (hP : L.Pairwise Lx) (h : RTC 0 L w) (hp : p.length < n) (hB : Blk L p s e) : f_X2_partsAt N 0 (nI s) (nI e) (nI p.length) w = some (nI (pc (cns n L p)), w) := by
  have hn := hL.1
  have hll := hL.2.1
  have hle := hB.2.1
  have hse := hB.1
  obtain ⟨M, rfl, _⟩ := fuel_s (show 900 < N by omega)
  have g1 : dg (dr L s) p.length < n := Pm_dg (LOk_at hL (by omega)) hp
  unfold f_X2_partsAt
  simp only [bs, l0, l1, l2, l3, l4, l5, l6, l7, l8, l9, l10, l12, l15, l30, l31, l32, l40, l42, l48, l57, l60, l64, l98, l99, l100, l109, l110, l112, l115, l265, l1000, l518400, ngd]
  rw [X2_partsAt_L1, iF (nI_ge (by omega) (by omega)), iT rfl]
  simp only [bs, l0, l1, l2, l3, l4, l5, l6, l7, l8, l9, l10, l12, l15, l30, l31, l32, l40, l42, l48, l57, l60, l64, l98, l99, l100, l109, l110, l112, l115, l265, l1000, l518400, ngd]
  rw [nI_add, nI_add, e_parts_L hL hP h hp hB (e - (s + 1)) (s + 1) (0 + 1) M (by omega) (by omega) (by omega), Nat.add_sub_cancel, ← smv_pc hn (cns_lt hL) (fun j hj => (cns_bit hL hj).2)]
  simp only [bs, l0, l1, l2, l3, l4, l5, l6, l7, l8, l9, l10, l12, l15, l30, l31, l32, l40, l42, l48, l57, l60, l64, l98, l99, l100, l109, l110, l112, l115, l265, l1000, l518400, ngd]
  have hk1 : kd n L p (dg (dr L s) p.length) = 1 := by unfold kd; rw [(kid_iff hp hB).mpr ⟨s, by omega, by omega, rfl⟩]; rfl
  have e2 : smv (kd n L p) n 0 = smv (kd n L p) (n - dg (dr L s) p.length) (dg (dr L s) p.length) := smv_first g1 (fun v hv => by
    unfold kd
    cases c : (cns n L p).testBit v with
    | false => rfl
    | true =>
      obtain ⟨i, a, b, d⟩ := (kid_iff hp hB).mp c
      have := blk_mono hP a (by omega) ((hB.2.2 s (by omega)).mpr ⟨Nat.le_refl _, by omega⟩) ((hB.2.2 i (by omega)).mpr ⟨a, b⟩)
      omega)
  have e3 : smv (kd n L p) (n - dg (dr L s) p.length) (dg (dr L s) p.length) = kd n L p (dg (dr L s) p.length) + smv (kd n L p) (n - dg (dr L s) p.length - 1) (dg (dr L s) p.length + 1) := by
    conv => lhs; rw [show n - dg (dr L s) p.length = (n - dg (dr L s) p.length - 1) + 1 by omega]
    rfl
  rw [show smv (fun v => bn ((cns n L p).testBit v)) n 0 = smv (kd n L p) n 0 from rfl, e2, e3, hk1]
/-- each run's value, by mate -/
def kvl (n : Nat) (L : List (List Nat)) (p : List Nat) (V : Nat → Nat) (v : Nat) : Nat := if (cns n L p).testBit v = true then V v else 0
theorem e_share_L {N n x y E : Nat} {rec : Nat → Int32 → Int32 → Int32 → Int32 → Int32 → Int32 → Wd → Option (Int32 × Wd)} {V : Nat → Nat} {L : List (List Nat)} {p : List Nat} {s e : Nat} {w : Wd} (hL : LOk n L) (hP : L.Pairwise Lx) (h : RTC 0 L w) (hp : p.length < n) (hB : Blk L p s e) (hxn : x < n) (hyn : y < n)
    (hV : x ≤ p.length → ∀ v, V v = if v = y then E else 0)
    (hr : p.length < x → ∀ v a j, Blk L (p ++ [v]) a j → rec 0 (nI a) (nI j) (nI (p.length + 1)) (nI x) (nI y) (nI E) w = some (nI (V v), w)) :
    ∀ (m j a c F : Nat), j + m = e → s ≤ a → a < j → m + 1 < F → (∀ i, a ≤ i → i < j → dg (dr L i) p.length = dg (dr L a) p.length) → (a = s ∨ dg (dr L (a - 1)) p.length < dg (dr L a) p.length) → X2_shareOf_L1 N rec 0 (nI e) (nI p.length) (nI x) (nI y) (nI E) F (nI c) (nI a) (nI j) w = some (nI (c + smv (kvl n L p V) (n - dg (dr L a) p.length) (dg (dr L a) p.length)), w) := by
  have hn := hL.1
  have hll := hL.2.1
  have hle := hB.2.1
  have gl : ∀ i, i < e → dg (dr L i) p.length < n := fun i hi => Pm_dg (LOk_at hL (by omega)) hp
  -- one run done
  have one : ∀ (go : Int32 → Int32 → Int32 → Wd → Option (Int32 × Wd)) (j a c : Nat), j ≤ e → s ≤ a → a < j → (∀ i, a ≤ i → i < j → dg (dr L i) p.length = dg (dr L a) p.length) → (a = s ∨ dg (dr L (a - 1)) p.length < dg (dr L a) p.length) → (j = e ∨ dg (dr L a) p.length < dg (dr L j) p.length) → X2_shareOf_J79 N rec 0 go (nI e) (nI p.length) (nI x) (nI y) (nI E) (nI c) (nI a) (nI j) w = go (nI (c + kvl n L p V (dg (dr L a) p.length))) (nI j) (nI (j + 1)) w := by
    intro go j a c h1 h2 h3 h4 h5 h6
    have hv : kvl n L p V (dg (dr L a) p.length) = V (dg (dr L a) p.length) := by
      unfold kvl; rw [if_pos ((kid_iff hp hB).mpr ⟨a, by omega, by omega, rfl⟩)]
    have ga := gl a (by omega)
    rw [hv]
    unfold X2_shareOf_J79
    simp only [bs, l0, l1, l2, l3, l4, l5, l6, l7, l8, l9, l10, l12, l15, l30, l31, l32, l40, l42, l48, l57, l60, l64, l98, l99, l100, l109, l110, l112, l115, l265, l1000, l518400, ngd]
    by_cases q : x ≤ p.length
    · rw [iT (nI_le q (by omega)), gd_in (by omega) (by omega), nI_clamp (by omega), e_pap hL h (by omega) hp, hV q]
      simp only [bs, l0, l1, l2, l3, l4, l5, l6, l7, l8, l9, l10, l12, l15, l30, l31, l32, l40, l42, l48, l57, l60, l64, l98, l99, l100, l109, l110, l112, l115, l265, l1000, l518400, ngd]
      by_cases q2 : dg (dr L a) p.length = y
      · rw [iT (by rw [q2]), if_pos q2, nI_add, nI_add]
      · rw [iF (fun z => q2 ((nI_eq (by omega) (by omega)).mp z)), if_neg q2, Nat.add_zero, nI_add]
    · rw [iF (nI_ge (by omega) (by omega)), nI_add, nI_add, hr (by omega) _ a j (blk_run hL hP hp hB h2 h3 h1 h4 h5 h6)]
      simp only [bs, l0, l1, l2, l3, l4, l5, l6, l7, l8, l9, l10, l12, l15, l30, l31, l32, l40, l42, l48, l57, l60, l64, l98, l99, l100, l109, l110, l112, l115, l265, l1000, l518400, ngd]
      rw [nI_add]
  intro m
  induction m with
  | zero =>
    intro j a c F hj hs haj hF hr1 hb
    obtain ⟨F, rfl, hF'⟩ := fuel_s (show 0 < F by omega)
    obtain ⟨F, rfl, _⟩ := fuel_s (show 0 < F by omega)
    rw [X2_shareOf_L1, iF (nI_nlt (by omega) (by omega)), iT (by rw [show j = e by omega]), one _ j a c (by omega) hs haj hr1 hb (Or.inl (by omega)), X2_shareOf_L1, iT (nI_lt (by omega) (by omega))]
    rw [smv_end (gl a (by omega)) (fun v q1 q2 => by
      have := kid_none (v := v) hP hp hB (show s < j by omega) (by omega) (by rw [hr1 (j - 1) (by omega) (by omega)]; exact q1) (Or.inl (by omega))
      unfold kvl; rw [this, if_neg (by simp)])]
  | succ m ih =>
    intro j a c F hj hs haj hF hr1 hb
    obtain ⟨F, rfl, hF'⟩ := fuel_s (show 0 < F by omega)
    have g1 := gl a (by omega)
    have g2 := gl j (by omega)
    rw [X2_shareOf_L1, iF (nI_nlt (by omega) (by omega)), iF (fun q => by have := (nI_eq (by omega) (by omega)).mp q; omega), gd_in (by omega) (by omega), nI_clamp (by omega), e_pap hL h (by omega) hp]
    simp only [bs, l0, l1, l2, l3, l4, l5, l6, l7, l8, l9, l10, l12, l15, l30, l31, l32, l40, l42, l48, l57, l60, l64, l98, l99, l100, l109, l110, l112, l115, l265, l1000, l518400, ngd]
    rw [gd_in (by omega) (by omega), nI_clamp (by omega), e_pap hL h (by omega) hp]
    simp only [bs, l0, l1, l2, l3, l4, l5, l6, l7, l8, l9, l10, l12, l15, l30, l31, l32, l40, l42, l48, l57, l60, l64, l98, l99, l100, l109, l110, l112, l115, l265, l1000, l518400, ngd]
    have hm := blk_mono hP (show a ≤ j by omega) (by omega) ((hB.2.2 a (by omega)).mpr ⟨by omega, by omega⟩) ((hB.2.2 j (by omega)).mpr ⟨by omega, by omega⟩)
    by_cases q : dg (dr L j) p.length = dg (dr L a) p.length
    · rw [iT (by rw [q]), nI_add, ih (j + 1) a c F (by omega) hs (by omega) (by omega) (fun i i1 i2 => by
        rcases Nat.lt_or_ge i j with z | z
        · exact hr1 i i1 z
        · rw [show i = j by omega]; exact q) hb]
    · have hlt : dg (dr L a) p.length < dg (dr L j) p.length := by omega
      rw [iF (fun z => q ((nI_eq (by omega) (by omega)).mp z)), one _ j a c (by omega) hs haj hr1 hb (Or.inr hlt)]
      rw [ih (j + 1) j _ F (by omega) (by omega) (by omega) (by omega) (fun i i1 i2 => by rw [show i = j by omega]) (Or.inr (by rw [hr1 (j - 1) (by omega) (by omega)]; exact hlt))]
      rw [smv_jump (f := kvl n L p V) hlt g2 (fun v q1 q2 => by
        have := kid_none (v := v) hP hp hB (show s < j by omega) (by omega) (by rw [hr1 (j - 1) (by omega) (by omega)]; exact q1) (Or.inr q2)
        unfold kvl; rw [this, if_neg (by simp)]), Nat.add_assoc]
theorem e_share {N n x y : Nat} {L : List (List Nat)} {w : Wd} (hN : 1000 ≤ N) (hL : LOk n L) (hP : L.Pairwise Lx) (h : RTC 0 L w) (hxn : x < n) (hyn : y < n) : ∀ (t K : Nat) (p : List Nat) (s e wt : Nat), p.length + t = x → t < K → wt < 2 ^ 31 → Blk L p s e → f_X2_shareOf N K 0 (nI s) (nI e) (nI p.length) (nI x) (nI y) (nI wt) w = some (nI (Cv n L y t p wt), w) := by
  have hn := hL.1
  have hll := hL.2.1
  intro t
  induction t with
  | zero =>
    intro K p s e wt ht hK hw hB
    obtain ⟨K, rfl, hK'⟩ := fuel_s hK
    have hp : p.length < n := by omega
    have hse := hB.1
    have hle := hB.2.1
    have c0 := pc_pos hL hp (Blk_Hs hB)
    have c6 := pc_kids hL hp (Blk_Hs hB)
    have c0' : ¬ nI (pc (cns n L p)) = nI 0 := fun q => by have := (nI_eq (by omega) (by omega)).mp q; omega
    have g1 : dg (dr L s) p.length < n := Pm_dg (LOk_at hL (by omega)) hp
    rw [f_X2_shareOf]
    simp only [bs, l0, l1, l2, l3, l4, l5, l6, l7, l8, l9, l10, l12, l15, l30, l31, l32, l40, l42, l48, l57, l60, l64, l98, l99, l100, l109, l110, l112, l115, l265, l1000, l518400, ngd]
    rw [iF (nI_nlt (by omega) (by omega)), iT (nI_lt (by omega) (by omega)), e_parts hN hL hP h hp hB]
    simp only [bs, l0, l1, l2, l3, l4, l5, l6, l7, l8, l9, l10, l12, l15, l30, l31, l32, l40, l42, l48, l57, l60, l64, l98, l99, l100, l109, l110, l112, l115, l265, l1000, l518400, ngd]
    rw [iF c0', gd_t c0', pk_div (by omega) c0 (by omega), nI_add, e_share_L (V := fun v => if v = y then wt / pc (cns n L p) else 0) hL hP h hp hB hxn hyn (fun _ _ => rfl) (fun q => by omega) (e - (s + 1)) (s + 1) s 0 N (by omega) (Nat.le_refl _) (by omega) (by omega) (fun i a b => by rw [show i = s by omega]) (Or.inl rfl)]
    simp only [bs, l0, l1, l2, l3, l4, l5, l6, l7, l8, l9, l10, l12, l15, l30, l31, l32, l40, l42, l48, l57, l60, l64, l98, l99, l100, l109, l110, l112, l115, l265, l1000, l518400, ngd]
    rw [Nat.zero_add, Cv, smv_first g1 (fun v hv => by
      cases c : (cns n L p).testBit v with
      | false => rfl
      | true =>
        obtain ⟨i, a, b, d⟩ := (kid_iff hp hB).mp c
        have := blk_mono hP a (by omega) ((hB.2.2 s (by omega)).mpr ⟨Nat.le_refl _, by omega⟩) ((hB.2.2 i (by omega)).mpr ⟨a, b⟩)
        omega)]
    rfl
  | succ t ih =>
    intro K p s e wt ht hK hw hB
    obtain ⟨K, rfl, hK'⟩ := fuel_s hK
    have hp : p.length < n := by omega
    have hse := hB.1
    have hle := hB.2.1
    have c0 := pc_pos hL hp (Blk_Hs hB)
    have c6 := pc_kids hL hp (Blk_Hs hB)
    have c0' : ¬ nI (pc (cns n L p)) = nI 0 := fun q => by have := (nI_eq (by omega) (by omega)).mp q; omega
    have g1 : dg (dr L s) p.length < n := Pm_dg (LOk_at hL (by omega)) hp
    have hdl := Nat.div_le_self wt (pc (cns n L p))
    rw [f_X2_shareOf]
    simp only [bs, l0, l1, l2, l3, l4, l5, l6, l7, l8, l9, l10, l12, l15, l30, l31, l32, l40, l42, l48, l57, l60, l64, l98, l99, l100, l109, l110, l112, l115, l265, l1000, l518400, ngd]
    rw [iF (nI_nlt (by omega) (by omega)), iT (nI_lt (by omega) (by omega)), e_parts hN hL hP h hp hB]
    simp only [bs, l0, l1, l2, l3, l4, l5, l6, l7, l8, l9, l10, l12, l15, l30, l31, l32, l40, l42, l48, l57, l60, l64, l98, l99, l100, l109, l110, l112, l115, l265, l1000, l518400, ngd]
    rw [iF c0', gd_t c0', pk_div (by omega) c0 (by omega), nI_add, e_share_L (V := fun v => Cv n L y t (p ++ [v]) (wt / pc (cns n L p))) hL hP h hp hB hxn hyn (fun q => by omega) (fun _ v a j hb => by
      have := ih K (p ++ [v]) a j (wt / pc (cns n L p)) (by rw [List.length_append, List.length_singleton]; omega) (by omega) (by omega) hb
      rw [List.length_append, List.length_singleton] at this
      exact this) (e - (s + 1)) (s + 1) s 0 N (by omega) (Nat.le_refl _) (by omega) (by omega) (fun i a b => by rw [show i = s by omega]) (Or.inl rfl)]
    simp only [bs, l0, l1, l2, l3, l4, l5, l6, l7, l8, l9, l10, l12, l15, l30, l31, l32, l40, l42, l48, l57, l60, l64, l98, l99, l100, l109, l110, l112, l115, l265, l1000, l518400, ngd]
    rw [Nat.zero_add, Cv, smv_first g1 (fun v hv => by
      cases c : (cns n L p).testBit v with
      | false => rfl
      | true =>
        obtain ⟨i, a, b, d⟩ := (kid_iff hp hB).mp c
        have := blk_mono hP a (by omega) ((hB.2.2 s (by omega)).mpr ⟨Nat.le_refl _, by omega⟩) ((hB.2.2 i (by omega)).mpr ⟨a, b⟩)
        omega)]
    rfl
/-! the model's walk -/
theorem lN_sum (a b : Nat) : lN a + lN b = lN (a + b) := by rw [lN_add]
abbrev SZ : List Nat := [42, 526, 527]
theorem RTS_z {n : Nat} {L : List (List Nat)} {w w' : Wd} (h : RTS n L w) (g : ag SZ w w') : RTS n L w' := RTS_ag h g
theorem e_turnOn_L {N n x y : Nat} {rec : Int32 → Int32 → Int32 → Int64 → Wd → Option Wd} {V : Nat → Nat} {W : Nat} {L : List (List Nat)} {p : List Nat} (hN : 1000 ≤ N) (hL : LOk n L) (hp : p.length < n) (hh : Hs L p)
    (hr : ∀ v w, (cns n L p).testBit v = true → RTS n L w → gI w 510 0 = nI n → (∀ z, z < p.length + 1 → gA w 42 0 z = nI (dg (p ++ [v]) z)) → ∃ w', rec (nI (p.length + 1)) (nI x) (nI y) (lN (W * (60 / pc (cns n L p)))) w = some w' ∧ ag SZ w w' ∧ (∀ z, z < p.length + 1 → gA w' 42 0 z = gA w 42 0 z) ∧ gL w' 527 0 = gL w 527 0 + lN (V v)) :
    ∀ (m v F : Nat) (w : Wd), v + m = n → m < F → RTS n L w → gI w 510 0 = nI n → (∀ z, z < p.length → gA w 42 0 z = nI (dg p z)) → ∃ w', X5_turnOn_L1 N rec (nI p.length) (nI x) (nI y) (lN W) (nI (cns n L p)) F (nI v) w = some w' ∧ ag SZ w w' ∧ (∀ z, z < p.length → gA w' 42 0 z = gA w 42 0 z) ∧ gL w' 527 0 = gL w 527 0 + lN (smv (kvl n L p V) m v) := by
  have hn := hL.1
  have c0 := pc_pos hL hp hh
  have c6 := pc_kids hL hp hh
  have c0' : ¬ nI (pc (cns n L p)) = nI 0 := fun q => by have := (nI_eq (by omega) (by omega)).mp q; omega
  have hlt := cns_lt (n := n) (L := L) (H := p) hL
  intro m
  induction m with
  | zero =>
    intro v F w hv hF hT hm hz
    obtain ⟨F, rfl, _⟩ := fuel_s hF
    rw [X5_turnOn_L1, hm, iT (nI_le (by omega) (by omega))]
    exact ⟨w, rfl, ag.rf _ _, fun _ _ => rfl, (Int64.add_zero _).symm⟩
  | succ m ih =>
    intro v F w hv hF hT hm hz
    obtain ⟨F, rfl, hF'⟩ := fuel_s hF
    rw [X5_turnOn_L1, hm, iF (nI_ge (by omega) (by omega)), e_has (by omega) (by omega)]
    simp only [bs, l0, l1, l2, l3, l4, l5, l6, l7, l8, l9, l10, l12, l15, l30, l31, l32, l40, l42, l48, l57, l60, l64, l98, l99, l100, l109, l110, l112, l115, l265, l1000, l518400, ngd]
    cases c : (cns n L p).testBit v with
    | false =>
      obtain ⟨w', e, a1, a2, a3⟩ := ih (v + 1) F w (by omega) (by omega) hT hm hz
      rw [iT bnFc, nI_add]
      refine ⟨w', e, a1, a2, ?_⟩
      rw [a3, smv, show kvl n L p V v = 0 from by unfold kvl; rw [c, if_neg (by simp)], Nat.zero_add]
    | true =>
      rw [iF bnTc, gd_in (by omega) (by omega), nI_clamp (by omega)]
      obtain ⟨w1, hw1⟩ : ∃ w1, w1 = sA w 42 0 (upd (gA w 42 0) p.length (nI v)) := ⟨_, rfl⟩
      have g1 : ag SZ w w1 := by rw [hw1]; exact (ag.rf _ w).sA (by simp)
      have z1 : ∀ z, z < p.length + 1 → gA w1 42 0 z = nI (dg (p ++ [v]) z) := fun z hz' => by
        rw [hw1, gA_sA, if_pos ⟨rfl, rfl⟩]
        by_cases q : z = p.length
        · rw [q, pk_us, dg_app_r]
        · rw [pk_un q, dg_app_l (by omega)]; exact hz z (by omega)
      rw [← hw1, e_sizeOf hN hlt]
      simp only [bs, l0, l1, l2, l3, l4, l5, l6, l7, l8, l9, l10, l12, l15, l30, l31, l32, l40, l42, l48, l57, l60, l64, l98, l99, l100, l109, l110, l112, l115, l265, l1000, l518400, ngd]
      rw [gd_t c0', pk_div (by omega) c0 (by omega), nI_l (by have := Nat.div_le_self 60 (pc (cns n L p)); omega), lN_mul, nI_add, nI_add]
      obtain ⟨w2, e2, b1, b2, b3⟩ := hr v w1 c (RTS_z hT g1) (by rw [agI g1 510 0]; exact hm) z1
      rw [e2]
      simp only [bs, l0, l1, l2, l3, l4, l5, l6, l7, l8, l9, l10, l12, l15, l30, l31, l32, l40, l42, l48, l57, l60, l64, l98, l99, l100, l109, l110, l112, l115, l265, l1000, l518400, ngd]
      have z2 : ∀ z, z < p.length → gA w2 42 0 z = gA w 42 0 z := fun z hz' => by
        rw [b2 z (by omega), hw1, gA_sA, if_pos ⟨rfl, rfl⟩, pk_un (by omega)]
      obtain ⟨w', e, a1, a2, a3⟩ := ih (v + 1) F w2 (by omega) (by omega) (RTS_z (RTS_z hT g1) b1) (by rw [agI b1 510 0, agI g1 510 0]; exact hm) (fun z hz' => by rw [z2 z hz']; exact hz z hz')
      refine ⟨w', e, (g1.tr b1).tr a1, fun z hz' => by rw [a2 z hz', z2 z hz'], ?_⟩
      rw [a3, b3, show gL w1 527 0 = gL w 527 0 from by rw [hw1]; rfl, Int64.add_assoc, lN_sum, smv, show kvl n L p V v = V v from by unfold kvl; rw [c, if_pos rfl]]
theorem e_turnOn {N n x y : Nat} {L : List (List Nat)} (hN : 1000 ≤ N) (hL : LOk n L) (hx : x < n) (hy : y < n) : ∀ (m K : Nat) (p : List Nat) (wt : Nat) (w : Wd), p.length + m = n → m < K → Hs L p → RTS n L w → gI w 510 0 = nI n → (∀ z, z < p.length → gA w 42 0 z = nI (dg p z)) → ∃ w', f_X5_turnOn N K (nI p.length) (nI x) (nI y) (lN wt) w = some w' ∧ ag SZ w w' ∧ (∀ z, z < p.length → gA w' 42 0 z = gA w 42 0 z) ∧ gL w' 527 0 = gL w 527 0 + lN (Mv n L x y m p wt) := by
  have hn := hL.1
  intro m
  induction m with
  | zero =>
    intro K p wt w hm hK hh hT h5 hz
    obtain ⟨K, rfl, hK'⟩ := fuel_s hK
    have hd : dg p x < n := (Hs_p hL hh).2.1 _ (dg_mem (by omega))
    rw [f_X5_turnOn, h5, iT (by rw [show p.length = n by omega]), gd_in (by omega) (by omega), nI_clamp (by omega), hz x (by omega), Mv]
    by_cases q : dg p x = y
    · rw [iT (by rw [q]), if_pos q]
      exact ⟨_, rfl, (ag.rf _ w).sL (by simp), fun _ _ => rfl, rfl⟩
    · rw [iF (fun z => q ((nI_eq (by omega) (by omega)).mp z)), if_neg q]
      exact ⟨_, rfl, (ag.rf _ w).sL (by simp), fun _ _ => rfl, rfl⟩
  | succ m ih =>
    intro K p wt w hm hK hh hT h5 hz
    obtain ⟨K, rfl, hK'⟩ := fuel_s hK
    obtain ⟨p1, p2, p3⟩ := Hs_p hL hh
    have hp : p.length < n := by omega
    obtain ⟨w1, e1, a1, a2⟩ := e_cans (N := N) hN hL p2 p1 hT h5 hz
    have g1 : ag SZ w w1 := a1.mono (by decide)
    obtain ⟨w', e, b1, b2, b3⟩ := e_turnOn_L (N := N) (x := x) (y := y) (rec := f_X5_turnOn N K) (V := fun v => Mv n L x y m (p ++ [v]) (wt * (60 / pc (cns n L p)))) (W := wt) hN hL hp hh (fun v w2 c t1 t2 t3 => by
      have hl : (p ++ [v]).length = p.length + 1 := by rw [List.length_append, List.length_singleton]
      have := ih K (p ++ [v]) (wt * (60 / pc (cns n L p))) w2 (by omega) (by omega) (Hs_snoc hL hp c) t1 t2 (by rw [hl]; exact t3)
      rw [hl] at this
      exact this) n 0 N w1 (by omega) (by omega) (RTS_z hT g1) (by rw [agI a1 510 0]; exact h5) (fun z hz' => by rw [agA a1 42 0]; exact hz z hz')
    rw [f_X5_turnOn, h5, iF (fun q => by have := (nI_eq (by omega) (by omega)).mp q; omega), e1]
    simp only [bs, l0, l1, l2, l3, l4, l5, l6, l7, l8, l9, l10, l12, l15, l30, l31, l32, l40, l42, l48, l57, l60, l64, l98, l99, l100, l109, l110, l112, l115, l265, l1000, l518400, ngd]
    rw [e]
    refine ⟨w', rfl, g1.tr b1, fun z hz' => by rw [b2 z hz', agA a1 42 0], ?_⟩
    rw [b3, agL a1 527 0]; rfl
