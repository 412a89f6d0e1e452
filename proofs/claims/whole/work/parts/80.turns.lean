/-! turns: sums over mates -/
def smv (f : Nat → Nat) : Nat → Nat → Nat
  | 0, _ => 0
  | m + 1, v => f v + smv f m (v + 1)
theorem smv_congr {f g : Nat → Nat} : ∀ (m v : Nat), (∀ j, v ≤ j → j < v + m → f j = g j) → smv f m v = smv g m v := by
  intro m
  induction m with
  | zero => intro v _; rfl
  | succ m ih => intro v h; rw [smv, smv, h v (by omega) (by omega), ih (v + 1) (fun j a b => h j (by omega) (by omega))]
theorem smv_zero {f : Nat → Nat} : ∀ (m v : Nat), (∀ j, v ≤ j → j < v + m → f j = 0) → smv f m v = 0 := by
  intro m
  induction m with
  | zero => intro v _; rfl
  | succ m ih => intro v h; rw [smv, h v (by omega) (by omega), ih (v + 1) (fun j a b => h j (by omega) (by omega))]
theorem smv_app (f : Nat → Nat) : ∀ (a b v : Nat), smv f (a + b) v = smv f a v + smv f b (v + a) := by
  intro a
  induction a with
  | zero => intro b v; rw [Nat.zero_add, smv, Nat.zero_add, Nat.add_zero]
  | succ a ih => intro b v; rw [show a + 1 + b = (a + b) + 1 by omega, smv, smv, ih, show v + 1 + a = v + (a + 1) by omega]; omega
theorem smv_mul (f : Nat → Nat) (c : Nat) : ∀ (m v : Nat), smv f m v * c = smv (fun j => f j * c) m v := by
  intro m
  induction m with
  | zero => intro v; rw [smv, smv, Nat.zero_mul]
  | succ m ih => intro v; rw [smv, smv, Nat.add_mul, ih]
theorem smv_le {f g : Nat → Nat} (h : ∀ j, f j ≤ g j) : ∀ (m v : Nat), smv f m v ≤ smv g m v := by
  intro m
  induction m with
  | zero => intro v; exact Nat.le_refl _
  | succ m ih => intro v; rw [smv, smv]; exact Nat.add_le_add (h v) (ih (v + 1))
/-- from u on, the next one that counts is t -/
theorem smv_jump {f : Nat → Nat} {n u t : Nat} (h1 : u < t) (h2 : t < n) (h : ∀ j, u < j → j < t → f j = 0) : smv f (n - u) u = f u + smv f (n - t) t := by
  rw [show n - u = (1 + (t - u - 1)) + (n - t) by omega, smv_app, smv_app, smv_zero (t - u - 1) (u + 1) (fun j a b => h j (by omega) (by omega)), Nat.add_zero, show u + (1 + (t - u - 1)) = t by omega]
  rfl
theorem smv_end {f : Nat → Nat} {n u : Nat} (h1 : u < n) (h : ∀ j, u < j → j < n → f j = 0) : smv f (n - u) u = f u := by
  rw [show n - u = (n - u - 1) + 1 by omega, smv, smv_zero (n - u - 1) (u + 1) (fun j a b => h j (by omega) (by omega)), Nat.add_zero]
theorem smv_first {f : Nat → Nat} {n t : Nat} (h2 : t < n) (h : ∀ j, j < t → f j = 0) : smv f n 0 = smv f (n - t) t := by
  rw [show n = t + (n - t) by omega, smv_app, smv_zero t 0 (fun j _ b => h j (by omega)), Nat.zero_add, Nat.zero_add, Nat.add_sub_cancel_left]
theorem smv_pc6 : ∀ s, s < 64 → smv (fun v => bn (s.testBit v)) 6 0 = pc s := by decide +kernel
theorem smv_pc {s n : Nat} (hn : n ≤ 6) (hs : s < 64) (h : ∀ j, s.testBit j = true → j < n) : smv (fun v => bn (s.testBit v)) n 0 = pc s := by
  rw [← smv_pc6 s hs, show 6 = n + (6 - n) by omega, smv_app, smv_zero (6 - n) (0 + n) (fun j a b => by
    cases e : s.testBit j with
    | false => rfl
    | true => have := h j e; omega), Nat.add_zero]
theorem smv_const {s n K : Nat} (hn : n ≤ 6) (hs : s < 64) (h : ∀ j, s.testBit j = true → j < n) : smv (fun v => if s.testBit v = true then K else 0) n 0 = pc s * K := by
  rw [← smv_pc hn hs h, smv_mul]
  refine smv_congr _ _ (fun j _ _ => ?_)
  cases e : s.testBit j with
  | false => rw [if_neg (by simp), bnf, Nat.zero_mul]
  | true => rw [if_pos rfl, bnt, Nat.one_mul]
/-! children -/
theorem orf_keep {f : Nat → Bool} {g : Nat → Nat} {j : Nat} : ∀ (m k s : Nat), s.testBit j = true → (orf f g m k s).testBit j = true := by
  intro m
  induction m with
  | zero => intro k s h; exact h
  | succ m ih =>
    intro k s h
    rw [orf]
    refine ih _ _ ?_
    by_cases c : f k = true
    · rw [if_pos c, Nat.testBit_or, h, Bool.true_or]
    · rw [if_neg c]; exact h
theorem orf_in {f : Nat → Bool} {g : Nat → Nat} {j i : Nat} (hf : f i = true) (hg : g i = j) : ∀ (m k s : Nat), k ≤ i → i < k + m → (orf f g m k s).testBit j = true := by
  intro m
  induction m with
  | zero => intro k s a b; omega
  | succ m ih =>
    intro k s a b
    rw [orf]
    rcases Nat.eq_or_lt_of_le a with q | q
    · refine orf_keep _ _ _ ?_
      rw [q, if_pos hf, Nat.testBit_or, shl_bit, hg]; simp
    · exact ih _ _ (by omega) (by omega)
theorem cns_iff {n v : Nat} {L : List (List Nat)} {p : List Nat} (hp : p.length < n) : (cns n L p).testBit v = true ↔ ∃ i, i < L.length ∧ bgc L p i = true ∧ dg (dr L i) p.length = v := by
  unfold cns
  rw [if_pos hp]
  constructor
  · intro h
    rcases orf_bit _ _ _ h with q | ⟨i, a, b, c, d⟩
    · simp at q
    · exact ⟨i, by omega, c, d⟩
  · rintro ⟨i, a, b, c⟩
    exact orf_in (g := fun i => dg (dr L i) p.length) b c _ _ _ (Nat.zero_le _) (by omega)
theorem bgc_snoc {n v i : Nat} {L : List (List Nat)} {p : List Nat} (hL : LOk n L) (hp : p.length < n) (hi : i < L.length) : bgc L (p ++ [v]) i = true ↔ bgc L p i = true ∧ dg (dr L i) p.length = v := by
  have hd := (LOk_at hL hi).1
  have e : (dr L i).take (p ++ [v]).length = (dr L i).take p.length ++ [dg (dr L i) p.length] := by
    rw [List.length_append, List.length_singleton, List.take_succ]
    unfold dg
    rw [List.getD_eq_getElem?_getD, List.getElem?_eq_getElem (by omega)]; rfl
  unfold bgc
  rw [decide_eq_true_eq, decide_eq_true_eq, e]
  constructor
  · intro h
    have := List.append_inj' h rfl
    exact ⟨this.1, by simpa using this.2⟩
  · rintro ⟨a, b⟩; rw [a, b]
/-- a right drawing begins so -/
def Hs (L : List (List Nat)) (p : List Nat) : Prop := ∃ i, i < L.length ∧ bgc L p i = true
theorem Hs_p {n : Nat} {L : List (List Nat)} {p : List Nat} (hL : LOk n L) (h : Hs L p) : p.length ≤ n ∧ (∀ y ∈ p, y < n) ∧ p.Nodup := by
  obtain ⟨i, hi, hb⟩ := h
  have hd := LOk_at hL hi
  have e : (dr L i).take p.length = p := of_decide_eq_true hb
  refine ⟨?_, fun y hy => ?_, ?_⟩
  · have := congrArg List.length e
    rw [List.length_take, hd.1] at this; omega
  · rw [← e] at hy; exact hd.2.1 y (List.mem_of_mem_take hy)
  · rw [← e]; exact hd.2.2.sublist (List.take_sublist _ _)
theorem Hs_snoc {n v : Nat} {L : List (List Nat)} {p : List Nat} (hL : LOk n L) (hp : p.length < n) (h : (cns n L p).testBit v = true) : Hs L (p ++ [v]) := by
  obtain ⟨i, a, b, c⟩ := (cns_iff hp).mp h
  exact ⟨i, a, (bgc_snoc hL hp a).mpr ⟨b, c⟩⟩
theorem pc_pos {n : Nat} {L : List (List Nat)} {p : List Nat} (hL : LOk n L) (hp : p.length < n) (h : Hs L p) : 0 < pc (cns n L p) := by
  obtain ⟨i, hi, hb⟩ := h
  have h1 : (cns n L p).testBit (dg (dr L i) p.length) = true := (cns_iff hp).mpr ⟨i, hi, hb, rfl⟩
  have h2 : pc (cns n L p) ≠ 0 := fun e => by
    rw [(pc_0 _ (cns_lt hL)).mp e] at h1; simp at h1
  omega
theorem pc_add : ∀ s, s < 64 → ∀ y, y < 6 → s.testBit y = false → pc (s ||| 1 <<< y) = pc s + 1 ∧ (s ||| 1 <<< y) < 64 := by decide +kernel
theorem pc_mk0 : ∀ (p : List Nat) (s : Nat), s < 64 → p.Nodup → (∀ y ∈ p, y < 6 ∧ s.testBit y = false) → pc (p.foldl (fun s y => s ||| 1 <<< y) s) = pc s + p.length := by
  intro p
  induction p with
  | nil => intro s _ _ _; rfl
  | cons y t ih =>
    intro s hs hp h
    obtain ⟨h1, h2⟩ := h y List.mem_cons_self
    obtain ⟨a, b⟩ := pc_add s hs y h1 h2
    have hnd := List.nodup_cons.mp hp
    rw [List.foldl_cons, ih _ b hnd.2 (fun z hz => ?_), a, List.length_cons]
    · omega
    · obtain ⟨z1, z2⟩ := h z (List.mem_cons_of_mem _ hz)
      refine ⟨z1, ?_⟩
      rw [Nat.testBit_or, z2, shl_bit, Bool.false_or, decide_eq_false_iff_not]
      intro e; rw [e] at hnd; exact hnd.1 hz
theorem pc_or : ∀ a, a < 64 → ∀ b, b < 64 → a &&& b = 0 → pc a + pc b = pc (a ||| b) := by decide +kernel
theorem pc_n : ∀ n, n < 7 → ∀ u, u < 64 → u < 2 ^ n → pc u ≤ n := by decide +kernel
theorem pc_kids {n : Nat} {L : List (List Nat)} {p : List Nat} (hL : LOk n L) (hp : p.length < n) (h : Hs L p) : pc (cns n L p) + p.length ≤ n := by
  have hn := hL.1
  obtain ⟨p1, p2, p3⟩ := Hs_p hL h
  have hc := cns_lt (n := n) (L := L) (H := p) hL
  have hm : mk p < 64 := mk_lt (fun y hy => by have := p2 y hy; omega)
  have h0 : cns n L p &&& mk p = 0 := by
    refine Nat.eq_of_testBit_eq fun j => ?_
    rw [Nat.testBit_and, mk_bit, Nat.zero_testBit]
    cases e : (cns n L p).testBit j with
    | false => rfl
    | true =>
      rw [Bool.true_and, decide_eq_false_iff_not]
      intro hj
      obtain ⟨i, a, b, c⟩ := (cns_iff hp).mp e
      have hd := LOk_at hL a
      have et : (dr L i).take p.length = p := of_decide_eq_true b
      obtain ⟨k, hk, ek⟩ := List.getElem_of_mem hj
      have e1 : dg (dr L i) k = j := by
        rw [← dg_take (d := dr L i) hk, et]
        unfold dg; rw [List.getD_eq_getElem?_getD, List.getElem?_eq_getElem hk]; exact ek
      have := Pm_inj hd (show k < n by omega) hp (e1.trans c.symm)
      omega
  have hs := pc_or _ hc _ hm h0
  have hpm : pc (mk p) = p.length := by
    have := pc_mk0 p 0 (by omega) p3 (fun y hy => ⟨by have := p2 y hy; omega, by simp⟩)
    rw [show pc 0 = 0 from rfl, Nat.zero_add] at this
    exact this
  have hlt : cns n L p ||| mk p < 2 ^ n := by
    refine Nat.or_lt_two_pow (tb_lt (n := n) fun k hk => ?_) (tb_lt (n := n) fun k hk => ?_)
    · cases e : (cns n L p).testBit k with
      | false => rfl
      | true => have := (cns_bit hL e).2; omega
    · rw [mk_bit, decide_eq_false_iff_not]
      intro q; have := p2 k q; omega
  have h64 : cns n L p ||| mk p < 64 := Nat.or_lt_two_pow (n := 6) hc hm
  have := pc_n n (by omega) _ h64 hlt
  omega
/-! the model's sum, the class's sum -/
def Mv (n : Nat) (L : List (List Nat)) (x y : Nat) : Nat → List Nat → Nat → Nat
  | 0, p, wt => if dg p x = y then wt else 0
  | m + 1, p, wt => smv (fun v => if (cns n L p).testBit v = true then Mv n L x y m (p ++ [v]) (wt * (60 / pc (cns n L p))) else 0) n 0
def Cv (n : Nat) (L : List (List Nat)) (y : Nat) : Nat → List Nat → Nat → Nat
  | 0, p, wt => smv (fun v => if (cns n L p).testBit v = true then (if v = y then wt / pc (cns n L p) else 0) else 0) n 0
  | t + 1, p, wt => smv (fun v => if (cns n L p).testBit v = true then Cv n L y t (p ++ [v]) (wt / pc (cns n L p)) else 0) n 0
theorem pc60 : ∀ c, c < 7 → 0 < c → c * (60 / c) = 60 := by decide
theorem Mv_le {n x y : Nat} {L : List (List Nat)} (hL : LOk n L) : ∀ (m : Nat) (p : List Nat) (wt : Nat), Mv n L x y m p wt ≤ wt * 60 ^ m := by
  have hn := hL.1
  intro m
  induction m with
  | zero =>
    intro p wt
    rw [Mv, Nat.pow_zero, Nat.mul_one]
    split <;> omega
  | succ m ih =>
    intro p wt
    have hc := cns_lt (n := n) (L := L) (H := p) hL
    rw [Mv]
    refine Nat.le_trans (smv_le (g := fun v => if (cns n L p).testBit v = true then wt * (60 / pc (cns n L p)) * 60 ^ m else 0) (fun v => ?_) n 0) ?_
    · by_cases c : (cns n L p).testBit v = true
      · rw [if_pos c, if_pos c]; exact ih _ _
      · rw [if_neg c, if_neg c]; exact Nat.le_refl _
    · rw [smv_const hn hc (fun j hj => (cns_bit hL hj).2)]
      have h1 : pc (cns n L p) * (60 / pc (cns n L p)) ≤ 60 := Nat.mul_div_le _ _
      have e : pc (cns n L p) * (wt * (60 / pc (cns n L p)) * 60 ^ m) = pc (cns n L p) * (60 / pc (cns n L p)) * (wt * 60 ^ m) := by
        simp only [Nat.mul_assoc, Nat.mul_comm, Nat.mul_left_comm]
      rw [e, Nat.pow_succ]
      refine Nat.le_trans (Nat.mul_le_mul_right _ h1) (Nat.le_of_eq ?_)
      simp only [Nat.mul_assoc, Nat.mul_comm, Nat.mul_left_comm]
theorem Mv_deep {n x y : Nat} {L : List (List Nat)} (hL : LOk n L) : ∀ (m : Nat) (p : List Nat) (wt : Nat), p.length + m = n → x < p.length → Hs L p → Mv n L x y m p wt = (if dg p x = y then wt else 0) * 60 ^ m := by
  have hn := hL.1
  intro m
  induction m with
  | zero => intro p wt _ _ _; rw [Mv, Nat.pow_zero, Nat.mul_one]
  | succ m ih =>
    intro p wt hl hx h
    have hc := cns_lt (n := n) (L := L) (H := p) hL
    have hp : p.length < n := by omega
    have c0 := pc_pos hL hp h
    have c6 := pc_kids hL hp h
    have e60 := pc60 (pc (cns n L p)) (by omega) c0
    rw [Mv]
    rw [smv_congr (g := fun v => if (cns n L p).testBit v = true then (if dg p x = y then wt * (60 / pc (cns n L p)) else 0) * 60 ^ m else 0) n 0 (fun v _ _ => by
      by_cases c : (cns n L p).testBit v = true
      · rw [if_pos c, if_pos c, ih (p ++ [v]) _ (by rw [List.length_append, List.length_singleton]; omega) (by rw [List.length_append, List.length_singleton]; omega) (Hs_snoc hL hp c), dg_app_l hx]
      · rw [if_neg c, if_neg c]), smv_const hn hc (fun j hj => (cns_bit hL hj).2)]
    by_cases q : dg p x = y
    · rw [if_pos q, if_pos q, Nat.pow_succ]
      have e : pc (cns n L p) * (wt * (60 / pc (cns n L p)) * 60 ^ m) = pc (cns n L p) * (60 / pc (cns n L p)) * (wt * 60 ^ m) := by
        simp only [Nat.mul_assoc, Nat.mul_comm, Nat.mul_left_comm]
      rw [e, e60]
      simp only [Nat.mul_assoc, Nat.mul_comm, Nat.mul_left_comm]
    · rw [if_neg q, if_neg q]; simp
def Dv (k : Nat) : Nat := if k = 0 then 518400 else if k = 1 then 8640 else if k = 2 then 144 else if k = 3 then 12 else if k = 4 then 2 else 1
theorem Dv_all : ∀ k, k < 7 → Dv k ∣ 518400 := by decide
theorem Dv_step : ∀ k, k < 6 → ∀ c, c < 7 → 0 < c → c + k ≤ 6 → c * Dv (k + 1) ∣ Dv k := by decide
theorem Cv_Mv {n x y : Nat} {L : List (List Nat)} (hL : LOk n L) (hx : x < n) : ∀ (t m : Nat) (p : List Nat) (wa wb : Nat), p.length + t = x → p.length + m = n → Hs L p → Dv p.length ∣ wa → Mv n L x y m p wb * wa = Cv n L y t p wa * (wb * 60 ^ m) := by
  have hn := hL.1
  intro t
  induction t with
  | zero =>
    intro m p wa wb ht hm h hD
    obtain ⟨m, rfl⟩ : ∃ k, m = k + 1 := ⟨m - 1, by omega⟩
    have hp : p.length < n := by omega
    have c0 := pc_pos hL hp h
    have c6 := pc_kids hL hp h
    have e60 := pc60 (pc (cns n L p)) (by omega) c0
    have hd : pc (cns n L p) ∣ wa := Nat.dvd_trans (Nat.dvd_trans (Nat.dvd_mul_right _ _) (Dv_step p.length (by omega) _ (by omega) c0 (by omega))) hD
    have ewa := Nat.mul_div_cancel' hd
    rw [Mv, Cv, smv_mul, smv_mul]
    refine smv_congr _ _ (fun v _ _ => ?_)
    by_cases c : (cns n L p).testBit v = true
    · have hl : (p ++ [v]).length = p.length + 1 := by rw [List.length_append, List.length_singleton]
      rw [if_pos c, if_pos c, Mv_deep hL m (p ++ [v]) _ (by omega) (by omega) (Hs_snoc hL hp c)]
      have ex : dg (p ++ [v]) x = v := by rw [show x = p.length by omega]; exact dg_app_r
      rw [ex]
      by_cases q : v = y
      · rw [if_pos q, if_pos q, Nat.pow_succ]
        obtain ⟨Q, hQ⟩ : ∃ Q, Q = 60 / pc (cns n L p) := ⟨_, rfl⟩
        obtain ⟨R, hR⟩ : ∃ R, R = wa / pc (cns n L p) := ⟨_, rfl⟩
        have e2 : wa = pc (cns n L p) * R := by rw [hR]; exact ewa.symm
        have e3 : 60 ^ m * 60 = 60 ^ m * (pc (cns n L p) * Q) := by rw [hQ, e60]
        rw [← hQ, ← hR, e3]
        conv => lhs; rw [e2]
        simp only [Nat.mul_assoc, Nat.mul_comm, Nat.mul_left_comm]
      · rw [if_neg q, if_neg q]; simp
    · rw [if_neg c, if_neg c, Nat.zero_mul, Nat.zero_mul]
  | succ t ih =>
    intro m p wa wb ht hm h hD
    obtain ⟨m, rfl⟩ : ∃ k, m = k + 1 := ⟨m - 1, by omega⟩
    have hp : p.length < n := by omega
    have c0 := pc_pos hL hp h
    have c6 := pc_kids hL hp h
    have e60 := pc60 (pc (cns n L p)) (by omega) c0
    have hd2 := Nat.dvd_trans (Dv_step p.length (by omega) _ (by omega) c0 (by omega)) hD
    have hd : pc (cns n L p) ∣ wa := Nat.dvd_trans (Nat.dvd_mul_right _ _) hd2
    have hd3 : Dv (p.length + 1) ∣ wa / pc (cns n L p) := Nat.dvd_div_of_mul_dvd hd2
    have ewa := Nat.mul_div_cancel' hd
    rw [Mv, Cv, smv_mul, smv_mul]
    refine smv_congr _ _ (fun v _ _ => ?_)
    by_cases c : (cns n L p).testBit v = true
    · have hl : (p ++ [v]).length = p.length + 1 := by rw [List.length_append, List.length_singleton]
      rw [if_pos c, if_pos c]
      have e := ih m (p ++ [v]) (wa / pc (cns n L p)) (wb * (60 / pc (cns n L p))) (by omega) (by omega) (Hs_snoc hL hp c) (by rw [hl]; exact hd3)
      obtain ⟨A, hA⟩ : ∃ A, A = Mv n L x y m (p ++ [v]) (wb * (60 / pc (cns n L p))) := ⟨_, rfl⟩
      obtain ⟨B, hB⟩ : ∃ B, B = Cv n L y t (p ++ [v]) (wa / pc (cns n L p)) := ⟨_, rfl⟩
      rw [← hA, ← hB] at e ⊢
      have e2 : A * wa = pc (cns n L p) * (A * (wa / pc (cns n L p))) := by
        conv => lhs; rw [← ewa]
        simp only [Nat.mul_left_comm]
      have e3 : 60 ^ (m + 1) = pc (cns n L p) * (60 / pc (cns n L p)) * 60 ^ m := by rw [e60, Nat.pow_succ, Nat.mul_comm]
      rw [e2, e, e3]
      simp only [Nat.mul_assoc, Nat.mul_comm, Nat.mul_left_comm]
    · rw [if_neg c, if_neg c, Nat.zero_mul, Nat.zero_mul]
