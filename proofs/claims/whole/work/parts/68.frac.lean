/-! fractions -/
theorem mod_half {b r : Nat} (h0 : 0 < r) (h : r < b) : 2 * (b % r) < b := by
  have h1 := Nat.mod_lt b h0
  have h2 := Nat.div_add_mod b r
  have h3 : 0 < b / r := Nat.div_pos (by omega) h0
  have h4 : r ≤ r * (b / r) := Nat.le_mul_of_pos_right r h3
  omega
theorem gcd_step (a b : Nat) : Nat.gcd b (a % b) = Nat.gcd a b := by
  rw [Nat.gcd_comm b (a % b), ← Nat.gcd_rec, Nat.gcd_comm]
theorem e_tell_L {N : Nat} {x1 x2 : Int32} {w : Wd} : ∀ (j a b k F : Nat), a < 2 ^ 31 → b < 2 ^ j → j < 30 → k + 2 * j < 64 → 2 * j + 1 < F → ∃ z, X4_tellFraction_L1 N x1 x2 F (nI a) (nI b) (nI k) w = some (nI (Nat.gcd a b), z) ∧ z = w := by
  intro j
  induction j with
  | zero =>
    intro a b k F ha hb hj hk hF
    obtain ⟨F, rfl, _⟩ := fuel_s (show 0 < F by omega)
    obtain rfl : b = 0 := by omega
    rw [X4_tellFraction_L1]
    simp only [bs, l0, l1, l2, l3, l4, l5, l6, l7, l8, l9, l10, l12, l15, l30, l31, l32, l40, l42, l48, l57, l60, l64, l98, l99, l100, l109, l110, l112, l115, l265, l1000, l518400, ngd]
    rw [iF (nI_ge (by omega) (by omega)), iT trivial, Nat.gcd_zero_right]
    exact ⟨w, rfl, rfl⟩
  | succ j ih =>
    intro a b k F ha hb hj hk hF
    have hp : (2 : Nat) ^ (j + 1) ≤ 2 ^ 30 := Nat.pow_le_pow_right (by omega) (by omega)
    obtain ⟨F, rfl, _⟩ := fuel_s (show 0 < F by omega)
    rw [X4_tellFraction_L1]
    simp only [bs, l0, l1, l2, l3, l4, l5, l6, l7, l8, l9, l10, l12, l15, l30, l31, l32, l40, l42, l48, l57, l60, l64, l98, l99, l100, l109, l110, l112, l115, l265, l1000, l518400, ngd]
    rw [iF (nI_ge (by omega) (by omega))]
    by_cases c : b = 0
    · subst c
      rw [iT rfl, Nat.gcd_zero_right]; exact ⟨w, rfl, rfl⟩
    have hb0 : ¬ nI b = nI 0 := fun q => c ((nI_eq (by omega) (by omega)).mp q)
    have hm := Nat.mod_lt a (show 0 < b by omega)
    rw [iF hb0, gd_t hb0, pk_rem ha (by omega) (by omega), nI_add]
    obtain ⟨F, rfl, _⟩ := fuel_s (show 0 < F by omega)
    rw [X4_tellFraction_L1]
    simp only [bs, l0, l1, l2, l3, l4, l5, l6, l7, l8, l9, l10, l12, l15, l30, l31, l32, l40, l42, l48, l57, l60, l64, l98, l99, l100, l109, l110, l112, l115, l265, l1000, l518400, ngd]
    rw [iF (nI_ge (by omega) (by omega))]
    by_cases c2 : a % b = 0
    · rw [iT (by rw [c2]), ← gcd_step, c2, Nat.gcd_zero_right]; exact ⟨w, rfl, rfl⟩
    have hb2 : ¬ nI (a % b) = nI 0 := fun q => c2 ((nI_eq (by omega) (by omega)).mp q)
    have hh := mod_half (show 0 < a % b by omega) hm
    have hp2 : (2 : Nat) ^ (j + 1) = 2 * 2 ^ j := by rw [Nat.pow_succ, Nat.mul_comm]
    rw [iF hb2, gd_t hb2, pk_rem (by omega) (by omega) (by omega), nI_add]
    obtain ⟨z, e, rfl⟩ := ih (a % b) (b % (a % b)) (k + 1 + 1) F (by omega) (by omega) (by omega) (by omega) (by omega)
    exact ⟨z, by rw [e, gcd_step b (a % b), gcd_step], rfl⟩
theorem e_tellFraction {N a b : Nat} {w : Wd} (hN : 1000 ≤ N) (ha : a < 2 ^ 31) (hb : b < 2 ^ 20) (h0 : 0 < b) : f_X4_tellFraction N (nI a) (nI b) w = some (sL (sL w 413 0 (lN (a / Nat.gcd a b))) 414 0 (lN (b / Nat.gcd a b))) := by
  obtain ⟨z, e, rfl⟩ := e_tell_L (N := N) (x1 := nI a) (x2 := nI b) (w := w) 20 a b 0 N ha (by omega) (by omega) (by omega) (by omega)
  have hg : 0 < Nat.gcd a b := Nat.gcd_pos_of_pos_right _ h0
  have hg2 : Nat.gcd a b ≤ b := Nat.gcd_le_right _ h0
  have h1 := Nat.div_le_self a (Nat.gcd a b)
  have h2 := Nat.div_le_self b (Nat.gcd a b)
  unfold f_X4_tellFraction X4_tellFraction_J39
  simp only [bs, l0, l1, l2, l3, l4, l5, l6, l7, l8, l9, l10, l12, l15, l30, l31, l32, l40, l42, l48, l57, l60, l64, l98, l99, l100, l109, l110, l112, l115, l265, l1000, l518400, ngd]
  rw [e]
  simp only [bs, l0, l1, l2, l3, l4, l5, l6, l7, l8, l9, l10, l12, l15, l30, l31, l32, l40, l42, l48, l57, l60, l64, l98, l99, l100, l109, l110, l112, l115, l265, l1000, l518400, ngd]
  have e1 : (if nI (Nat.gcd a b) < nI 1 then nI 1 else nI (Nat.gcd a b)) = nI (Nat.gcd a b) := iF (nI_nlt (by omega) (by omega))
  have e2 : ¬ nI (Nat.gcd a b) = nI 0 := fun q => by have := (nI_eq (by omega) (by omega)).mp q; omega
  rw [e1, gd_t e2, gd_t e2, pk_div ha hg (by omega), pk_div (by omega) hg (by omega), nI_l (by omega), nI_l (by omega)]
theorem lcmp0 (x : Int64) : (lg_cmp x (0 : Int64) = nI 0) = (x = 0) := propext (lg_cmp_eq x 0)
theorem e_part_L {N : Nat} {x1 x3 : Int64} {x5 : Int32} {w : Wd} : ∀ (j a b F : Nat), a < 2 ^ 63 → b < 2 ^ j → j < 62 → 2 * j + 1 < F → ∃ z, X5_part_L1 N x1 x3 x5 F (lN a) (lN b) w = some (lN (Nat.gcd a b), z) ∧ z = w := by
  intro j
  induction j with
  | zero =>
    intro a b F ha hb hj hF
    obtain ⟨F, rfl, _⟩ := fuel_s (show 0 < F by omega)
    obtain rfl : b = 0 := by omega
    rw [X5_part_L1]
    simp only [bs, l0, l1, l2, l3, l4, l5, l6, l7, l8, l9, l10, l12, l15, l30, l31, l32, l40, l42, l48, l57, l60, l64, l98, l99, l100, l109, l110, l112, l115, l265, l1000, l518400, ngd]
    rw [iT (by rw [lcmp0]; rfl), Nat.gcd_zero_right]
    exact ⟨w, rfl, rfl⟩
  | succ j ih =>
    intro a b F ha hb hj hF
    have hp : (2 : Nat) ^ (j + 1) ≤ 2 ^ 62 := Nat.pow_le_pow_right (by omega) (by omega)
    have hne : ∀ z : Nat, z < 2 ^ 63 → z ≠ 0 → ¬ lN z = (0 : Int64) := fun z hz h q => h ((pk_lEQ hz (by omega)).mp (show lN z = lN 0 from q))
    obtain ⟨F, rfl, _⟩ := fuel_s (show 0 < F by omega)
    rw [X5_part_L1]
    simp only [bs, l0, l1, l2, l3, l4, l5, l6, l7, l8, l9, l10, l12, l15, l30, l31, l32, l40, l42, l48, l57, l60, l64, l98, l99, l100, l109, l110, l112, l115, l265, l1000, l518400, ngd]
    by_cases c : b = 0
    · subst c
      rw [iT (by rw [lcmp0]; rfl), Nat.gcd_zero_right]; exact ⟨w, rfl, rfl⟩
    have hm := Nat.mod_lt a (show 0 < b by omega)
    have hb0 := hne b (by omega) c
    rw [iF (by rw [lcmp0]; exact hb0), gd_t hb0, pk_lRem ha (by omega) (by omega)]
    obtain ⟨F, rfl, _⟩ := fuel_s (show 0 < F by omega)
    rw [X5_part_L1]
    simp only [bs, l0, l1, l2, l3, l4, l5, l6, l7, l8, l9, l10, l12, l15, l30, l31, l32, l40, l42, l48, l57, l60, l64, l98, l99, l100, l109, l110, l112, l115, l265, l1000, l518400, ngd]
    by_cases c2 : a % b = 0
    · rw [iT (by rw [lcmp0, c2]; rfl), ← gcd_step, c2, Nat.gcd_zero_right]; exact ⟨w, rfl, rfl⟩
    have hb2 := hne (a % b) (by omega) c2
    have hh := mod_half (show 0 < a % b by omega) hm
    have hp2 : (2 : Nat) ^ (j + 1) = 2 * 2 ^ j := by rw [Nat.pow_succ, Nat.mul_comm]
    rw [iF (by rw [lcmp0]; exact hb2), gd_t hb2, pk_lRem (by omega) (by omega) (by omega)]
    obtain ⟨z, e, rfl⟩ := ih (a % b) (b % (a % b)) F (by omega) (by omega) (by omega) (by omega)
    exact ⟨z, by rw [e, gcd_step b (a % b), gcd_step], rfl⟩
theorem e_part {N a b : Nat} {x : Int32} {w : Wd} (hN : 1000 ≤ N) (ha : a < 2 ^ 63) (hb : b < 2 ^ 60) (h0 : 0 < b) : f_X5_part N (lN a) (lN b) x w = some (x, sL (sL w 503 0 (lN (a / Nat.gcd a b))) 504 0 (lN (b / Nat.gcd a b))) := by
  obtain ⟨z, e, rfl⟩ := e_part_L (N := N) (x1 := lN a) (x3 := lN b) (x5 := x) (w := w) 60 a b N ha hb (by omega) (by omega)
  have hg : 0 < Nat.gcd a b := Nat.gcd_pos_of_pos_right _ h0
  have hg2 : Nat.gcd a b ≤ b := Nat.gcd_le_right _ h0
  have e2 : ¬ lN (Nat.gcd a b) = (0 : Int64) := fun q => by
    have := (pk_lEQ (by omega) (by omega)).mp (show lN (Nat.gcd a b) = lN 0 from q); omega
  unfold f_X5_part
  rw [e]
  simp only [bs]
  rw [gd_t e2, gd_t e2, pk_lDiv ha hg (by omega), pk_lDiv (by omega) hg (by omega)]
theorem Itl_frac {S : List Nat} {u l : Int64} {w w' : Wd} (h : Itl w) (g : ag S (sL (sL w 413 0 u) 414 0 l) w') (hs : ∀ k ∈ [412, 502, 413, 503, 414, 504, 415, 500, 25, 30], k ∉ S := by decide) : Itl (sL (sL w' 503 0 u) 504 0 l) := by
  obtain ⟨h1, h2, h3, h4, h5⟩ := h
  refine ⟨?_, ?_, ?_, ?_, fun k hk => ?_⟩
  · show gI w' 412 0 = gI w' 502 0
    rw [g.1 412 0 (hs 412 (by decide)) (by decide), g.1 502 0 (hs 502 (by decide)) (by decide)]; exact h1
  · show gL w' 413 0 = u
    rw [g.2.1 413 0 (hs 413 (by decide)) (by decide)]; rfl
  · show gL w' 414 0 = l
    rw [g.2.1 414 0 (hs 414 (by decide)) (by decide)]; rfl
  · show gI w' 415 0 = gI w' 500 0
    rw [g.1 415 0 (hs 415 (by decide)) (by decide), g.1 500 0 (hs 500 (by decide)) (by decide)]; exact h4
  · show gA w' 25 0 k = gA w' 30 0 k
    rw [g.2.2 25 0 (hs 25 (by decide)) (by decide), g.2.2 30 0 (hs 30 (by decide)) (by decide)]; exact h5 k hk
theorem Inv_frac {S : List Nat} {u l : Int64} {o : Of} {H : List Nat} {w w' : Wd} (h : IW o H w) (ht : Itl w) (g : ag S (sL (sL w 413 0 u) 414 0 l) w') (hs : ∀ k ∈ KW ++ [411, 201, 20], k ∉ S := by decide) (hs2 : ∀ k ∈ [412, 502, 413, 503, 414, 504, 415, 500, 25, 30], k ∉ S := by decide) : Inv (sL (sL w' 503 0 u) 504 0 l) :=
  ⟨o, H, IW_ag (IW_ag (IW_ag h (((ag.rf [413, 414] w).sL (by decide)).sL (by decide))) g hs) (((ag.rf [503, 504] w').sL (by decide)).sL (by decide)), Itl_frac ht g hs2⟩
/-- one fraction in lowest terms -/
theorem frac_same {a b c d : Nat} (hb : 0 < b) (hd : 0 < d) (h : a * d = c * b) : a / Nat.gcd a b = c / Nat.gcd c d ∧ b / Nat.gcd a b = d / Nat.gcd c d := by
  have hg : 0 < Nat.gcd a b := Nat.gcd_pos_of_pos_right _ hb
  have hk : 0 < Nat.gcd c d := Nat.gcd_pos_of_pos_right _ hd
  -- gcd (a d) (b d) = gcd a b * d ; gcd (c b) (d b) = gcd c d * b
  have e1 : Nat.gcd (a * d) (b * d) = Nat.gcd a b * d := Nat.gcd_mul_right _ _ _
  have e2 : Nat.gcd (c * b) (d * b) = Nat.gcd c d * b := Nat.gcd_mul_right _ _ _
  have e3 : Nat.gcd a b * d = Nat.gcd c d * b := by
    rw [← e1, ← e2, h, Nat.mul_comm b d]
  constructor
  · have h1 : a / Nat.gcd a b = (a * d) / (Nat.gcd a b * d) := (Nat.mul_div_mul_right _ _ hd).symm
    have h2 : c / Nat.gcd c d = (c * b) / (Nat.gcd c d * b) := (Nat.mul_div_mul_right _ _ hb).symm
    rw [h1, h2, h, e3]
  · have h1 : b / Nat.gcd a b = (b * d) / (Nat.gcd a b * d) := (Nat.mul_div_mul_right _ _ hd).symm
    have h2 : d / Nat.gcd c d = (d * b) / (Nat.gcd c d * b) := (Nat.mul_div_mul_right _ _ hb).symm
    rw [h1, h2, e3, Nat.mul_comm b d]
