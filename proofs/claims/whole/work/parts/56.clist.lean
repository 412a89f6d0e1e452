/-! the class's list of right drawings -/
def RTC (i : Nat) (L : List (List Nat)) (w : Wd) : Prop := gI w 201 i = nI L.length ∧ ∀ k, k < L.length → gA w 20 i k = nI (cd (dr L k))
theorem RTC_ag {S : List Nat} {i : Nat} {L : List (List Nat)} {w w' : Wd} (h : RTC i L w) (g : ag S w w') (hs : ∀ k ∈ [201, 20], k + 1000 * i ∉ S := by decide) : RTC i L w' := by
  refine ⟨?_, fun k hk => ?_⟩
  · rw [g.1 201 i (hs 201 (by decide)) (by decide)]; exact h.1
  · rw [g.2.2 20 i (hs 20 (by decide)) (by decide)]; exact h.2 k hk
def qf (o : Of) (nw : Bool) (d : List Nat) : Bool := !(nw && decide (d ∈ oY o))
theorem take_app (A B : List (List Nat)) (n : Nat) : (A.take n ++ B).take n = (A ++ B).take n := by
  rcases Nat.le_total A.length n with h | h
  · rw [List.take_of_length_le h]
  · have e : (A.take n).length = n := by rw [List.length_take]; omega
    have h1 : (A.take n ++ B).take n = A.take n := by
      have := List.take_left (l₁ := A.take n) (l₂ := B)
      rw [e] at this; exact this
    rw [h1, List.take_append_of_le_length h]
/-- what the search knows: the office, how many are wanted, whether new ones alone -/
def RSr (i : Nat) (o : Of) (Wt : Nat) (nw : Bool) (w : Wd) : Prop := RO i o w ∧ gI w 204 i = nI Wt ∧ gI w 205 i = nI (bn nw)
theorem RSr_ag {i Wt : Nat} {o : Of} {nw : Bool} {w w' : Wd} (h : RSr i o Wt nw w) (g : ag [20 + 1000 * i, 201 + 1000 * i] w w') : RSr i o Wt nw w' := by
  refine ⟨RO_ag h.1 g (fun k hk => ?_), ?_, ?_⟩
  · simp only [List.mem_cons, List.not_mem_nil, or_false] at hk ⊢; omega
  · rw [g.1 204 i (by simp) (by decide)]; exact h.2.1
  · rw [g.1 205 i (by simp) (by decide)]; exact h.2.2
theorem e_leaf {N i Wt : Nat} {rec : Nat → Int32 → Int32 → Int32 → Wd → Option (Wd)} {o : Of} {nw : Bool} {d : List Nat} {C : List (List Nat)} {w : Wd} (hN : 1000 ≤ N) (hf : Wf o) (hW : Wt ≤ 265) (hd : Pm (oN o) d) (hk : okp o d) (h : RSr i o Wt nw w) (hC : RTC i C w) (hl : C.length ≤ Wt) :
    ∃ w', X2_extend_J14 N rec i (nI (cd d)) w = some w' ∧ ag [20 + 1000 * i, 201 + 1000 * i] w w' ∧ RTC i ((C ++ (gen o 0 d).filter (qf o nw)).take Wt) w' := by
  obtain ⟨hR, h4, h5⟩ := h
  have hgen : gen o 0 d = if rgb o d = true then [] else [d] := by
    unfold gen; rw [rt_okp hk hd]; cases rgb o d <;> simp
  unfold X2_extend_J14
  rw [h4, hC.1]
  by_cases c1 : Wt ≤ C.length
  · rw [iT (nI_le c1 (by omega))]
    refine ⟨w, rfl, ag.rf _ _, ?_⟩
    rw [List.take_append_of_le_length c1, List.take_of_length_le hl]; exact hC
  rw [iF (nI_ge (by omega) (by omega)), e_breaksRing hN hR hf hd]
  simp only [bs, l0, l1, l2, l3, l4, l5, l6, l7, l8, l9, l10, l12, l15, l30, l31, l32, l40, l42, l48, l57, l60, l64, l98, l99, l100, l109, l110, l112, l115, l265, l1000, l518400, ngd]
  have add : ∃ w', X2_extend_J50 N rec i (nI (cd d)) w = some w' ∧ ag [20 + 1000 * i, 201 + 1000 * i] w w' ∧ RTC i (C ++ [d]) w' := by
    unfold X2_extend_J50
    rw [hC.1, gd_in (by omega) (by omega)]
    simp only [bs, l0, l1, l2, l3, l4, l5, l6, l7, l8, l9, l10, l12, l15, l30, l31, l32, l40, l42, l48, l57, l60, l64, l98, l99, l100, l109, l110, l112, l115, l265, l1000, l518400, ngd]
    have e0 : gI (sA w 20 i (upd (gA w 20 i) (nI C.length).toNatClampNeg (nI (cd d)))) 201 i = nI C.length := hC.1
    rw [e0, nI_clamp (by omega), nI_add]
    refine ⟨_, rfl, ((ag.rf _ w).sA (by simp)).sI (by simp), ?_, fun k hk => ?_⟩
    · rw [gI_sI, if_pos ⟨rfl, rfl⟩]; simp
    · rw [gA_sI, gA_sA, if_pos ⟨rfl, rfl⟩]
      rw [List.length_append, List.length_singleton] at hk
      rcases Nat.lt_or_ge k C.length with q | q
      · rw [pk_un (by omega), dr_l q]; exact hC.2 k q
      · obtain rfl : k = C.length := by omega
        rw [pk_us, dr_r]
  cases c2 : rgb o d with
  | true =>
    rw [iF bnTc, hgen, c2]
    refine ⟨w, rfl, ag.rf _ _, ?_⟩
    simp only [if_true, List.filter_nil, List.append_nil, List.take_of_length_le hl]
    exact hC
  | false =>
    rw [iT bnFc, hgen, c2, h5]
    simp only [Bool.false_eq_true, if_false]
    have tk : (C ++ [d]).take Wt = C ++ [d] := List.take_of_length_le (by simp; omega)
    cases nw with
    | false =>
      rw [iT bnFc]
      obtain ⟨w', e, a1, a2⟩ := add
      refine ⟨w', e, a1, ?_⟩
      have : List.filter (qf o false) [d] = [d] := by simp [qf]
      rw [this, tk]; exact a2
    | true =>
      rw [iF bnTc, e_hadYear hN hR hf hd]
      simp only [bs, l0, l1, l2, l3, l4, l5, l6, l7, l8, l9, l10, l12, l15, l30, l31, l32, l40, l42, l48, l57, l60, l64, l98, l99, l100, l109, l110, l112, l115, l265, l1000, l518400, ngd]
      by_cases c3 : d ∈ oY o
      · rw [iF (by simp only [c3, decide_true]; exact bnTc)]
        refine ⟨w, rfl, ag.rf _ _, ?_⟩
        have : List.filter (qf o true) [d] = [] := by simp [qf, c3]
        rw [this, List.append_nil, List.take_of_length_le hl]; exact hC
      · rw [iT (by simp only [c3, decide_false]; exact bnFc)]
        obtain ⟨w', e, a1, a2⟩ := add
        refine ⟨w', e, a1, ?_⟩
        have : List.filter (qf o true) [d] = [d] := by simp [qf, c3]
        rw [this, tk]; exact a2
theorem andnot {a t y : Nat} (hy : y < 32) : (a &&& (t ^^^ 4294967295)).testBit y = (a.testBit y && !t.testBit y) := by
  rw [Nat.testBit_and, Nat.testBit_xor, show (4294967295 : Nat) = 2 ^ 32 - 1 from rfl, Nat.testBit_two_pow_sub_one]
  simp [hy]
theorem e_extend {N i Wt : Nat} {o : Of} {nw : Bool} (hN : 1000 ≤ N) (hf : Wf o) (hW : Wt ≤ 265) : ∀ (m D : Nat) (p : List Nat) (C : List (List Nat)) (w : Wd), m < D → p.length + m = oN o → (∀ y ∈ p, y < oN o) → p.Nodup → okp o p → RSr i o Wt nw w → (∀ x, x < oN o → gA w 21 i x = nI (opn o x)) → RTC i C w → C.length ≤ Wt →
    ∃ w', f_X2_extend N D i (nI p.length) (nI (mk p)) (nI (cd p)) w = some w' ∧ ag [20 + 1000 * i, 201 + 1000 * i] w w' ∧ RTC i ((C ++ (gen o m p).filter (qf o nw)).take Wt) w' := by
  have hn := hf.1
  intro m
  induction m with
  | zero =>
    intro D p C w hD hl hp hnd hk hS hO hC hcl
    obtain ⟨D, rfl, _⟩ := fuel_s hD
    obtain ⟨w', e, a1, a2⟩ := e_leaf (N := N) (rec := f_X2_extend N D) hN hf hW ⟨by omega, hp, hnd⟩ hk hS hC hcl
    rw [f_X2_extend, hS.1.1, iT (nI_le (by omega) (by omega)), e]
    exact ⟨w', rfl, a1, a2⟩
  | succ m ih =>
    intro D p C w hD hl hp hnd hk hS hO hC hcl
    obtain ⟨D, rfl, hD'⟩ := fuel_s hD
    have hp6 : ∀ y ∈ p, y < 6 := fun y hy => by have := hp y hy; omega
    have hp8 : ∀ y ∈ p, y < 8 := fun y hy => by have := hp y hy; omega
    have hmk := mk_lt hp6
    have hopl := opn_lt hf p.length
    have hfr : (opn o p.length &&& (mk p ^^^ 4294967295)) < 2 ^ 31 := Nat.lt_of_le_of_lt Nat.and_le_left (by omega)
    have loop : ∀ (j y F : Nat) (C : List (List Nat)) (w : Wd), y + j = oN o → j < F → RSr i o Wt nw w → (∀ x, x < oN o → gA w 21 i x = nI (opn o x)) → RTC i C w → C.length ≤ Wt →
        ∃ w', X2_extend_L1 N (f_X2_extend N D) i (nI p.length) (nI (mk p)) (nI (cd p)) (nI (opn o p.length &&& (mk p ^^^ 4294967295))) F (nI y) w = some w' ∧ ag [20 + 1000 * i, 201 + 1000 * i] w w' ∧ RTC i ((C ++ (gl (fun y => if y ∈ p ∨ ¬ bar o p.length y = 0 then [] else gen o m (p ++ [y])) j y).filter (qf o nw)).take Wt) w' := by
      intro j
      induction j with
      | zero =>
        intro y F C w hy hF hS hO hC hcl
        obtain ⟨F, rfl, _⟩ := fuel_s hF
        rw [X2_extend_L1, hS.1.1, iT (nI_le (by omega) (by omega))]
        refine ⟨w, rfl, ag.rf _ _, ?_⟩
        rw [gl, List.filter_nil, List.append_nil, List.take_of_length_le hcl]; exact hC
      | succ j jh =>
        intro y F C w hy hF hS hO hC hcl
        obtain ⟨F, rfl, hF'⟩ := fuel_s hF
        have hy' : y < oN o := by omega
        have hx' : p.length < oN o := by omega
        rw [X2_extend_L1, hS.1.1, iF (nI_ge (by omega) (by omega)), hS.2.1, hC.1]
        simp only [bs, l0, l1, l2, l3, l4, l5, l6, l7, l8, l9, l10, l12, l15, l30, l31, l32, l40, l42, l48, l57, l60, l64, l98, l99, l100, l109, l110, l112, l115, l265, l1000, l518400, ngd]
        by_cases c0 : Wt ≤ C.length
        · rw [iT (nI_le c0 (by omega))]
          refine ⟨w, rfl, ag.rf _ _, ?_⟩
          rw [List.take_append_of_le_length c0, List.take_of_length_le hcl]; exact hC
        rw [iF (nI_ge (by omega) (by omega)), gl, List.filter_append]
        have hbit : (opn o p.length &&& (mk p ^^^ 4294967295)).testBit y = decide (¬ (y ∈ p ∨ ¬ bar o p.length y = 0)) := by
          rw [andnot (by omega), opn_bit, mk_bit]
          by_cases c1 : y ∈ p <;> by_cases c2 : bar o p.length y = 0 <;> simp [c1, c2, hy']
        by_cases c1 : y ∈ p ∨ ¬ bar o p.length y = 0
        · rw [iT (by rw [bit0c hfr (by omega), hbit]; simp [c1]), nI_add, if_pos c1, List.filter_nil, List.nil_append]
          exact jh (y + 1) F C w (by omega) (by omega) hS hO hC hcl
        · rw [iF (by rw [bit0c hfr (by omega), hbit]; simp [c1]), e_drawsBack hS.1 hf hp hx' hy', if_neg c1]
          simp only [bs, l0, l1, l2, l3, l4, l5, l6, l7, l8, l9, l10, l12, l15, l30, l31, l32, l40, l42, l48, l57, l60, l64, l98, l99, l100, l109, l110, l112, l115, l265, l1000, l518400, ngd]
          have c3 : y ∉ p := fun q => c1 (Or.inl q)
          have c4 : bar o p.length y = 0 := Decidable.byContradiction fun q => c1 (Or.inr q)
          have hlen : (p ++ [y]).length = p.length + 1 := by rw [List.length_append, List.length_singleton]
          cases c5 : bck o p y with
          | true =>
            rw [iF bnTc, nI_add, gen_bck (by rw [hlen]; omega) c5, List.filter_nil, List.nil_append]
            exact jh (y + 1) F C w (by omega) (by omega) hS hO hC hcl
          | false =>
            rw [iT bnFc]
            have hsh : nI y <<< (nI (3 * p.length) &&& nI 31) = nI (y <<< (3 * p.length)) := nx_shl (by omega) (by
              have h1 : (2 : Nat) ^ (3 * p.length) ≤ 2 ^ 15 := Nat.pow_le_pow_right (by omega) (by omega)
              have h2 : y * 2 ^ (3 * p.length) ≤ 6 * 2 ^ 15 := Nat.mul_le_mul (by omega) h1
              omega)
            rw [nI_add, shl1c (by omega), nx_or, ← mk_snoc, pk_mul, hsh, nx_or, cd_or p y hp8, ← hlen]
            obtain ⟨w1, e1, a1, a2⟩ := ih D (p ++ [y]) C w (by omega) (by rw [hlen]; omega) (fun z hz => by
                rcases List.mem_append.mp hz with q | q
                · exact hp z q
                · rw [List.mem_singleton.mp q]; exact hy') (by
                rw [List.nodup_append]
                refine ⟨hnd, by simp, fun a ha b hb e => ?_⟩
                rw [List.mem_singleton.mp hb] at e
                rw [e] at ha
                exact c3 ha) (okp_snoc hk c4 c5) hS hO hC hcl
            rw [e1]
            simp only [bs, l0, l1, l2, l3, l4, l5, l6, l7, l8, l9, l10, l12, l15, l30, l31, l32, l40, l42, l48, l57, l60, l64, l98, l99, l100, l109, l110, l112, l115, l265, l1000, l518400, ngd]
            rw [nI_add]
            obtain ⟨w2, e2, b1, b2⟩ := jh (y + 1) F _ w1 (by omega) (by omega) (RSr_ag hS a1) (fun x hx => by rw [a1.2.2 21 i (by simp) (by decide)]; exact hO x hx) a2 (by rw [List.length_take]; omega)
            refine ⟨w2, e2, a1.tr b1, ?_⟩
            rw [take_app, List.append_assoc] at b2
            exact b2
    obtain ⟨w1, e1, a1, a2⟩ := loop (oN o) 0 N C w (by omega) (by omega) hS hO hC hcl
    rw [f_X2_extend, hS.1.1, iF (nI_ge (by omega) (by omega))]
    simp only [bs, l0, l1, l2, l3, l4, l5, l6, l7, l8, l9, l10, l12, l15, l30, l31, l32, l40, l42, l48, l57, l60, l64, l98, l99, l100, l109, l110, l112, l115, l265, l1000, l518400, ngd]
    rw [iT (nI_lt (by omega) (by omega)), gd_in (by omega) (by omega), nI_clamp (by omega), hO _ (by omega), notc, nx_and, e1]
    exact ⟨w1, rfl, a1, a2⟩
theorem e_list_L {N i : Nat} {o : Of} (hN : 1000 ≤ N) (hf : Wf o) : ∀ (m k F : Nat) (w : Wd), RO i o w → k + m = oN o → m < F → (∀ x, x < k → gA w 21 i x = nI (opn o x)) → ∃ w', X2_list_L1 N i F (nI k) w = some w' ∧ ag [21 + 1000 * i] w w' ∧ ∀ x, x < oN o → gA w' 21 i x = nI (opn o x) := by
  have hn := hf.1
  intro m
  induction m with
  | zero =>
    intro k F w hR hk hF h0
    obtain ⟨F, rfl, _⟩ := fuel_s hF
    rw [X2_list_L1, hR.1, iT (nI_le (by omega) (by omega))]
    exact ⟨w, rfl, ag.rf _ _, fun x hx => h0 x (by omega)⟩
  | succ m ih =>
    intro k F w hR hk hF h0
    obtain ⟨F, rfl, hF'⟩ := fuel_s hF
    rw [X2_list_L1, hR.1, iF (nI_ge (by omega) (by omega)), e_open hN hR hf (by omega)]
    simp only [bs, l0, l1, l2, l3, l4, l5, l6, l7, l8, l9, l10, l12, l15, l30, l31, l32, l40, l42, l48, l57, l60, l64, l98, l99, l100, l109, l110, l112, l115, l265, l1000, l518400, ngd]
    rw [gd_in (by omega) (by omega), nI_clamp (by omega), nI_add]
    have g : ag [21 + 1000 * i] w (sA w 21 i (upd (gA w 21 i) k (nI (opn o k)))) := (ag.rf _ w).sA (by simp)
    obtain ⟨w', e, a1, a2⟩ := ih (k + 1) F _ (RO_ag hR g (fun k hk => by simp only [List.mem_cons, List.not_mem_nil, or_false] at hk ⊢; omega)) (by omega) (by omega) (fun x hx => by
      rw [gA_sA, if_pos ⟨rfl, rfl⟩]
      by_cases q : x = k
      · rw [q, pk_us]
      · rw [pk_un q]; exact h0 x (by omega))
    exact ⟨w', e, g.tr a1, a2⟩
theorem e_list {N i a : Nat} {o : Of} {nw : Bool} {w : Wd} (hN : 1000 ≤ N) (hf : Wf o) (ha : a ≤ 265) (hR : RO i o w) :
    ∃ w', f_X2_list N i (nI a) (nI (bn nw)) w = some (nI (((rights o).filter (qf o nw)).take a).length, w') ∧ ag [20 + 1000 * i, 201 + 1000 * i, 204 + 1000 * i, 205 + 1000 * i, 21 + 1000 * i] w w' ∧ RTC i (((rights o).filter (qf o nw)).take a) w' := by
  have hn := hf.1
  unfold f_X2_list
  rw [gd_t (by cases nw <;> decide)]
  simp only [bs, l0, l1, l2, l3, l4, l5, l6, l7, l8, l9, l10, l12, l15, l30, l31, l32, l40, l42, l48, l57, l60, l64, l98, l99, l100, l109, l110, l112, l115, l265, l1000, l518400, ngd]
  rw [iF (nI_nlt ha (by omega))]
  have g : ag [20 + 1000 * i, 201 + 1000 * i, 204 + 1000 * i, 205 + 1000 * i, 21 + 1000 * i] w (sI (sI (sI w 201 i (nI 0)) 204 i (nI a)) 205 i (nI (bn nw))) := (((ag.rf _ w).sI (by simp)).sI (by simp)).sI (by simp)
  have hR1 := RO_ag hR g (fun k hk => by simp only [List.mem_cons, List.not_mem_nil, or_false] at hk ⊢; omega)
  obtain ⟨w1, e1, a1, a2⟩ := e_list_L (N := N) hN hf (oN o) 0 N _ hR1 (by omega) (by omega) (fun x hx => by omega)
  rw [e1]
  simp only [bs, l0, l1, l2, l3, l4, l5, l6, l7, l8, l9, l10, l12, l15, l30, l31, l32, l40, l42, l48, l57, l60, l64, l98, l99, l100, l109, l110, l112, l115, l265, l1000, l518400, ngd]
  have hR2 := RO_ag hR1 a1 (fun k hk => by simp only [List.mem_cons, List.not_mem_nil, or_false] at hk ⊢; omega)
  have h201 : gI w1 201 i = nI 0 := by
    rw [a1.1 201 i (by simp) (by decide), gI_sI, if_neg (by simp), gI_sI, if_neg (by simp), gI_sI, if_pos ⟨rfl, rfl⟩]
  have h204 : gI w1 204 i = nI a := by
    rw [a1.1 204 i (by simp) (by decide), gI_sI, if_neg (by simp), gI_sI, if_pos ⟨rfl, rfl⟩]
  have h205 : gI w1 205 i = nI (bn nw) := by
    rw [a1.1 205 i (by simp) (by decide), gI_sI, if_pos ⟨rfl, rfl⟩]
  obtain ⟨w2, e2, b1, b2⟩ := e_extend (N := N) (i := i) (nw := nw) hN hf ha (oN o) 8 [] [] w1 (by omega) (by simp) (by simp) (by simp) (okp_nil o) ⟨hR2, h204, h205⟩ a2 ⟨h201, fun k hk => by simp at hk⟩ (by simp)
  rw [show nI ([] : List Nat).length = nI 0 from rfl, show nI (mk []) = nI 0 from rfl, show nI (cd []) = nI 0 from rfl] at e2
  rw [List.nil_append] at b2
  rw [e2]
  simp only [bs, l0, l1, l2, l3, l4, l5, l6, l7, l8, l9, l10, l12, l15, l30, l31, l32, l40, l42, l48, l57, l60, l64, l98, l99, l100, l109, l110, l112, l115, l265, l1000, l518400, ngd]
  refine ⟨w2, by rw [b2.1]; rfl, (g.tr (a1.mono (by simp))).tr (b1.mono (by simp)), b2⟩
theorem qf_false (o : Of) (L : List (List Nat)) : L.filter (qf o false) = L := by
  apply List.filter_eq_self.mpr
  intro d _; simp [qf]
/-- all right drawings -/
theorem e_listAll {N i : Nat} {o : Of} {w : Wd} (hN : 1000 ≤ N) (hf : Wf o) (hR : RO i o w) :
    ∃ w', f_X2_list N i (nI 265) (nI 0) w = some (nI (rights o).length, w') ∧ ag [20 + 1000 * i, 201 + 1000 * i, 204 + 1000 * i, 205 + 1000 * i, 21 + 1000 * i] w w' ∧ RTC i (rights o) w' := by
  have h := e_list (N := N) (i := i) (a := 265) (nw := false) hN hf (by omega) hR
  rw [qf_false, List.take_of_length_le (rights_len hf)] at h
  exact h
/-- stale or not -/
def Ist (o : Of) (w : Wd) : Prop := gI w 411 0 = nI 1 ∨ (gI w 411 0 = nI 0 ∧ RTC 0 (rights o) w)
abbrev SL : List Nat := [20, 201, 204, 205, 21, 411]
theorem e_listRight {N : Nat} {o : Of} {w : Wd} (hN : 1000 ≤ N) (hf : Wf o) (hR : RO 0 o w) (hS : Ist o w) :
    ∃ w', f_X4_listRight N w = some w' ∧ ag SL w w' ∧ RTC 0 (rights o) w' ∧ gI w' 411 0 = nI 0 := by
  unfold f_X4_listRight
  simp only [bs, l0, l1, l2, l3, l4, l5, l6, l7, l8, l9, l10, l12, l15, l30, l31, l32, l40, l42, l48, l57, l60, l64, l98, l99, l100, l109, l110, l112, l115, l265, l1000, l518400, ngd]
  rcases hS with h | ⟨h, hr⟩
  · rw [h, iF (by decide)]
    obtain ⟨w', e, a1, a2⟩ := e_listAll (N := N) hN hf hR
    rw [e]
    simp only [bs, l0, l1, l2, l3, l4, l5, l6, l7, l8, l9, l10, l12, l15, l30, l31, l32, l40, l42, l48, l57, l60, l64, l98, l99, l100, l109, l110, l112, l115, l265, l1000, l518400, ngd]
    refine ⟨_, rfl, (a1.mono (by decide)).sI (by decide), ?_, by rw [gI_sI, if_pos ⟨rfl, rfl⟩]⟩
    refine ⟨?_, a2.2⟩
    rw [gI_sI, if_neg (by decide)]; exact a2.1
  · rw [h, iT rfl]
    exact ⟨w, rfl, ag.rf _ _, hr, h⟩
