/-! the model's list of right drawings -/
def mk (p : List Nat) : Nat := p.foldl (fun s y => s ||| 1 <<< y) 0
theorem mk_snoc (p : List Nat) (y : Nat) : mk (p ++ [y]) = mk p ||| 1 <<< y := by unfold mk; rw [List.foldl_append]; rfl
theorem shl_bit (y k : Nat) : (1 <<< y).testBit k = decide (y = k) := by rw [Nat.one_shiftLeft, Nat.testBit_two_pow]
theorem mk_bit0 (k : Nat) : ∀ (p : List Nat) (s : Nat), (p.foldl (fun s y => s ||| 1 <<< y) s).testBit k = (s.testBit k || decide (k ∈ p)) := by
  intro p
  induction p with
  | nil => intro s; simp
  | cons y t ih =>
    intro s
    rw [List.foldl_cons, ih, Nat.testBit_or, shl_bit]
    by_cases c : y = k
    · subst c; simp
    · have c' : ¬ k = y := fun e => c e.symm
      simp [c, c']
theorem mk_bit (p : List Nat) (k : Nat) : (mk p).testBit k = decide (k ∈ p) := by unfold mk; rw [mk_bit0]; simp
theorem mk_lt {p : List Nat} (h : ∀ y ∈ p, y < 6) : mk p < 64 := by
  refine tb_lt (n := 6) fun k hk => ?_
  rw [mk_bit, decide_eq_false_iff_not]
  intro hm; have := h k hm; omega
theorem clrbit : ∀ s, s < 64 → ∀ y, y < 6 → s.testBit y = false → (s ||| 1 <<< y) &&& ((1 <<< y) ^^^ 4294967295) = s := by decide +kernel
theorem notc (a : Nat) : nI a ^^^ ng 1 = nI (a ^^^ 4294967295) := by
  rw [show ng 1 = nI 4294967295 from by decide, nx_xor]
/-- the model's list -/
def RTS (n : Nat) (L : List (List Nat)) (w : Wd) : Prop := gI w 522 0 = nI L.length ∧ ∀ k, k < L.length → ∀ x, x < n → gA w 41 0 (6 * k + x) = nI (dg (dr L k) x)
theorem RTS_ag {S : List Nat} {n : Nat} {L : List (List Nat)} {w w' : Wd} (h : RTS n L w) (g : ag S w w') (hs : ∀ k ∈ [522, 41], k ∉ S := by decide) : RTS n L w' := by
  refine ⟨?_, fun k hk x hx => ?_⟩
  · rw [g.1 522 0 (hs 522 (by decide)) (by decide)]; exact h.1
  · rw [g.2.2 41 0 (hs 41 (by decide)) (by decide)]; exact h.2 k hk x hx
theorem dr_l {L M : List (List Nat)} {k : Nat} (h : k < L.length) : dr (L ++ M) k = dr L k := by
  unfold dr; simp [List.getD_eq_getElem?_getD, List.getElem?_append_left h]
theorem dr_r {L : List (List Nat)} {d : List Nat} : dr (L ++ [d]) L.length = d := by
  unfold dr; simp [List.getD_eq_getElem?_getD]
theorem e_rightOn_L1 {N c n : Nat} {rec : Int32 → Wd → Option Wd} (hn : n ≤ 6) (hc : c < 705) : ∀ (m k F : Nat) (w : Wd), gI w 510 0 = nI n → gI w 522 0 = nI c → k + m = n → m < F → ∃ w', X5_rightOn_L1 N rec F (nI k) w = some w' ∧ ag [41] w w' ∧ (∀ x, k ≤ x → x < n → gA w' 41 0 (6 * c + x) = gA w 40 0 x) ∧ ∀ j, j < 6 * c + k → gA w' 41 0 j = gA w 41 0 j := by
  intro m
  induction m with
  | zero =>
    intro k F w h1 h2 hk hF
    obtain ⟨F, rfl, _⟩ := fuel_s hF
    rw [X5_rightOn_L1, h1, iT (nI_le (by omega) (by omega))]
    exact ⟨w, rfl, ag.rf _ _, fun x a b => by omega, fun _ _ => rfl⟩
  | succ m ih =>
    intro k F w h1 h2 hk hF
    obtain ⟨F, rfl, hF'⟩ := fuel_s hF
    rw [X5_rightOn_L1, h1, iF (nI_ge (by omega) (by omega)), h2]
    simp only [bs, l0, l1, l2, l3, l4, l5, l6, l7, l8, l9, l10, l12, l15, l30, l31, l32, l40, l42, l48, l57, l60, l64, l98, l99, l100, l109, l110, l112, l115, l265, l1000, l518400, ngd]
    simp (disch := omega) only [pk_mul, nI_add, gd_in, nI_clamp]
    obtain ⟨w', e, a1, a2, a3⟩ := ih (k + 1) F (sA w 41 0 (upd (gA w 41 0) (6 * c + k) (gA w 40 0 k))) h1 h2 (by omega) (by omega)
    refine ⟨w', e, ((ag.rf _ w).sA (by decide)).tr a1, fun x b1 b2 => ?_, fun j hj => ?_⟩
    · rcases Nat.eq_or_lt_of_le b1 with q | q
      · subst q
        rw [a3 _ (by omega), gA_sA, if_pos ⟨rfl, rfl⟩]; exact pk_us
      · rw [a2 x (by omega) b2]; rfl
    · rw [a3 _ (by omega), gA_sA, if_pos ⟨rfl, rfl⟩]; exact pk_un (by omega)
abbrev SR : List Nat := [40, 41, 520, 522, 523]
theorem e_rightOn {N : Nat} {o : Of} (hN : 1000 ≤ N) (hf : Wf o) : ∀ (m D : Nat) (p : List Nat) (L : List (List Nat)) (w : Wd), m < D → p.length + m = oN o → (∀ y ∈ p, y < oN o) → p.Nodup → RM o w → (∀ x, x < p.length → gA w 40 0 x = nI (dg p x)) → gI w 523 0 = nI (mk p) → RTS (oN o) L w → L.length + (gen o m p).length ≤ 700 →
    ∃ w', f_X5_rightOn N D (nI p.length) w = some w' ∧ ag SR w w' ∧ (∀ x, x < p.length → gA w' 40 0 x = gA w 40 0 x) ∧ gI w' 523 0 = gI w 523 0 ∧ RTS (oN o) (L ++ gen o m p) w' := by
  have hn := hf.1
  intro m
  induction m with
  | zero =>
    intro D p L w hD hl hp hnd hR hO hm hT hb
    obtain ⟨D, rfl, _⟩ := fuel_s hD
    have hd : Pm (oN o) p := ⟨by omega, hp, hnd⟩
    have hO' : One (oN o) p w := fun x hx => hO x (by omega)
    obtain ⟨w1, e1, a1, a2⟩ := e_badBy (N := N) hN hf hd hR hO'
    rw [f_X5_rightOn, hR.1, iT (by rw [← hl]; rfl), e1]
    simp only [bs, l0, l1, l2, l3, l4, l5, l6, l7, l8, l9, l10, l12, l15, l30, l31, l32, l40, l42, l48, l57, l60, l64, l98, l99, l100, l109, l110, l112, l115, l265, l1000, l518400, ngd]
    have hbb : bb o p < 100 := by
      unfold bb
      cases fb o p (oN o) 0 with
      | some j => have := agn_lt o p j; dsimp only; omega
      | none => dsimp only; split <;> omega
    unfold gen at hb ⊢
    by_cases c : bb o p = 0
    · have hr : rt o p = true := (rt_bb o p).mpr c
      rw [if_pos hr] at hb ⊢
      rw [iT (by rw [c])]
      have hT1 := RTS_ag hT a1
      have hl1 : L.length + 1 ≤ 700 := by simpa using hb
      obtain ⟨w2, e2, b1, b2, b3⟩ := e_rightOn_L1 (N := N) (rec := f_X5_rightOn N D) (c := L.length) (n := oN o) hn (by omega) (oN o) 0 N w1 (RM_ag hR a1).1 hT1.1 (by omega) (by omega)
      rw [e2]
      simp only [bs, l0, l1, l2, l3, l4, l5, l6, l7, l8, l9, l10, l12, l15, l30, l31, l32, l40, l42, l48, l57, l60, l64, l98, l99, l100, l109, l110, l112, l115, l265, l1000, l518400, ngd]
      have h5 : gI w2 522 0 = nI L.length := by rw [agI b1 522 0]; exact hT1.1
      rw [h5, nI_add]
      refine ⟨_, rfl, ?_, fun x hx => ?_, ?_, ?_, fun k hk x hx => ?_⟩
      · exact ((a1.mono (by decide)).tr (b1.mono (by decide))).sI (by decide)
      · show gA w2 40 0 x = _
        rw [agA b1 40 0, agA a1 40 0]
      · rw [gI_sI, if_neg (by decide), agI b1 523 0, agI a1 523 0]
      · rw [gI_sI, if_pos ⟨rfl, rfl⟩]; simp
      · show gA w2 41 0 (6 * k + x) = _
        rw [List.length_append, List.length_singleton] at hk
        rcases Nat.lt_or_ge k L.length with q | q
        · rw [b3 _ (by omega), dr_l q]; exact hT1.2 k q x hx
        · obtain rfl : k = L.length := by omega
          rw [b2 x (by omega) hx, dr_r, agA a1 40 0]; exact hO' x hx
    · have hr : ¬ rt o p = true := fun q => c ((rt_bb o p).mp q)
      rw [if_neg hr] at hb ⊢
      rw [iF (fun q => c ((nI_eq (by omega) (by omega)).mp q)), List.append_nil]
      refine ⟨w1, rfl, a1.mono (by decide), fun x _ => by rw [agA a1 40 0], by rw [agI a1 523 0], RTS_ag hT a1⟩
  | succ m ih =>
    intro D p L w hD hl hp hnd hR hO hm hT hb
    obtain ⟨D, rfl, hD'⟩ := fuel_s hD
    have hp6 : ∀ y ∈ p, y < 6 := fun y hy => by have := hp y hy; omega
    have hmk := mk_lt hp6
    have loop : ∀ (j y F : Nat) (L : List (List Nat)) (w : Wd), y + j = oN o → j < F → RM o w → (∀ x, x < p.length → gA w 40 0 x = nI (dg p x)) → gI w 523 0 = nI (mk p) → RTS (oN o) L w → L.length + (gl (fun y => if y ∈ p ∨ ¬ bar o p.length y = 0 then [] else gen o m (p ++ [y])) j y).length ≤ 700 →
        ∃ w', X5_rightOn_L2 N (f_X5_rightOn N D) (nI p.length) F (nI y) w = some w' ∧ ag SR w w' ∧ (∀ x, x < p.length → gA w' 40 0 x = gA w 40 0 x) ∧ gI w' 523 0 = nI (mk p) ∧ RTS (oN o) (L ++ gl (fun y => if y ∈ p ∨ ¬ bar o p.length y = 0 then [] else gen o m (p ++ [y])) j y) w' := by
      intro j
      induction j with
      | zero =>
        intro y F L w hy hF hR hO hm hT hb
        obtain ⟨F, rfl, _⟩ := fuel_s hF
        rw [X5_rightOn_L2, hR.1, iT (nI_le (by omega) (by omega))]
        exact ⟨w, rfl, ag.rf _ _, fun _ _ => rfl, hm, by rw [gl, List.append_nil]; exact hT⟩
      | succ j jh =>
        intro y F L w hy hF hR hO hm hT hb
        obtain ⟨F, rfl, hF'⟩ := fuel_s hF
        have hy' : y < oN o := by omega
        have hx' : p.length < oN o := by omega
        have hbl := bar_le o p.length y
        rw [gl] at hb ⊢
        rw [X5_rightOn_L2, hR.1, iF (nI_ge (by omega) (by omega)), hm, e_has (by omega) (by omega), mk_bit]
        simp only [bs, l0, l1, l2, l3, l4, l5, l6, l7, l8, l9, l10, l12, l15, l30, l31, l32, l40, l42, l48, l57, l60, l64, l98, l99, l100, l109, l110, l112, l115, l265, l1000, l518400, ngd]
        by_cases c1 : y ∈ p
        · rw [iF (by simp only [c1, decide_true]; exact bnTc), nI_add]
          simp only [c1, true_or, if_true, List.nil_append] at hb ⊢
          exact jh (y + 1) F L w (by omega) (by omega) hR hO hm hT hb
        · rw [iT (by simp only [c1, decide_false]; exact bnFc), e_barOf hR hf hx' hy']
          simp only [bs, l0, l1, l2, l3, l4, l5, l6, l7, l8, l9, l10, l12, l15, l30, l31, l32, l40, l42, l48, l57, l60, l64, l98, l99, l100, l109, l110, l112, l115, l265, l1000, l518400, ngd]
          by_cases c2 : bar o p.length y = 0
          · simp only [c1, c2, not_true, false_or, if_false] at hb ⊢
            rw [iT (by trivial), gd_in (by omega) (by omega), nI_clamp (by omega)]
            rw [List.length_append] at hb
            have em : (mk p).testBit y = false := by rw [mk_bit]; simp [c1]
            have esh : nI 1 <<< (nI y &&& nI 31) = nI (1 <<< y) := shl1c (by omega)
            have e523 : gI (sA w 40 0 (upd (gA w 40 0) p.length (nI y))) 523 0 = nI (mk p) := hm
            rw [e523, esh, nx_or, ← mk_snoc, nI_add]
            have g1 : ag SR w (sI (sA w 40 0 (upd (gA w 40 0) p.length (nI y))) 523 0 (nI (mk (p ++ [y])))) := ((ag.rf _ w).sA (by decide)).sI (by decide)
            obtain ⟨w1, e1, a1, a2, a3, a4⟩ := ih D (p ++ [y]) L _ (by omega) (by rw [List.length_append, List.length_singleton]; omega) (fun z hz => by
                rcases List.mem_append.mp hz with q | q
                · exact hp z q
                · rw [List.mem_singleton.mp q]; exact hy') (by
                rw [List.nodup_append]
                refine ⟨hnd, by simp, fun a ha b hb e => ?_⟩
                rw [List.mem_singleton.mp hb] at e
                rw [e] at ha
                exact c1 ha) (RM_ag hR g1) (fun x hx => by
                rw [List.length_append, List.length_singleton] at hx
                show upd (gA w 40 0) p.length (nI y) x = _
                by_cases q : x = p.length
                · rw [q, pk_us, dg_app_r]
                · rw [pk_un q, dg_app_l (by omega)]; exact hO x (by omega)) (by rw [gI_sI, if_pos ⟨rfl, rfl⟩]) (by
                refine ⟨?_, fun k hk x hx => hT.2 k hk x hx⟩
                rw [gI_sI, if_neg (by decide)]; exact hT.1) (by omega)
            rw [List.length_append, List.length_singleton] at e1
            rw [e1]
            simp only [bs, l0, l1, l2, l3, l4, l5, l6, l7, l8, l9, l10, l12, l15, l30, l31, l32, l40, l42, l48, l57, l60, l64, l98, l99, l100, l109, l110, l112, l115, l265, l1000, l518400, ngd]
            rw [a3, gI_sI, iT ⟨rfl, rfl⟩, notc, nx_and, mk_snoc, clrbit _ hmk _ (by omega) em, nI_add]
            have g2 : ag SR w (sI w1 523 0 (nI (mk p))) := (g1.tr a1).sI (by decide)
            have hO2 : ∀ x, x < p.length → gA (sI w1 523 0 (nI (mk p))) 40 0 x = gA w 40 0 x := fun x hx => by
              show gA w1 40 0 x = _
              rw [a2 x (by rw [List.length_append, List.length_singleton]; omega)]
              show upd (gA w 40 0) p.length (nI y) x = _
              exact pk_un (by omega)
            obtain ⟨w2, e2, b1, b2, b3, b4⟩ := jh (y + 1) F (L ++ gen o m (p ++ [y])) _ (by omega) (by omega) (RM_ag hR g2) (fun x hx => by rw [hO2 x hx]; exact hO x hx) (by rw [gI_sI, if_pos ⟨rfl, rfl⟩]) (by
                refine ⟨?_, fun k hk x hx => a4.2 k hk x hx⟩
                rw [gI_sI, if_neg (by decide)]; exact a4.1) (by rw [List.length_append]; omega)
            refine ⟨w2, e2, g2.tr b1, fun x hx => (b2 x hx).trans (hO2 x hx), ?_, ?_⟩
            · exact b3
            · rw [← List.append_assoc]; exact b4
          · simp only [c1, c2, not_false_eq_true, or_true, if_true, List.nil_append] at hb ⊢
            rw [iF (fun q => c2 ((nI_eq (by omega) (by omega)).mp q)), nI_add]
            exact jh (y + 1) F L w (by omega) (by omega) hR hO hm hT hb
    obtain ⟨w1, e1, a1, a2, a3, a4⟩ := loop (oN o) 0 N L w (by omega) (by omega) hR hO hm hT hb
    rw [f_X5_rightOn, hR.1, iF (fun q => by have := (nI_eq (by omega) (by omega)).mp q; omega)]
    simp only [bs, l0, l1, l2, l3, l4, l5, l6, l7, l8, l9, l10, l12, l15, l30, l31, l32, l40, l42, l48, l57, l60, l64, l98, l99, l100, l109, l110, l112, l115, l265, l1000, l518400, ngd]
    rw [e1]
    exact ⟨w1, rfl, a1, a2, a3.trans hm.symm, a4⟩
/-! how many there can be -/
def exg (n : Nat) : Nat → List Nat → Nat
  | 0, _ => 1
  | m + 1, p => ((List.range' 0 n).map (fun y => if y ∈ p ∨ y = p.length then 0 else exg n m (p ++ [y]))).sum
theorem gl_len {F : Nat → List (List Nat)} {f : Nat → Nat} (h : ∀ y, (F y).length ≤ f y) : ∀ (m k : Nat), (gl F m k).length ≤ ((List.range' k m).map f).sum := by
  intro m
  induction m with
  | zero => intro k; simp [gl]
  | succ m ih =>
    intro k
    rw [gl, List.length_append, List.range'_succ, List.map_cons, List.sum_cons]
    have := ih (k + 1)
    have := h k
    omega
theorem bar_self (o : Of) (x : Nat) : bar o x x = 1 := by unfold bar; simp
theorem gen_exg (o : Of) : ∀ (m : Nat) (p : List Nat), (gen o m p).length ≤ exg (oN o) m p := by
  intro m
  induction m with
  | zero => intro p; unfold gen exg; split <;> simp
  | succ m ih =>
    intro p
    unfold gen exg
    refine gl_len (fun y => ?_) _ _
    by_cases c : y ∈ p ∨ ¬ bar o p.length y = 0
    · rw [if_pos c]; exact Nat.zero_le _
    · rw [if_neg c, if_neg]
      · exact ih _
      · rintro (q | q)
        · exact c (Or.inl q)
        · refine c (Or.inr ?_)
          rw [q, bar_self]; decide
set_option maxRecDepth 100000 in
theorem exg_all : ∀ n, n < 7 → exg n n [] ≤ 265 := by decide +kernel
theorem rights_len {o : Of} (hf : Wf o) : (rights o).length ≤ 265 := Nat.le_trans (gen_exg o _ _) (exg_all _ (by have := hf.1; omega))
theorem e_setRights {N : Nat} {o : Of} {w : Wd} (hN : 1000 ≤ N) (hf : Wf o) (hR : RM o w) : ∃ w', f_X5_setRights N w = some w' ∧ ag SR w w' ∧ RTS (oN o) (rights o) w' := by
  unfold f_X5_setRights
  simp only [bs, l0, l1, l2, l3, l4, l5, l6, l7, l8, l9, l10, l12, l15, l30, l31, l32, l40, l42, l48, l57, l60, l64, l98, l99, l100, l109, l110, l112, l115, l265, l1000, l518400, ngd]
  have g : ag SR w (sI (sI w 522 0 (nI 0)) 523 0 (nI 0)) := ((ag.rf _ w).sI (by decide)).sI (by decide)
  have hn := hf.1
  have hl := rights_len hf
  obtain ⟨w1, e1, a1, a2, a3, a4⟩ := e_rightOn (N := N) hN hf (oN o) 8 [] [] _ (by omega) (by simp) (by simp) (by simp) (RM_ag hR g) (fun x hx => by simp at hx) (by rw [gI_sI, if_pos ⟨rfl, rfl⟩]; rfl) ⟨by rw [gI_sI, if_neg (by decide), gI_sI, if_pos ⟨rfl, rfl⟩]; rfl, fun k hk => by simp at hk⟩ (by
    show 0 + (rights o).length ≤ 700
    omega)
  rw [show nI 0 = nI ([] : List Nat).length from rfl] at *
  rw [e1]
  exact ⟨w1, rfl, g.tr a1, a4⟩
